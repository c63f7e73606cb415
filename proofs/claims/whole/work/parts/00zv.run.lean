-- a script run on a trial, both sides
def m_doesQ (K : Nat → Nat → Int) (w : Nat → Int) (q : QS) : Nat → Int := (m_does K w q.1 q.2.1 q.2.2.1 q.2.2.2.1 q.2.2.2.2).2
def m_stopW (K : Nat → Nat → Int) (w : Nat → Int) (q : QS) : Int := m_stops K w q.1 q.2.1 q.2.2.1 q.2.2.2.1 q.2.2.2.2
def m_run (K : Nat → Nat → Int) (stp : Nat → QS) : Nat → Nat → (Nat → Int) → Nat × (Nat → Int)
  | 0, i, w => (i, w)
  | n + 1, i, w => if m_stopW K w (stp i) = -1 then m_run K stp n (i + 1) (m_doesQ K w (stp i)) else (i, w)
def SRC : Nat → Nat → Prop := fun c _ => (186 ≤ c ∧ c < 199) ∨ (744 ≤ c ∧ c ≤ 752)
def SRR : Nat → Nat → Prop := fun c j => SD 777 c j ∨ (c = 758 ∧ j = 41)
section S_RN
variable {σ σ' K : Nat → Nat → Int} {I : Nat → Int} {LI hi : Int} {stp : Nat → QS} {len a a1 v : Nat}
theorem WSL.does {w : Nat → Int} {q : QS} (hK : WK K) (hS : WS K w) (hL : WL K w) (hq : QW q) (d : m_stopW K w q = -1) : WS K (m_doesQ K w q) ∧ WL K (m_doesQ K w q) := m_does_in hK hS hL (OK.of d hq.1 hq.2.2.1)
set_option maxHeartbeats 4000000 in
theorem C_run (hK : WK K) (ha : 42 ≤ a ∧ a + 26 ≤ 173) (hl : len ≤ 12) (hW : ∀ i, i < len → QW (stp i)) (hx : a1 ∈ ax_iX1) : ∀ (n k i : Nat) (w : Nat → Int) (σ : Nat → Nat → Int), RS σ 186 K w (-1) 0 → RC σ a1 K → (σ 0 2).toNat = a1 → WS K w → WL K w → QC σ a stp len → i + n = len → n < k →
    ∃ σ', f_X11_runOnTrial_2 k a (i : Int) σ = some (((m_run K stp n i w).1 : Int), σ') ∧ RS σ' 186 K (m_run K stp n i w).2 (-1) 0 ∧ FM SRC σ σ' := by
  have hkn := hK.n
  have hx1 := ax_a hx
  intro n
  induction n with
  | zero =>
    intro k i w σ hR hC h02 hS hL hQ hi hk
    obtain ⟨k, rfl⟩ : ∃ j, k = j + 1 := ⟨k - 1, by omega⟩
    refine ⟨σ, ?_, hR, FM.refl⟩
    rw [f_X11_runOnTrial_2, hQ.1, if_pos (by omega)]
    show some ((len : Int), σ) = some ((i : Int), σ)
    rw [show i = len from by omega]
  | succ n ih =>
    intro k i w σ hR hC h02 hS hL hQ hi hk
    obtain ⟨k, rfl⟩ : ∃ j, k = j + 1 := ⟨k - 1, by omega⟩
    have hw := hW i (by omega)
    obtain ⟨w0, w1, w2, w3, w4, w5⟩ := hw
    obtain ⟨σ1, g1, g2⟩ := C_refusalOf (a1 := a1) hR hC hK hS (by omega) (by omega) (by omega) (hQ.2 i (by omega)) w0 (fun q => by have := w2 q; omega) (by omega)
    have gc : ∀ c, ¬ (744 ≤ c ∧ c ≤ 752) → σ1 c = σ c := fun c hc => funext fun j => g2 c j (by unfold SF; omega)
    rw [f_X11_runOnTrial_2, hQ.1, if_neg (by omega), h02, if_pos hx, if_pos (by omega)]
    rw [show (i : Int).toNat = i from by omega, g1, Option.bind_some]
    dsimp only
    unfold m_run
    by_cases d : m_stopW K w (stp i) = -1
    · have hok := OK.of d w0 w2
      obtain ⟨σ2, k1, k2, k3⟩ := C_carryOut (a1 := a1) (hR.frame (σ' := σ1) (fun c _ _ => gc c (by omega))) (hC.frame (σ' := σ1) (by omega) (fun c _ _ => gc c (by omega))) hK hS hL (by omega) (by omega) (by omega) ((hQ.frame (σ' := σ1) hl (fun c _ _ => gc c (by omega))).2 i (by omega)) hok
      have kc : ∀ c, ¬ ((744 ≤ c ∧ c ≤ 752) ∨ (186 ≤ c ∧ c < 199)) → σ2 c = σ c := fun c hc => (funext fun j => k3 c j (by unfold SA; omega) : σ2 c = σ1 c).trans (gc c (by omega))
      obtain ⟨wS, wL⟩ := WSL.does hK hS hL (hW i (by omega)) d
      obtain ⟨σ3, l1, l2, l3⟩ := ih k (i + 1) (m_doesQ K w (stp i)) σ2 k2 (hC.frame (by omega) (fun c _ _ => kc c (by omega))) (by rw [kc 0 (by omega)]; exact h02) wS wL (hQ.frame hl (fun c _ _ => kc c (by omega))) (by omega) (by omega)
      rw [if_pos (show m_stops K w (stp i).1 (stp i).2.1 (stp i).2.2.1 (stp i).2.2.2.1 (stp i).2.2.2.2 = -1 from d)]
      have e02 : (σ1 0 2).toNat = a1 := by rw [gc 0 (by omega)]; exact h02
      simp only [e02]
      rw [if_pos hx, if_pos (by omega), k1, Option.bind_some, if_pos d]
      refine ⟨σ3, ?_, l2, ((g2.mono (fun c j hc => by unfold SF at hc; unfold SRC; omega)).trans (k3.mono (fun c j hc => by unfold SA at hc; unfold SRC; omega))).trans l3⟩
      rw [zid (by omega) (by omega)]
      exact l1
    · rw [if_neg (show ¬ m_stops K w (stp i).1 (stp i).2.1 (stp i).2.2.1 (stp i).2.2.2.1 (stp i).2.2.2.2 = -1 from d), if_neg d]
      exact ⟨σ1, rfl, hR.frame (fun c _ _ => gc c (by omega)), g2.mono (fun c j hc => by unfold SF at hc; unfold SRC; omega)⟩
theorem m_Q_who {w : Nat → Int} {q : QS} {who : Int} (h : q.1 = 2 ∨ q.1 = 3 → who = q.2.2.2.2) : m_stops K w q.1 q.2.1 q.2.2.1 q.2.2.2.1 who = m_stopW K w q ∧ m_does K w q.1 q.2.1 q.2.2.1 q.2.2.2.1 who = m_does K w q.1 q.2.1 q.2.2.1 q.2.2.2.1 q.2.2.2.2 := by
  by_cases e : q.1 = 2 ∨ q.1 = 3
  · rw [h e]
    exact ⟨rfl, rfl⟩
  · refine ⟨?_, ?_⟩
    · unfold m_stopW m_stops
      rw [if_neg (show ¬ q.1 = 2 by omega), if_neg (show ¬ q.1 = 3 by omega), if_neg (show ¬ q.1 = 2 by omega), if_neg (show ¬ q.1 = 3 by omega)]
    · unfold m_does
      rw [if_neg (show ¬ q.1 = 2 by omega), if_neg (show ¬ q.1 = 3 by omega), if_neg (show ¬ q.1 = 2 by omega), if_neg (show ¬ q.1 = 3 by omega)]
set_option maxHeartbeats 4000000 in
theorem R_run {w2 : Int} (hK : WK K) (hv : v < 5) (hl : len ≤ 12) (hW : ∀ i, i < len → QW (stp i)) : ∀ (n k i : Nat) (σ : Nat → Nat → Int), RM σ K → σ 758 38 = -1 → 0 ≤ σ 758 39 → WS K (σ 777) → WL K (σ 777) → QR σ v stp len → i + n = len → n + 1 < k →
    ∃ σ', f_X12_run_52 k (v : Int) w2 (i : Int) 1 σ = some (if w2 = 1 then (m_run K stp n i (σ 777)).2 43 else if ((m_run K stp n i (σ 777)).1 : Int) = len then -1 else ((m_run K stp n i (σ 777)).1 : Int), σ') ∧ FM SRR σ σ' := by
  intro n
  have hend : ∀ (i : Nat) (σ : Nat → Nat → Int), QR σ v stp len → f_X12_run_201 (v : Int) w2 (i : Int) σ = some (if w2 = 1 then σ 777 43 else if (i : Int) = len then -1 else (i : Int), σ) := fun i σ hQ => by
    unfold f_X12_run_201
    by_cases d : w2 = 1
    · rw [if_pos d, if_pos d]
    · rw [if_neg d, if_neg d, if_pos (by omega), show (v : Int).toNat = v from by omega, hQ.1]
      by_cases e : (i : Int) = len
      · rw [if_pos e, if_pos e]
      · rw [if_neg e, if_neg e]
  induction n with
  | zero =>
    intro k i σ hM h38 h39 hS hL hQ hi hk
    obtain ⟨k, rfl⟩ : ∃ j, k = j + 1 := ⟨k - 1, by omega⟩
    refine ⟨σ, ?_, FM.refl⟩
    rw [f_X12_run_52, if_neg (by omega), if_pos (by omega), show (v : Int).toNat = v from by omega, hQ.1, if_pos (by omega), hend i σ hQ]
    rfl
  | succ n ih =>
    intro k i σ hM h38 h39 hS hL hQ hi hk
    obtain ⟨k, rfl⟩ : ∃ j, k = j + 1 := ⟨k - 1, by omega⟩
    have hw := hW i (by omega)
    obtain ⟨w0, w1, w2', w3, w4, w5⟩ := hw
    have e1 : z_w (z_w (12 * (v : Int)) + (i : Int)) = ((12 * v + i : Nat) : Int) := by rw [zid (x := 12 * (v : Int)) (by omega) (by omega), zid (by omega) (by omega)]; omega
    have e2 : z_w (4 * ((12 * v + i : Nat) : Int)) = ((4 * (12 * v + i) : Nat) : Int) := by rw [zid (by omega) (by omega)]; omega
    have e3 : z_w (((4 * (12 * v + i) : Nat) : Int) + 1) = ((4 * (12 * v + i) + 1 : Nat) : Int) := by rw [zid (by omega) (by omega)]; omega
    have e4 : z_w (((4 * (12 * v + i) : Nat) : Int) + 2) = ((4 * (12 * v + i) + 2 : Nat) : Int) := by rw [zid (by omega) (by omega)]; omega
    have e5 : z_w (((4 * (12 * v + i) : Nat) : Int) + 3) = ((4 * (12 * v + i) + 3 : Nat) : Int) := by rw [zid (by omega) (by omega)]; omega
    obtain ⟨q0, q1, q2, q3, q4⟩ := hQ.2 i (by omega)
    rw [f_X12_run_52, if_neg (by omega), if_pos (by omega), show (v : Int).toNat = v from by omega, hQ.1, if_neg (by omega), e1, if_pos (by omega), e2, if_pos (by omega), e3, if_pos (by omega), e4, if_pos (by omega), e5, if_pos (by omega)]
    simp only [Int.toNat_natCast]
    rw [u2_c (by omega), u2_c (by omega), u2_c (by omega), u2_c (by omega), q0, q1, q2, q3]
    have hm0 : FM SRR σ (u2 σ 758 41 (σ 775 (12 * v + i))) := FM.refl.u (Or.inr ⟨rfl, rfl⟩)
    have nm : NM SRR := fun c j h => by unfold SRR SD at h; omega
    have hM1 := hM.fm hm0 nm
    have e777 : (u2 σ 758 41 (σ 775 (12 * v + i))) 777 = σ 777 := u2_ne (by omega)
    obtain ⟨σ1, g1, g2⟩ := R_stops (y := (stp i).2.2.1) (z := (stp i).2.2.2.1) (b := 777) hM1 hK (by rw [e777]; exact hS) (by omega) (by omega) ((u2_i (by omega)).trans h38) u2_e (show -2147483648 ≤ (stp i).2.1 ∧ (stp i).2.1 < 2147483648 by omega) w0
    rw [e777] at g1
    obtain ⟨es1, es2⟩ := m_Q_who (K := K) (w := σ 777) (q := stp i) q4
    rw [es1] at g1
    rw [g1, Option.bind_some]
    dsimp only
    have g2' := g2.mono (T := SRR) (fun c j hc => by unfold SS at hc; unfold SRR SD; omega)
    have g4 : FM SRR σ σ1 := hm0.trans g2'
    have f777 : σ1 777 = σ 777 := (funext fun j => g2 777 j (by unfold SS; omega) : σ1 777 = _).trans e777
    unfold f_X12_run_143 m_run
    by_cases d : m_stopW K (σ 777) (stp i) = -1
    · rw [if_pos d, if_pos d, if_neg (show ¬ (1 : Int) = 0 by omega), if_pos (by omega), e3, if_pos (by omega), e4, if_pos (by omega), e5, if_pos (by omega)]
      simp only [Int.toNat_natCast]
      have f773 : σ1 773 = σ 773 := funext fun j => g4 773 j (by unfold SRR SD; omega)
      rw [f773, q0, q1, q2, q3]
      have hok : OK K (σ 777) (stp i).1 (stp i).2.1 (stp i).2.2.1 (stp i).2.2.2.1 (σ 775 (12 * v + i)) := OK.of (es1.trans d) w0 (fun q => by rw [q4 q]; exact w2' q)
      obtain ⟨σ2, k1, k2, k3, k4⟩ := R_does (b := 777) (hM.fm g4 nm) hK (by rw [f777]; exact hS) (by rw [f777]; exact hL) (by omega) (by omega) ((g4 758 38 (by unfold SRR SD; omega)).trans h38) (by rw [g4 758 39 (by unfold SRR SD; omega)]; exact h39) ((g2 758 41 (by unfold SS; omega)).trans u2_e) (by rw [f777]; exact hok)
      rw [f777, es2] at k2
      have k5 : FM SRR σ σ2 := g4.trans (k4.mono (fun c j hc => Or.inl hc))
      obtain ⟨wS, wL⟩ := WSL.does hK hS hL (hW i (by omega)) d
      rw [k1, Option.bind_some, zid (by omega) (by omega)]
      have hI := ih k (i + 1) σ2 (hM.fm k5 nm) ((k5 758 38 (by unfold SRR SD; omega)).trans h38) (by rw [k5 758 39 (by unfold SRR SD; omega)]; exact h39) (by rw [k2]; exact wS) (by rw [k2]; exact wL) (hQ.frame (fun c _ _ => funext fun j => k5 c j (by unfold SRR SD; omega))) (by omega) (by omega)
      rw [k2] at hI
      obtain ⟨σ3, l1, l2⟩ := hI
      exact ⟨σ3, l1, k5.trans l2⟩
    · rw [if_neg d, if_neg d, if_pos rfl]
      obtain ⟨k, rfl⟩ : ∃ j, k = j + 1 := ⟨k - 1, by omega⟩
      refine ⟨σ1, ?_, g4⟩
      rw [f_X12_run_52, if_pos rfl, hend i σ1 (hQ.frame (fun c _ _ => funext fun j => g4 c j (by unfold SRR SD; omega))), f777]
set_option maxHeartbeats 4000000 in
theorem P_run {L n v1 v2 : Int} {H : Int → Nat → Int} {N : Nat} {stp : Nat → Nat → QS} {len : Nat → Nat} (h : PV σ K L LI n H hi) (hQ : QV σ N stp len) (hK : WK K) : ∃ r σ1 σ2, f_X11_run v1 v2 σ = some (r, σ1) ∧ f_X12_run v1 v2 σ1 = some (r, σ2) ∧ FM SRC σ σ1 ∧ FM (fun c j => SRR c j ∨ (c = 758 ∧ j = 0)) σ1 σ2 := by
  have hkn := hK.n
  obtain ⟨hC, hR, hD, hc⟩ := h
  have e21 := hR.1.n0
  obtain ⟨q0, q1, q2, q3⟩ := hQ
  by_cases d : (0 ≤ v1 ∧ v1 < N) ∧ (0 ≤ v2 ∧ v2 ≤ 1)
  · obtain ⟨v, rfl⟩ : ∃ v : Nat, v1 = (v : Int) := ⟨v1.toNat, by omega⟩
    obtain ⟨t0, t1, t2, t3⟩ := q3 v (by omega)
    have hrow : ∀ j, j < 256 → (ov (σ 776) 0 (σ 777) 0 256) j = σ 776 j := fun j hj => by
      unfold ov
      rw [if_pos (by omega), show 0 + (j - 0) = j from by omega]
    obtain ⟨σ1, g1, g2, g3⟩ := C_copyFrom (d := 186) hK.kl hC.2.2.1 (WS.kl.mpr hD.1) (by omega)
    have hK' := hK.kl (L := L)
    have hn := hD.1.n
    have hS' : WS (KL K L) (ov (σ 776) 0 (σ 777) 0 256) := (WS.kl.mpr hD.1).cg75 hK' (fun j hj => hrow j (by omega))
    have hL' : WL (KL K L) (ov (σ 776) 0 (σ 777) 0 256) := (WL.kl.mpr hD.2.1).cg75 hK' (fun j hj => hrow j (by omega))
    have ha := ax_a hC.1
    obtain ⟨σ2, k1, k2, k3⟩ := C_run (a1 := (σ 0 2).toNat) hK' (by omega) t0.2 t3 hC.1 (len v) 100000 0 _ σ1 (g2.cg75 hK' (by omega) (fun j hj => hrow j (by omega))) (hC.2.1.kl.frame (by have e0 : KL K L 0 = K 0 := KL_n (by omega); rw [e0]; omega) (fun c _ _ => g3 c (by omega))) (by rw [g3 0 (by omega)]) hS' hL' (t1.frame t0.2 (fun c _ _ => g3 c (by omega))) (by omega) (by omega)
    have g4 : FM SRC σ σ2 := (g3.fm (fun c j hc => by unfold SRC; omega)).trans k3
    have gr : ∀ c, 758 ≤ c → σ2 c = σ c := fun c hc => funext fun j => g4 c j (by unfold SRC; omega)
    have e776 : (u2 σ2 758 0 0) 776 = σ 776 := (u2_ne (by omega)).trans (gr 776 (by omega))
    have e777 : (u2 σ2 758 0 0) 777 = σ 777 := (u2_ne (by omega)).trans (gr 777 (by omega))
    have e3 : f_X12_copyRow 776 256 0 777 256 0 (u2 σ2 758 0 0) = some (setR (u2 σ2 758 0 0) 777 (ov (σ 776) 0 (σ 777) 0 256)) := by
      rw [R_copyRow (Or.inl (by omega)) (by omega) (by omega) (by omega) (by omega) (by omega) (by omega), e776, e777]
      rfl
    have hf : ∀ c, c ≠ 758 → c ≠ 777 → (setR (u2 σ2 758 0 0) 777 (ov (σ 776) 0 (σ 777) 0 256)) c = σ2 c := fun c q1 q2 => by rw [setR_n q2, u2_ne q1]
    have hf2 : ∀ j, j ≠ 0 → (setR (u2 σ2 758 0 0) 777 (ov (σ 776) 0 (σ 777) 0 256)) 758 j = σ 758 j := fun j q1 => by rw [setR_n (by omega), u2_i q1, gr 758 (by omega)]
    have e777' : (setR (u2 σ2 758 0 0) 777 (ov (σ 776) 0 (σ 777) 0 256)) 777 = ov (σ 776) 0 (σ 777) 0 256 := setR_s
    have hm : FM (fun c j => SRR c j ∨ (c = 758 ∧ j = 0)) σ2 (setR (u2 σ2 758 0 0) 777 (ov (σ 776) 0 (σ 777) 0 256)) := (FM.refl.u (Or.inr ⟨rfl, rfl⟩)).r (fun j => by unfold SRR SD; omega)
    generalize (setR (u2 σ2 758 0 0) 777 (ov (σ 776) 0 (σ 777) 0 256)) = σ3 at *
    have hR3 := R_run (w2 := v2) hK' (by omega) t0.2 t3 (len v) 100000 0 σ3 (hR.1.kl.frame (fun c hc => (hf c (by omega) (by omega)).trans (gr c (by omega))) (fun j hj => hf2 j (by omega))) ((hf2 38 (by omega)).trans hR.2.2.2.1) (by rw [hf2 39 (by omega)]; exact hR.2.2.2.2) (by rw [e777']; exact hS') (by rw [e777']; exact hL') (t2.frame (fun c _ _ => (hf c (by omega) (by omega)).trans (gr c (by omega)))) (by omega) (by omega)
    rw [e777'] at hR3
    obtain ⟨σ4, l1, l2⟩ := hR3
    refine ⟨?_, σ2, σ4, ?_, ?_, g4, hm.trans (l2.mono (fun c j hc => Or.inl hc))⟩
    rotate_left 2
    · unfold f_X12_run f_X12_isScript
      rw [u2_i (by omega), u2_i (by omega), gr 758 (by omega), q1, zid (by omega) (by omega), R_isIn_y d.1.1 (by omega), Option.bind_some, Option.bind_some, if_neg (show ¬ (1 : Int) = 0 by omega), if_neg (by omega), R_isIn_y d.2.1 d.2.2, Option.bind_some, if_neg (show ¬ (1 : Int) = 0 by omega), e3, Option.bind_some]
      exact l1
    · unfold f_X11_run
      rw [if_pos hC.1, C_isTold_y hC.2.1 (by omega), Option.bind_some, if_neg (show ¬ (1 : Int) = 0 by omega), if_neg (by omega), q0, if_neg (by omega), if_neg (by omega), if_pos d.2.2, g1, Option.bind_some, if_pos (by omega)]
      unfold f_X11_runOnTrial
      rw [show ((v : Int)).toNat = v from by omega, show (0 : Int) = ((0 : Nat) : Int) from rfl, k1, Option.bind_some]
      dsimp only
      by_cases e : v2 = 1
      · rw [if_pos e, if_pos e, k2.n2]
      · rw [if_neg e, if_neg e, if_pos (by omega)]
        have e43 : σ2 (43 + 26 * v) 1 = (len v : Int) := by rw [k3 (43 + 26 * v) 1 (by unfold SRC; omega), g3 (43 + 26 * v) (by omega), t1.1]
        simp only [e43]
        by_cases f : ((m_run (KL K L) (stp v) (len v) 0 (ov (σ 776) 0 (σ 777) 0 256)).1 : Int) = (len v : Int)
        · rw [if_pos f, if_pos f]
        · rw [if_neg f, if_neg f]
  · refine ⟨-1000000, σ, u2 σ 758 0 0, ?_, ?_, FM.refl, FM.refl.u (Or.inr ⟨rfl, rfl⟩)⟩
    · unfold f_X11_run
      rw [if_pos hC.1, C_isTold_y hC.2.1 (by omega), Option.bind_some, if_neg (show ¬ (1 : Int) = 0 by omega)]
      by_cases e : v1 < 0
      · rw [if_pos e]
      rw [if_neg e, q0]
      by_cases e : (N : Int) ≤ v1
      · rw [if_pos e]
      rw [if_neg e]
      by_cases e : v2 < 0
      · rw [if_pos e]
      rw [if_neg e, if_neg (by omega)]
    · unfold f_X12_run f_X12_isScript
      rw [u2_i (by omega), u2_i (by omega), q1, zid (by omega) (by omega)]
      by_cases e : 0 ≤ v1 ∧ v1 < N
      · rw [R_isIn_y e.1 (by omega), Option.bind_some, Option.bind_some, if_neg (show ¬ (1 : Int) = 0 by omega), if_neg (by omega), R_isIn_n (by omega), Option.bind_some, if_pos rfl]
      · rw [R_isIn_n (by omega), Option.bind_some, Option.bind_some, if_pos rfl]
end S_RN
