-- a script performed, both sides
abbrev QS : Type := Int × Int × Int × Int × Int
def m_tryQ (K : Nat → Nat → Int) (s : AS) (q : QS) : AS := m_try K s q.1 q.2.1 q.2.2.1 q.2.2.2.1 q.2.2.2.2
def m_stopQ (K : Nat → Nat → Int) (s : AS) (q : QS) : Int := m_stops (KL K s.2.1) s.1 q.1 q.2.1 q.2.2.1 q.2.2.2.1 q.2.2.2.2
/-- n steps from the i-th on, until one is refused: how many were done, what stands then -/
def m_perf (K : Nat → Nat → Int) (stp : Nat → QS) : Nat → Nat → AS → Nat × AS
  | 0, i, s => (i, s)
  | n + 1, i, s => if m_stopQ K s (stp i) = -1 then m_perf K stp n (i + 1) (m_tryQ K s (stp i)) else (i, s)
/-- a step as it may be told -/
def QW (q : QS) : Prop := (0 ≤ q.1 ∧ q.1 ≤ 6) ∧ (-1 ≤ q.2.1 ∧ q.2.1 ≤ 60) ∧ (q.1 = 2 ∨ q.1 = 3 → 0 < q.2.2.2.2 ∧ q.2.2.2.2 < 4611686018427387904 ∧ NB q.2.2.2.2) ∧ (q.1 = 6 → q.2.1 = -1) ∧ (¬ (q.1 = 1 ∨ q.1 = 2) → q.2.2.1 = -1) ∧ (q.1 ≠ 2 → q.2.2.2.1 = -1)
/-- the class's script at a, the reference's of number v -/
def QC (σ : Nat → Nat → Int) (a : Nat) (stp : Nat → QS) (len : Nat) : Prop := σ a 1 = len ∧ ∀ i, i < len → TS σ (a + 2 + 2 * i) (stp i).1 (stp i).2.1 (stp i).2.2.1 (stp i).2.2.2.1 (stp i).2.2.2.2
def QR (σ : Nat → Nat → Int) (v : Nat) (stp : Nat → QS) (len : Nat) : Prop := σ 774 v = len ∧ ∀ i, i < len → σ 773 (4 * (12 * v + i)) = (stp i).1 ∧ σ 773 (4 * (12 * v + i) + 1) = (stp i).2.1 ∧ σ 773 (4 * (12 * v + i) + 2) = (stp i).2.2.1 ∧ σ 773 (4 * (12 * v + i) + 3) = (stp i).2.2.2.1 ∧ ((stp i).1 = 2 ∨ (stp i).1 = 3 → σ 775 (12 * v + i) = (stp i).2.2.2.2)
/-- the scripts -/
def QV (σ : Nat → Nat → Int) (N : Nat) (stp : Nat → Nat → QS) (len : Nat → Nat) : Prop := σ 0 5 = N ∧ σ 758 30 = N ∧ N ≤ 4 ∧ ∀ v, v < N → (1 ≤ len v ∧ len v ≤ 12) ∧ QC σ (43 + 26 * v) (stp v) (len v) ∧ QR σ v (stp v) (len v) ∧ ∀ i, i < len v → QW (stp v i)
section S_PF
variable {σ σ' K : Nat → Nat → Int} {s : AS} {I : Nat → Int} {LI hi : Int} {stp : Nat → QS} {len a v : Nat}
theorem QC.frame (h : QC σ a stp len) (hl : len ≤ 12) (hf : ∀ c, a ≤ c → c < a + 26 → σ' c = σ c) : QC σ' a stp len := by
  obtain ⟨h1, h2⟩ := h
  refine ⟨by rw [hf a (by omega) (by omega)]; exact h1, fun i hi => ?_⟩
  have := h2 i hi
  unfold TS at this ⊢
  rw [hf (a + 2 + 2 * i) (by omega) (by omega), hf (a + 2 + 2 * i + 1) (by omega) (by omega)]
  exact this
theorem QR.frame (h : QR σ v stp len) (hf : ∀ c, 773 ≤ c → c ≤ 775 → σ' c = σ c) : QR σ' v stp len := by
  unfold QR
  rw [hf 773 (by omega) (by omega), hf 774 (by omega) (by omega), hf 775 (by omega) (by omega)]
  exact h
theorem QV.frame {N : Nat} {stp : Nat → Nat → QS} {len : Nat → Nat} (h : QV σ N stp len) (h0 : σ' 0 5 = σ 0 5) (h1 : σ' 758 30 = σ 758 30) (hf : ∀ c, 43 ≤ c → c < 173 → σ' c = σ c) (hg : ∀ c, 773 ≤ c → c ≤ 775 → σ' c = σ c) : QV σ' N stp len := by
  obtain ⟨p0, p1, p2, p3⟩ := h
  refine ⟨h0.trans p0, h1.trans p1, p2, fun v hv => ?_⟩
  obtain ⟨q0, q1, q2, q3⟩ := p3 v hv
  exact ⟨q0, q1.frame q0.2 (fun c _ _ => hf c (by omega) (by omega)), q2.frame hg, q3⟩
theorem m_perf_L : ∀ n i s, (m_perf K stp n i s).2.2.1 ≤ s.2.1 + n := by
  intro n
  induction n with
  | zero => intro i s; show s.2.1 ≤ _; omega
  | succ n ih =>
    intro i s
    unfold m_perf
    split
    · have h1 := ih (i + 1) (m_tryQ K s (stp i))
      have h2 : (m_tryQ K s (stp i)).2.1 ≤ s.2.1 + 1 := m_try_L
      omega
    · show s.2.1 ≤ _
      omega
set_option maxHeartbeats 4000000 in
theorem C_perf (hK : WK K) (ha : 42 ≤ a ∧ a + 26 ≤ 173) (hl : len ≤ 12) (hW : ∀ i, i < len → QW (stp i)) : ∀ (n k i : Nat) (s : AS) (σ : Nat → Nat → Int), CA σ K s hi I LI → QC σ a stp len → s.2.1 + n < 2147483646 → i + n = len → n < k →
    ∃ σ', f_X11_perform_33 k a (i : Int) σ = some (((m_perf K stp n i s).1 : Int), σ') ∧ CA σ' K (m_perf K stp n i s).2 hi I LI ∧ FM SJ σ σ' := by
  intro n
  induction n with
  | zero =>
    intro k i s σ hA hQ hL hil hk
    obtain ⟨k, rfl⟩ : ∃ j, k = j + 1 := ⟨k - 1, by omega⟩
    refine ⟨σ, ?_, hA, FM.refl⟩
    rw [f_X11_perform_33, hQ.1, if_pos (by omega)]
    show some ((len : Int), σ) = some ((i : Int), σ)
    rw [show i = len from by omega]
  | succ n ih =>
    intro k i s σ hA hQ hL hil hk
    obtain ⟨k, rfl⟩ : ∃ j, k = j + 1 := ⟨k - 1, by omega⟩
    obtain ⟨w0, w1, w2, w3, w4, w5⟩ := hW i (by omega)
    obtain ⟨σ1, g1, g2, g3, g4⟩ := C_tried hA.1 hA.2 hK (hQ.2 i (by omega)) (by omega) w0 w2 (by omega) (by omega)
    rw [f_X11_perform_33, hQ.1, if_neg (by omega), if_pos hA.1.1, if_pos (by omega)]
    rw [show (i : Int).toNat = i from by omega, g1, Option.bind_some]
    dsimp only
    unfold m_perf
    by_cases d : m_stopQ K s (stp i) = -1
    · obtain ⟨σ2, k1, k2, k3, k4⟩ := g4 d
      have hA2 : CA σ2 K (m_tryQ K s (stp i)) hi I LI := by
        unfold m_tryQ m_try
        rw [if_pos (show m_stops (KL K s.2.1) s.1 (stp i).1 (stp i).2.1 (stp i).2.2.1 (stp i).2.2.2.1 (stp i).2.2.2.2 = -1 from d)]
        exact ⟨k2, k3⟩
      have hL2 : (m_tryQ K s (stp i)).2.1 ≤ s.2.1 + 1 := m_try_L
      obtain ⟨σ3, l1, l2, l3⟩ := ih k (i + 1) (m_tryQ K s (stp i)) σ2 hA2 (hQ.frame hl (fun c _ _ => funext fun j => k4 c j (by unfold SJ; omega))) (by omega) (by omega) (by omega)
      rw [if_pos (show m_stops (KL K s.2.1) s.1 (stp i).1 (stp i).2.1 (stp i).2.2.1 (stp i).2.2.2.1 (stp i).2.2.2.2 = -1 from d), if_pos (by omega), k1, Option.bind_some, if_pos d]
      refine ⟨σ3, ?_, l2, k4.trans l3⟩
      rw [zid (by omega) (by omega)]
      exact l1
    · rw [if_neg (show ¬ m_stops (KL K s.2.1) s.1 (stp i).1 (stp i).2.1 (stp i).2.2.1 (stp i).2.2.2.1 (stp i).2.2.2.2 = -1 from d), if_neg d]
      exact ⟨σ1, rfl, ⟨g3, hA.2⟩, g2.mono (fun c j hc => by unfold SF at hc; unfold SJ; omega)⟩
def AD (K : Nat → Nat → Int) (s : AS) (hi : Int) (I : Nat → Int) : Prop := ID K s.1 s.2.2.1 s.2.2.2 hi I ∧ 0 ≤ s.1 75 ∧ s.1 75 ≤ 60
theorem AD.try {q : QS} (h : AD K s hi I) (hK : WK K) (hq : QW q) : AD K (m_tryQ K s q) hi I := by
  obtain ⟨hD, h0, h1⟩ := h
  obtain ⟨w0, w1, w2, w3, w4, w5⟩ := hq
  unfold m_tryQ m_try
  by_cases d : m_stops (KL K s.2.1) s.1 q.1 q.2.1 q.2.2.1 q.2.2.2.1 q.2.2.2.2 = -1
  · rw [if_pos d]
    have hok := OK.of d w0 w2
    have hin := m_act_in hK.kl (WS.kl.mpr hD.1) (WL.kl.mpr hD.2.1) h0 hok
    have h75 := m_does_o hK.kl (WS.kl.mpr hD.1) (WL.kl.mpr hD.2.1) hok (j := 75) (by omega)
    refine ⟨hD.act (WS.kl.mp hin.1) (WL.kl.mp hin.2), ?_⟩
    show 0 ≤ (m_act (KL K s.2.1) s.1 q.1 q.2.1 q.2.2.1 q.2.2.2.1 q.2.2.2.2) 75 ∧ (m_act (KL K s.2.1) s.1 q.1 q.2.1 q.2.2.1 q.2.2.2.1 q.2.2.2.2) 75 ≤ 60
    unfold m_act m_note
    rw [u1_e]
    by_cases c : (m_does (KL K s.2.1) s.1 q.1 q.2.1 q.2.2.1 q.2.2.2.1 q.2.2.2.2).2 75 = 60
    · rw [if_pos c]
      unfold m_noteS
      rw [if_neg (by omega), if_pos rfl]
      omega
    · rw [if_neg c]
      omega
  · rw [if_neg d]
    exact ⟨hD, h0, h1⟩
def SYP : Nat → Nat → Prop := fun c j => SYR c j ∨ (c = 758 ∧ j = 41)
set_option maxHeartbeats 4000000 in
theorem R_perf (hK : WK K) (hv : v < 5) (hl : len ≤ 12) (hW : ∀ i, i < len → QW (stp i)) : ∀ (n k i : Nat) (s : AS) (σ : Nat → Nat → Int), RA σ K s hi → AD K s hi I → QR σ v stp len → i + n = len → n + 1 < k →
    ∃ σ', f_X12_perform_26 k (v : Int) (i : Int) 1 σ = some (((m_perf K stp n i s).1 : Int), σ') ∧ RA σ' K (m_perf K stp n i s).2 hi ∧ FM SYP σ σ' := by
  intro n
  induction n with
  | zero =>
    intro k i s σ hA hD hQ hil hk
    obtain ⟨k, rfl⟩ : ∃ j, k = j + 1 := ⟨k - 1, by omega⟩
    refine ⟨σ, ?_, hA, FM.refl⟩
    rw [f_X12_perform_26, if_neg (by omega), if_pos (by omega), show (v : Int).toNat = v from by omega, hQ.1, if_pos (by omega)]
    rfl
  | succ n ih =>
    intro k i s σ hA hD hQ hil hk
    obtain ⟨k, rfl⟩ : ∃ j, k = j + 1 := ⟨k - 1, by omega⟩
    have hw := hW i (by omega)
    obtain ⟨w0, w1, w2, w3, w4, w5⟩ := hw
    have e1 : z_w (z_w (12 * (v : Int)) + (i : Int)) = ((12 * v + i : Nat) : Int) := by rw [zid (x := 12 * (v : Int)) (by omega) (by omega), zid (by omega) (by omega)]; omega
    have e2 : z_w (4 * ((12 * v + i : Nat) : Int)) = ((4 * (12 * v + i) : Nat) : Int) := by rw [zid (by omega) (by omega)]; omega
    have e3 : z_w (((4 * (12 * v + i) : Nat) : Int) + 1) = ((4 * (12 * v + i) + 1 : Nat) : Int) := by rw [zid (by omega) (by omega)]; omega
    have e4 : z_w (((4 * (12 * v + i) : Nat) : Int) + 2) = ((4 * (12 * v + i) + 2 : Nat) : Int) := by rw [zid (by omega) (by omega)]; omega
    have e5 : z_w (((4 * (12 * v + i) : Nat) : Int) + 3) = ((4 * (12 * v + i) + 3 : Nat) : Int) := by rw [zid (by omega) (by omega)]; omega
    obtain ⟨q0, q1, q2, q3, q4⟩ := hQ.2 i (by omega)
    rw [f_X12_perform_26, if_neg (by omega), if_pos (by omega), show (v : Int).toNat = v from by omega, hQ.1, if_neg (by omega), e1, if_pos (by omega), e2, if_pos (by omega), e3, if_pos (by omega), e4, if_pos (by omega), e5, if_pos (by omega)]
    simp only [Int.toNat_natCast]
    rw [u2_c (by omega), u2_c (by omega), u2_c (by omega), u2_c (by omega), q0, q1, q2, q3]
    have hA1 := hA.frame (σ' := u2 σ 758 41 (σ 775 (12 * v + i))) (fun c _ _ => u2_ne (by omega)) (fun j _ _ => u2_i (by omega))
    have hn' : (stp i).1 = 2 ∨ (stp i).1 = 3 → 0 < σ 775 (12 * v + i) ∧ σ 775 (12 * v + i) < 4611686018427387904 ∧ NB (σ 775 (12 * v + i)) := fun q => by rw [q4 q]; exact w2 q
    obtain ⟨σ1, g1, g2, g3⟩ := R_try (y := (stp i).2.2.1) (z := (stp i).2.2.2.1) (x := (stp i).2.1) (what := (stp i).1) hA1 hD.1 hD.2 hK u2_e (by omega) w0 hn'
    have es : m_stops (KL K s.2.1) s.1 (stp i).1 (stp i).2.1 (stp i).2.2.1 (stp i).2.2.2.1 (σ 775 (12 * v + i)) = m_stopQ K s (stp i) ∧ m_try K s (stp i).1 (stp i).2.1 (stp i).2.2.1 (stp i).2.2.2.1 (σ 775 (12 * v + i)) = m_tryQ K s (stp i) := by
      by_cases e : (stp i).1 = 2 ∨ (stp i).1 = 3
      · rw [q4 e]
        exact ⟨rfl, rfl⟩
      · have h1 : ∀ w : Nat → Int, m_stops (KL K s.2.1) w (stp i).1 (stp i).2.1 (stp i).2.2.1 (stp i).2.2.2.1 (σ 775 (12 * v + i)) = m_stops (KL K s.2.1) w (stp i).1 (stp i).2.1 (stp i).2.2.1 (stp i).2.2.2.1 (stp i).2.2.2.2 := fun w => by
          unfold m_stops
          rw [if_neg (show ¬ (stp i).1 = 2 by omega), if_neg (show ¬ (stp i).1 = 3 by omega), if_neg (show ¬ (stp i).1 = 2 by omega), if_neg (show ¬ (stp i).1 = 3 by omega)]
        have h2 : ∀ w : Nat → Int, m_does (KL K s.2.1) w (stp i).1 (stp i).2.1 (stp i).2.2.1 (stp i).2.2.2.1 (σ 775 (12 * v + i)) = m_does (KL K s.2.1) w (stp i).1 (stp i).2.1 (stp i).2.2.1 (stp i).2.2.2.1 (stp i).2.2.2.2 := fun w => by
          unfold m_does
          rw [if_neg (show ¬ (stp i).1 = 2 by omega), if_neg (show ¬ (stp i).1 = 3 by omega), if_neg (show ¬ (stp i).1 = 2 by omega), if_neg (show ¬ (stp i).1 = 3 by omega)]
        refine ⟨h1 _, ?_⟩
        unfold m_tryQ m_try m_act
        rw [h1, h2]
    rw [es.1] at g1
    rw [es.2] at g2
    rw [g1, Option.bind_some]
    dsimp only
    unfold f_X12_perform_112
    have g4 : FM SYP σ σ1 := (FM.refl.u (by unfold SYP; omega)).trans (g3.mono (fun c j hc => Or.inl hc))
    unfold m_perf
    by_cases d : m_stopQ K s (stp i) = -1
    · rw [if_pos d, if_pos d, if_neg (show ¬ (1 : Int) = 0 by omega), zid (by omega) (by omega)]
      obtain ⟨σ2, l1, l2, l3⟩ := ih k (i + 1) _ σ1 g2 (hD.try hK ⟨w0, w1, w2, w3, w4, w5⟩) (hQ.frame (fun c _ _ => funext fun j => g4 c j (by unfold SYP SYR; omega))) (by omega) (by omega)
      exact ⟨σ2, l1, l2, g4.trans l3⟩
    · rw [if_neg d, if_neg d, if_pos rfl]
      obtain ⟨k, rfl⟩ : ∃ j, k = j + 1 := ⟨k - 1, by omega⟩
      have e6 : m_tryQ K s (stp i) = s := if_neg d
      rw [e6] at g2
      exact ⟨σ1, by rw [f_X12_perform_26, if_pos rfl], g2, g4⟩
set_option maxHeartbeats 4000000 in
theorem P_perform {L n v1 : Int} {H : Int → Nat → Int} {N : Nat} {stp : Nat → Nat → QS} {len : Nat → Nat} (h : PV σ K L LI n H hi) (hQ : QV σ N stp len) (hK : WK K) (hB : L < 2147483000) : ∃ r σ1 σ2 L' n' H', f_X11_perform v1 σ = some (r, σ1) ∧ f_X12_perform v1 σ1 = some (r, σ2) ∧ PV σ2 K L' LI n' H' hi ∧ L' ≤ L + 12 ∧ FM SJ σ σ1 ∧ FM (fun c j => SYP c j ∨ (c = 758 ∧ j = 0)) σ1 σ2 := by
  have hkn := hK.n
  have h' := h
  have h75 := h.h75
  obtain ⟨hC, hR, hD, hc⟩ := h
  have e21 := hR.1.n0
  by_cases d : 0 ≤ v1 ∧ v1 < N
  · obtain ⟨v, rfl⟩ : ∃ v : Nat, v1 = (v : Int) := ⟨v1.toNat, by omega⟩
    obtain ⟨q0, q1, q2, q3⟩ := hQ
    obtain ⟨t0, t1, t2, t3⟩ := q3 v (by omega)
    have hA0 : CA σ K (σ 776, L, n, H) hi (σ 778) LI := ⟨hC, hD⟩
    obtain ⟨σ1, g1, g2, g3⟩ := C_perf hK (by omega) t0.2 t3 (len v) 100000 0 _ σ hA0 t1 (by show L + _ < _; omega) (by omega) (by omega)
    have gr : ∀ c, 758 ≤ c → σ1 c = σ c := fun c hc => funext fun j => g3 c j (by unfold SJ; omega)
    have hRA : RA (u2 σ1 758 0 0) K (σ 776, L, n, H) hi := ⟨hR.frame (fun c _ _ => by rw [u2_ne (by omega), gr c (by omega)]) (fun j _ _ => by rw [u2_i (by omega), gr 758 (by omega)]), by rw [u2_ne (by omega), gr 776 (by omega)]⟩
    have hAD : AD K (σ 776, L, n, H) hi (σ 778) := ⟨hD, h75⟩
    obtain ⟨σ2, k1, k2, k3⟩ := R_perf hK (by omega) t0.2 t3 (len v) 100000 0 _ (u2 σ1 758 0 0) hRA hAD (t2.frame (fun c _ _ => by rw [u2_ne (by omega), gr c (by omega)])) (by omega) (by omega)
    have ef : ∀ c, c < 758 → σ2 c = σ1 c := fun c hc => funext fun j => (k3 c j (by unfold SYP SYR; omega)).trans (by rw [u2_ne (by omega)])
    have e778 : σ2 778 = σ 778 := (funext fun j => (k3 778 j (by unfold SYP SYR; omega)).trans (by rw [u2_ne (by omega)]) : σ2 778 = σ1 778).trans (gr 778 (by omega))
    have e768 : σ2 768 = σ 768 := (funext fun j => (k3 768 j (by unfold SYP SYR; omega)).trans (by rw [u2_ne (by omega)]) : σ2 768 = σ1 768).trans (gr 768 (by omega))
    have e757 : σ1 757 = σ 757 := funext fun j => g3 757 j (by unfold SJ; omega)
    have hLL := m_perf_L (K := K) (stp := stp v) (len v) 0 (σ 776, L, n, H)
    generalize m_perf K (stp v) (len v) 0 (σ 776, L, n, H) = P at *
    refine ⟨(P.1 : Int), σ1, σ2, P.2.2.1, P.2.2.2.1, P.2.2.2.2, ?_, ?_, ⟨?_, k2.1, ?_, fun i hi' => ?_⟩, ?_, g3, ((FM.refl.u (Or.inr ⟨rfl, rfl⟩))).trans (k3.mono (fun c j hc => Or.inl hc))⟩
    rotate_left 2
    · rw [k2.2, e778]
      exact g2.1.frame hK (by rw [ef 0 (by omega)]) (by rw [ef 0 (by omega)]) (fun c _ _ => ef c (by omega)) (fun c _ _ => ef c (by omega))
    · rw [k2.2, e778]
      exact g2.2
    · rw [ef 757 (by omega), e757, e768]
      exact hc i hi'
    · have : P.2.2.1 ≤ L + (len v : Int) := hLL
      omega
    · unfold f_X11_perform
      rw [if_pos hC.1, C_isTold_y hC.2.1 (by omega), Option.bind_some, if_neg (show ¬ (1 : Int) = 0 by omega), if_neg (by omega), q0, if_pos d.2, if_pos (by omega)]
      exact g1
    · unfold f_X12_perform f_X12_isScript
      rw [u2_i (by omega), u2_i (by omega), gr 758 (by omega), q1, zid (by omega) (by omega), R_isIn_y d.1 (by omega), Option.bind_some, Option.bind_some, if_neg (show ¬ (1 : Int) = 0 by omega), if_neg (by omega)]
      exact k1
  · obtain ⟨q0, q1, q2, q3⟩ := hQ
    refine ⟨-1, σ, u2 σ 758 0 0, L, n, H, ?_, ?_, h'.frame hK (by rw [u2_ne (by omega)]) (by rw [u2_ne (by omega)]) (fun c _ _ => u2_ne (by omega)) (fun c _ _ => u2_ne (by omega)) (u2_ne (by omega)) (fun c _ _ => u2_ne (by omega)) (fun j _ _ => u2_i (by omega)), by omega, FM.refl, FM.refl.u (Or.inr ⟨rfl, rfl⟩)⟩
    · unfold f_X11_perform
      rw [if_pos hC.1, C_isTold_y hC.2.1 (by omega), Option.bind_some, if_neg (show ¬ (1 : Int) = 0 by omega)]
      by_cases e : v1 < 0
      · rw [if_pos e]
      · rw [if_neg e, q0, if_neg (by omega)]
    · unfold f_X12_perform f_X12_isScript
      rw [u2_i (by omega), u2_i (by omega), q1, zid (by omega) (by omega), R_isIn_n (by omega), Option.bind_some, Option.bind_some, if_pos rfl]
end S_PF
