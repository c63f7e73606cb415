-- one by one, on both sides
section S_G2
variable {σ K : Nat → Nat → Int} {a a1 b : Nat} {w sh pt : Nat → Int} {tr th : Int}
theorem m_unp_0 (hK : WK K) (h : ∀ t : Int, 0 ≤ t → t < K 0 1 → pt t.toNat ≠ -1) : m_unp pt (K 0 1).toNat = 0 := by
  have hkn := hK.n
  have : ∀ m : Nat, m ≤ (K 0 1).toNat → m_unp pt m = 0 := by
    intro m
    induction m with
    | zero => intro _; rfl
    | succ m ihm =>
      intro hm
      unfold m_unp
      have h2 := h (m : Int) (by omega) (by omega)
      rw [Int.toNat_natCast] at h2
      rw [ihm (by omega), if_neg h2]
      rfl
  exact this _ (Nat.le_refl _)
theorem m_unp_all : ∀ n : Nat, m_unp (fun _ => -1) n = n := by
  intro n
  induction n with
  | zero => rfl
  | succ n ih =>
    unfold m_unp
    rw [ih, if_pos rfl]
    omega
theorem m_greedyL_01 : ∀ (n : Nat) (pt : Nat → Int), (m_greedyL K w sh n pt).1 = 0 ∨ (m_greedyL K w sh n pt).1 = 1 := by
  intro n
  induction n with
  | zero => intro pt; exact Or.inr rfl
  | succ n ih =>
    intro pt
    unfold m_greedyL
    split
    · exact Or.inl rfl
    · exact ih _
theorem R_nextToPut (hM : RM σ K) (hK : WK K) (hs : ∀ t : Int, 0 ≤ t → t < K 0 1 → σ 781 t.toNat = sh t.toNat) (hp : ∀ t : Int, 0 ≤ t → t < K 0 1 → σ 783 t.toNat = pt t.toNat) : f_X12_nextToPut σ = some (m_ntp K sh pt) := by
  have hkn := hK.n
  have h := sim_loop (F := fun k t (q : Int) => f_X12_nextToPut_4 k q t σ) (X := m_ntpS sh pt) (hi := K 0 1) (fun t q s => q = s ∧ 0 ≤ t ∧ (s = -1 ∨ (0 ≤ s ∧ s < K 0 1))) (fun s r => r = some s)
    (fun k t q s ht hq => by
      obtain ⟨rfl, p0, p1⟩ := hq
      have e1 := hp t p0 ht
      have e2 := hs t p0 ht
      refine ⟨m_ntpS sh pt t q, ?_, rfl, by omega, ?_⟩
      · rw [f_X12_nextToPut_4]
        unfold m_ntpS
        by_cases c1 : pt t.toNat = -1
        · by_cases c2 : q = -1
          · simp (disch := first | assumption | omega) only [if_true, if_false, zid, zlid, if_pos, if_neg, u2_e, u2_c, u2_i, u1_e, u1_i, Option.bind_some, hM.n1, e1]
          · have e3 := hs q (by omega) (by omega)
            simp (disch := first | assumption | omega) only [if_true, if_false, zid, zlid, if_pos, if_neg, u2_e, u2_c, u2_i, u1_e, u1_i, Option.bind_some, hM.n1, e1, e2, e3]
        · simp (disch := first | assumption | omega) only [if_true, if_false, zid, zlid, if_pos, if_neg, u2_e, u2_c, u2_i, u1_e, u1_i, Option.bind_some, hM.n1, e1]
      · unfold m_ntpS
        split
        · split
          · omega
          · split <;> omega
        · exact p1)
    (fun k q s hq => by
      obtain ⟨rfl, p0, p1⟩ := hq
      rw [f_X12_nextToPut_4]
      simp (disch := first | assumption | omega) only [if_true, if_false, zid, zlid, if_pos, if_neg, u2_e, u2_c, u2_i, u1_e, u1_i, Option.bind_some, hM.n1]) (K 0 1).toNat 100000 0 (-1) (-1) (by omega) (by omega) ⟨rfl, by omega, Or.inl rfl⟩
  unfold f_X12_nextToPut m_ntp
  exact h
theorem C_greatestNotPut (hC : RC σ a1 K) (hK : WK K) (hs : ∀ t : Int, 0 ≤ t → t < K 0 1 → σ 748 t.toNat = sh t.toNat) (hp : ∀ t : Int, 0 ≤ t → t < K 0 1 → σ 746 t.toNat = pt t.toNat) : f_X5_greatestNotPut a1 σ = some (m_ntp K sh pt) := by
  have hkn := hK.n
  have h := sim_loop (F := fun k t (q : Int) => f_X5_greatestNotPut_4 k a1 q t σ) (X := m_ntpS sh pt) (hi := K 0 1) (fun t q s => q = s ∧ 0 ≤ t ∧ (s = -1 ∨ (0 ≤ s ∧ s < K 0 1))) (fun s r => r = some s)
    (fun k t q s ht hq => by
      obtain ⟨rfl, p0, p1⟩ := hq
      have e1 := hp t p0 ht
      have e2 := hs t p0 ht
      refine ⟨m_ntpS sh pt t q, ?_, rfl, by omega, ?_⟩
      · rw [f_X5_greatestNotPut_4]
        unfold m_ntpS
        by_cases c1 : pt t.toNat = -1
        · by_cases c2 : q = -1
          · simp (disch := first | assumption | omega) only [if_true, if_false, zid, zlid, if_pos, if_neg, u2_e, u2_c, u2_i, u1_e, u1_i, Option.bind_some, hC.n1, e1]
          · have e3 := hs q (by omega) (by omega)
            simp (disch := first | assumption | omega) only [if_true, if_false, zid, zlid, if_pos, if_neg, u2_e, u2_c, u2_i, u1_e, u1_i, Option.bind_some, hC.n1, e1, e2, e3]
        · simp (disch := first | assumption | omega) only [if_true, if_false, zid, zlid, if_pos, if_neg, u2_e, u2_c, u2_i, u1_e, u1_i, Option.bind_some, hC.n1, e1]
      · unfold m_ntpS
        split
        · split
          · omega
          · split <;> omega
        · exact p1)
    (fun k q s hq => by
      obtain ⟨rfl, p0, p1⟩ := hq
      rw [f_X5_greatestNotPut_4]
      simp (disch := first | assumption | omega) only [if_true, if_false, zid, zlid, if_pos, if_neg, u2_e, u2_c, u2_i, u1_e, u1_i, Option.bind_some, hC.n1]) (K 0 1).toNat 100000 0 (-1) (-1) (by omega) (by omega) ⟨rfl, by omega, Or.inl rfl⟩
  unfold f_X5_greatestNotPut m_ntp
  exact h
theorem R_putsAll_40 {K28 : Int → (Nat → Nat → Int) → Option (Int × (Nat → Nat → Int))} (hM : RM σ K) (hK : WK K) (hS : WS K (σ 776)) (h38 : σ 758 38 = -1) (hs : RSH σ K sh) (hp : ∀ t : Int, 0 ≤ t → t < K 0 1 → σ 783 t.toNat = pt t.toNat) {t : Int} (h0 : 0 ≤ t) (h1 : t < K 0 1) :
    ∃ σ', FM (fun c _ => c = 783) σ σ' ∧ f_X12_putsAll_40 K28 100000 t (-1) 0 0 σ = (if m_put K (σ 776) sh pt t = -1 then some (0, σ') else K28 (m_ntp K sh (u1 pt t.toNat (m_put K (σ 776) sh pt t))) σ') ∧ (m_put K (σ 776) sh pt t ≠ -1 → ∀ d : Int, 0 ≤ d → d < K 0 1 → σ' 783 d.toNat = u1 pt t.toNat (m_put K (σ 776) sh pt t) d.toNat) := by
  have hkn := hK.n
  have h := sim_loop (F := fun k v (q : Int × Int × (Nat → Nat → Int)) => f_X12_putsAll_40 K28 k t q.1 q.2.1 v q.2.2) (X := m_putS K (σ 776) sh pt t) (hi := K 0 2)
    (fun v q s => 0 ≤ v ∧ q.1 = s.1 ∧ (s.1 ≠ -1 → q.2.1 = s.2) ∧ FM (fun c _ => c = 783) σ q.2.2 ∧ (∀ d : Int, 0 ≤ d → d < K 0 1 → d ≠ t → q.2.2 783 d.toNat = pt d.toNat))
    (fun s r => ∃ σ', FM (fun c _ => c = 783) σ σ' ∧ r = (if s.1 = -1 then some (0, σ') else K28 (m_ntp K sh (u1 pt t.toNat s.1)) σ') ∧ (s.1 ≠ -1 → ∀ d : Int, 0 ≤ d → d < K 0 1 → σ' 783 d.toNat = u1 pt t.toNat s.1 d.toNat))
    (fun k v q s hv hq => by
      obtain ⟨q1, q2, q3⟩ := q
      obtain ⟨s1, s2⟩ := s
      obtain ⟨p0, p1, p2, p3, p4⟩ := hq
      dsimp only at p1 p2 p3 p4
      subst p1
      have hf : FM (fun c _ => c = 783) σ (u2 q3 783 t.toNat v) := p3.u rfl
      have hMq := hM.fm hf (fun c j hj => by omega)
      have ew : u2 q3 783 t.toNat v 776 = σ 776 := funext fun j => hf 776 j (by omega)
      have hpp := R_pricePut (b := 776) hMq hK (by rw [ew]; exact hS) (by rw [hf 758 38 (by omega)]; exact h38) (sh := sh) (fun d d0 d1 => by
        rw [hf 781 d.toNat (by omega), hf 782 d.toNat (by omega)]
        exact hs d d0 d1) (pt := u1 pt t.toNat v) (fun d d0 d1 => by
        by_cases e : d = t
        · rw [e, u2_e, u1_e]
        · rw [u2_i (by omega), u1_i (by omega)]
          exact p4 d d0 d1 e)
      rw [ew] at hpp
      have hr : ∀ d : Int, 0 ≤ d → d < K 0 1 → d ≠ t → u2 q3 783 t.toNat v 783 d.toNat = pt d.toNat := fun d d0 d1 d2 => by
        rw [u2_i (by omega)]
        exact p4 d d0 d1 d2
      have hpi := m_price_in (pt := u1 pt t.toNat v) hK hS hs.s0
      have er : ∀ x y : Int, f_X12_putsAll_40 K28 (k + 1) t x y v q3 = f_X12_putsAll_40 K28 k t (if m_price K (σ 776) sh (u1 pt t.toNat v) = -1 then x else (if x = -1 then v else (if m_price K (σ 776) sh (u1 pt t.toNat v) < y then v else x))) (if m_price K (σ 776) sh (u1 pt t.toNat v) = -1 then y else (if x = -1 then m_price K (σ 776) sh (u1 pt t.toNat v) else (if m_price K (σ 776) sh (u1 pt t.toNat v) < y then m_price K (σ 776) sh (u1 pt t.toNat v) else y))) (v + 1) (u2 q3 783 t.toNat v) := fun x y => by
        have e25 : ¬ K 0 2 ≤ v := by omega
        have hM3 := hM.fm p3 (fun c j hj => by omega)
        rw [f_X12_putsAll_40]
        rw [hM3.n2, if_neg e25, if_pos (by omega), hpp, Option.bind_some, zid (by omega) (by omega)]
      unfold m_putS
      generalize m_price K (σ 776) sh (u1 pt t.toNat v) = x at er hpi ⊢
      by_cases c1 : x = -1
      · rw [if_pos c1]
        refine ⟨(q1, q2, u2 q3 783 t.toNat v), ?_, by omega, rfl, p2, hf, hr⟩
        show f_X12_putsAll_40 K28 (k + 1) t q1 q2 v q3 = _
        rw [er, if_pos c1, if_pos c1]
      · rw [if_neg c1]
        by_cases c2 : q1 = -1
        · rw [if_pos (Or.inl c2)]
          refine ⟨(v, x, u2 q3 783 t.toNat v), ?_, by omega, rfl, fun _ => rfl, hf, hr⟩
          show f_X12_putsAll_40 K28 (k + 1) t q1 q2 v q3 = _
          rw [er, if_neg c1, if_neg c1, if_pos c2, if_pos c2]
        · have e2 := p2 c2
          by_cases c3 : x < s2
          · rw [if_pos (Or.inr c3)]
            refine ⟨(v, x, u2 q3 783 t.toNat v), ?_, by omega, rfl, fun _ => rfl, hf, hr⟩
            show f_X12_putsAll_40 K28 (k + 1) t q1 q2 v q3 = _
            rw [er, if_neg c1, if_neg c1, if_neg c2, if_neg c2, if_pos (by omega), if_pos (by omega)]
          · rw [if_neg (by dsimp only; omega)]
            refine ⟨(q1, q2, u2 q3 783 t.toNat v), ?_, by omega, rfl, p2, hf, hr⟩
            show f_X12_putsAll_40 K28 (k + 1) t q1 q2 v q3 = _
            rw [er, if_neg c1, if_neg c1, if_neg c2, if_neg c2, if_neg (by omega), if_neg (by omega)])
    (fun k q s hq => by
      obtain ⟨q1, q2, q3⟩ := q
      obtain ⟨s1, s2⟩ := s
      obtain ⟨p0, p1, p2, p3, p4⟩ := hq
      dsimp only at p1 p2 p3 p4 ⊢
      subst p1
      have hM3 := hM.fm p3 (fun c j hj => by omega)
      by_cases c1 : q1 = -1
      · refine ⟨q3, p3, ?_, fun z => absurd c1 z⟩
        rw [f_X12_putsAll_40]
        simp (disch := first | assumption | omega) only [if_true, if_false, zid, zlid, if_pos, if_neg, u2_e, u2_c, u2_i, u1_e, u1_i, Option.bind_some, hM3.n2]
      · have hf : FM (fun c _ => c = 783) σ (u2 q3 783 t.toNat q1) := p3.u rfl
        have hMq := hM.fm hf (fun c j hj => by omega)
        have hr : ∀ d : Int, 0 ≤ d → d < K 0 1 → u2 q3 783 t.toNat q1 783 d.toNat = u1 pt t.toNat q1 d.toNat := fun d d0 d1 => by
          by_cases e : d = t
          · rw [e, u2_e, u1_e]
          · rw [u2_i (by omega), u1_i (by omega)]
            exact p4 d d0 d1 e
        have hnt := R_nextToPut hMq hK (sh := sh) (fun d d0 d1 => by rw [hf 781 d.toNat (by omega)]; exact (hs d d0 d1).1) hr
        refine ⟨u2 q3 783 t.toNat q1, hf, ?_, fun _ => hr⟩
        rw [f_X12_putsAll_40]
        simp (disch := first | assumption | omega) only [if_true, if_false, zid, zlid, if_pos, if_neg, u2_e, u2_c, u2_i, u1_e, u1_i, Option.bind_some, hM3.n2, hnt]) (K 0 2).toNat 100000 0 (-1, 0, σ) (-1, -1) (by omega) (by omega) ⟨by omega, rfl, fun z => absurd rfl z, FM.refl, fun d d0 d1 _ => hp d d0 d1⟩
  exact h
theorem R_putsAll_28 (hK : WK K) (hS : WS K w) : ∀ (n k : Nat) (pt : Nat → Int) (σ : Nat → Nat → Int), RM σ K → σ 776 = w → σ 758 38 = -1 → RSH σ K sh → (∀ t : Int, 0 ≤ t → t < K 0 1 → σ 783 t.toNat = pt t.toNat) → m_unp pt (K 0 1).toNat = n → n < k →
    ∃ σ', f_X12_putsAll_28 k (m_ntp K sh pt) σ = some ((m_greedyL K w sh n pt).1, σ') ∧ ((m_greedyL K w sh n pt).1 = 1 → ∀ d : Int, 0 ≤ d → d < K 0 1 → σ' 783 d.toNat = (m_greedyL K w sh n pt).2 d.toNat) ∧ FM (fun c _ => c = 783) σ σ' := by
  have hkn := hK.n
  intro n
  induction n with
  | zero =>
    intro k pt σ hM hw h38 hs hp hu hk
    obtain ⟨k, rfl⟩ : ∃ j, k = j + 1 := ⟨k - 1, by omega⟩
    have hz := (m_unp_in (pt := pt) (K 0 1).toNat).2.2 (by omega)
    rcases m_ntp_in (sh := sh) (pt := pt) hK with q | q
    · refine ⟨σ, ?_, fun _ => hp, FM.refl⟩
      rw [f_X12_putsAll_28, if_pos q.1]
      rfl
    · exact absurd q.2.2 (hz _ (by omega))
  | succ n ih =>
    intro k pt σ hM hw h38 hs hp hu hk
    obtain ⟨k, rfl⟩ : ∃ j, k = j + 1 := ⟨k - 1, by omega⟩
    rcases m_ntp_in (sh := sh) (pt := pt) hK with q | q
    · have := m_unp_0 hK q.2
      omega
    · have hne : ¬ m_ntp K sh pt = -1 := by omega
      obtain ⟨σ1, g1, g2, g3⟩ := R_putsAll_40 (K28 := f_X12_putsAll_28 k) hM hK (by rw [hw]; exact hS) h38 hs hp q.1 q.2.1
      rw [hw] at g2 g3
      rw [f_X12_putsAll_28, if_neg hne, g2]
      unfold m_greedyL
      by_cases c : m_put K w sh pt (m_ntp K sh pt) = -1
      · rw [if_pos c, if_pos c]
        exact ⟨σ1, rfl, fun z => absurd z (by dsimp only; omega), g1⟩
      · rw [if_neg c, if_neg c]
        obtain ⟨σ2, k1, k2, k3⟩ := ih k _ σ1 (hM.fm g1 (fun c j hj => by omega)) (by rw [← hw]; exact funext fun j => g1 776 j (by omega)) (by rw [g1 758 38 (by omega)]; exact h38) (fun d d0 d1 => by
          rw [g1 781 d.toNat (by omega), g1 782 d.toNat (by omega)]
          exact hs d d0 d1) (g3 c) (by
          rw [m_unp_less q.2.2 c, if_pos (by omega)]
          omega) (by omega)
        exact ⟨σ2, k1, k2, g1.trans k3⟩
theorem R_putsAll (hM : RM σ K) (hK : WK K) (hS : WS K (σ 776)) (h38 : σ 758 38 = -1) (hs : RSH σ K (m_shs K (σ 776))) : ∃ σ', f_X12_putsAll σ = some ((m_greedy K (σ 776)).1, σ') ∧ ((m_greedy K (σ 776)).1 = 1 → ∀ d : Int, 0 ≤ d → d < K 0 1 → σ' 783 d.toNat = (m_greedy K (σ 776)).2 d.toNat) ∧ FM (fun c _ => c = 783) σ σ' := by
  have hkn := hK.n
  have h := hoare_loop (F := fun k t (q : Nat → Nat → Int) => f_X12_putsAll_2 k t q) (hi := K 0 1) (fun t q => 0 ≤ t ∧ FM (fun c _ => c = 783) σ q ∧ ∀ d : Int, 0 ≤ d → d < t → q 783 d.toNat = -1)
    (fun r => r.1 = (m_greedy K (σ 776)).1 ∧ ((m_greedy K (σ 776)).1 = 1 → ∀ d : Int, 0 ≤ d → d < K 0 1 → r.2 783 d.toNat = (m_greedy K (σ 776)).2 d.toNat) ∧ FM (fun c _ => c = 783) σ r.2)
    (fun k t q ht hq => by
      obtain ⟨p0, p1, p2⟩ := hq
      have hMq := hM.fm p1 (fun c j hj => by omega)
      refine ⟨u2 q 783 t.toNat (-1), ?_, by omega, p1.u rfl, fun d d0 d1 => ?_⟩
      · rw [f_X12_putsAll_2]
        simp (disch := first | assumption | omega) only [if_true, if_false, zid, zlid, if_pos, if_neg, u2_e, u2_c, u2_i, u1_e, u1_i, Option.bind_some, hMq.n1]
      · by_cases e : d = t
        · rw [e, u2_e]
        · rw [u2_i (by omega)]
          exact p2 d d0 (by omega))
    (fun k q hq => by
      obtain ⟨p0, p1, p2⟩ := hq
      have hMq := hM.fm p1 (fun c j hj => by omega)
      have hsq : RSH q K (m_shs K (σ 776)) := fun d d0 d1 => by
        rw [p1 781 d.toNat (by omega), p1 782 d.toNat (by omega)]
        exact hs d d0 d1
      have hnt := R_nextToPut hMq hK (sh := m_shs K (σ 776)) (pt := fun _ => -1) (fun d d0 d1 => (hsq d d0 d1).1) p2
      obtain ⟨σ2, k1, k2, k3⟩ := R_putsAll_28 (sh := m_shs K (σ 776)) hK hS (K 0 1).toNat 100000 (fun _ => -1) q hMq (funext fun j => p1 776 j (by omega)) (by rw [p1 758 38 (by omega)]; exact h38) hsq p2 (m_unp_all _) (by omega)
      refine ⟨((m_greedy K (σ 776)).1, σ2), ?_, rfl, k2, p1.trans k3⟩
      rw [f_X12_putsAll_2]
      simp (disch := first | assumption | omega) only [if_true, if_false, zid, zlid, if_pos, if_neg, u2_e, u2_c, u2_i, u1_e, u1_i, Option.bind_some, hMq.n1, hnt]
      exact k1) (K 0 1).toNat 100000 0 σ (by omega) (by omega) ⟨by omega, FM.refl, fun d d0 d1 => by omega⟩
  obtain ⟨⟨r1, r2⟩, h1, h2, h3, h4⟩ := h
  dsimp only at h2 h3 h4
  subst h2
  exact ⟨r2, h1, h3, h4⟩
/-- what putting one by one touches on the class's side -/
def SG : Nat → Prop := fun c => c = 746 ∨ c = 751
theorem C_putCheaply (hC : RC σ a1 K) (hK : WK K) (hS : WS K w) (ha1 : a1 + 19 ≤ 42) (h : SH0 K sh) (hL : RPL σ K w sh) (hp : ∀ t : Int, 0 ≤ t → t < K 0 1 → σ 746 t.toNat = pt t.toNat) {t : Int} (h0 : 0 ≤ t) (h1 : t < K 0 1) :
    ∃ σ', f_X5_putCheaply a1 t σ = some (if m_put K w sh pt t = -1 then 0 else 1, σ') ∧ FR SG σ σ' ∧ (∀ d : Int, 0 ≤ d → d < K 0 1 → σ' 746 d.toNat = u1 pt t.toNat (m_put K w sh pt t) d.toNat) := by
  have hkn := hK.n
  have hl := sim_loop (F := fun k v (q : Int × Int × (Nat → Nat → Int)) => f_X5_putCheaply_8 k a1 t q.1 q.2.1 v q.2.2) (X := m_putS K w sh pt t) (hi := K 0 2)
    (fun v q s => 0 ≤ v ∧ q.1 = s.1 ∧ q.2.1 = s.2 ∧ (s.1 = -1 ∧ s.2 = -1 ∨ 0 ≤ s.1 ∧ 0 ≤ s.2) ∧ FR SG σ q.2.2 ∧ (∀ d : Int, 0 ≤ d → d < K 0 1 → d ≠ t → q.2.2 746 d.toNat = pt d.toNat))
    (fun s r => ∃ σ', r = some (if s.1 = -1 then 0 else 1, σ') ∧ FR SG σ σ' ∧ (∀ d : Int, 0 ≤ d → d < K 0 1 → σ' 746 d.toNat = u1 pt t.toNat s.1 d.toNat))
    (fun k v q s hv hq => by
      obtain ⟨q1, q2, q3⟩ := q
      obtain ⟨s1, s2⟩ := s
      obtain ⟨p0, p1, p2, p3, p4, p5⟩ := hq
      dsimp only at p1 p2 p3 p4 p5
      subst p1 p2
      have hf : FR SG σ (u2 q3 746 t.toNat v) := p4.u (Or.inl rfl)
      have hCq := hC.frame (σ' := u2 q3 746 t.toNat v) (by omega) (fun c _ _ => hf c (by unfold SG; omega))
      have hC3 := hC.frame (σ' := q3) (by omega) (fun c _ _ => p4 c (by unfold SG; omega))
      have hLq : RPL (u2 q3 746 t.toNat v) K w sh := hL.fr (hf 748 (by unfold SG; omega)) (hf 749 (by unfold SG; omega)) (hf 750 (by unfold SG; omega))
      obtain ⟨q4, g1, g2⟩ := C_priceOf hCq hK hS ha1 h hLq (pt := u1 pt t.toNat v) (fun d d0 d1 => by
        by_cases e : d = t
        · rw [e, u2_e, u1_e]
        · rw [u2_i (by omega), u1_i (by omega)]
          exact p5 d d0 d1 e)
      have hf4 : FR SG σ q4 := hf.trans (g2.mono (fun c hc => Or.inr hc))
      have hr : ∀ d : Int, 0 ≤ d → d < K 0 1 → d ≠ t → q4 746 d.toNat = pt d.toNat := fun d d0 d1 d2 => by
        rw [g2 746 (by omega), u2_i (by omega)]
        exact p5 d d0 d1 d2
      have hpi := m_price_in (pt := u1 pt t.toNat v) hK hS h
      have er : f_X5_putCheaply_8 (k + 1) a1 t q1 q2 v q3 = f_X5_putCheaply_8 k a1 t (if m_price K w sh (u1 pt t.toNat v) = -1 then q1 else (if q2 = -1 then v else (if q2 ≤ m_price K w sh (u1 pt t.toNat v) then q1 else v))) (if m_price K w sh (u1 pt t.toNat v) = -1 then q2 else (if q2 = -1 then m_price K w sh (u1 pt t.toNat v) else (if q2 ≤ m_price K w sh (u1 pt t.toNat v) then q2 else m_price K w sh (u1 pt t.toNat v)))) (v + 1) q4 := by
        rw [f_X5_putCheaply_8, hC3.n2, if_neg (by omega), if_pos (by omega), g1, Option.bind_some, zid (by omega) (by omega)]
      unfold m_putS
      generalize m_price K w sh (u1 pt t.toNat v) = x at er hpi ⊢
      by_cases c1 : x = -1
      · rw [if_pos c1]
        refine ⟨(q1, q2, q4), ?_, by omega, rfl, rfl, p3, hf4, hr⟩
        show f_X5_putCheaply_8 (k + 1) a1 t q1 q2 v q3 = _
        rw [er, if_pos c1, if_pos c1]
      · rw [if_neg c1]
        by_cases c2 : q1 = -1
        · rw [if_pos (Or.inl c2)]
          refine ⟨(v, x, q4), ?_, by omega, rfl, rfl, by dsimp only; omega, hf4, hr⟩
          show f_X5_putCheaply_8 (k + 1) a1 t q1 q2 v q3 = _
          rw [er, if_neg c1, if_neg c1, if_pos (by omega), if_pos (by omega)]
        · by_cases c3 : x < q2
          · rw [if_pos (Or.inr c3)]
            refine ⟨(v, x, q4), ?_, by omega, rfl, rfl, by dsimp only; omega, hf4, hr⟩
            show f_X5_putCheaply_8 (k + 1) a1 t q1 q2 v q3 = _
            rw [er, if_neg c1, if_neg c1, if_neg (by omega), if_neg (by omega), if_neg (by omega), if_neg (by omega)]
          · rw [if_neg (by dsimp only; omega)]
            refine ⟨(q1, q2, q4), ?_, by omega, rfl, rfl, p3, hf4, hr⟩
            show f_X5_putCheaply_8 (k + 1) a1 t q1 q2 v q3 = _
            rw [er]
            simp (disch := first | assumption | omega) only [if_true, if_false, zid, zlid, if_pos, if_neg, u2_e, u2_c, u2_i, u1_e, u1_i, Option.bind_some])
    (fun k q s hq => by
      obtain ⟨q1, q2, q3⟩ := q
      obtain ⟨s1, s2⟩ := s
      obtain ⟨p0, p1, p2, p3, p4, p5⟩ := hq
      dsimp only at p1 p2 p3 p4 p5 ⊢
      subst p1 p2
      have hC3 := hC.frame (σ' := q3) (by omega) (fun c _ _ => p4 c (by unfold SG; omega))
      refine ⟨u2 q3 746 t.toNat q1, ?_, p4.u (Or.inl rfl), fun d d0 d1 => ?_⟩
      · rw [f_X5_putCheaply_8]
        by_cases c : q1 = -1 <;> simp (disch := first | assumption | omega) only [if_true, if_false, zid, zlid, if_pos, if_neg, u2_e, u2_c, u2_i, u1_e, u1_i, Option.bind_some, hC3.n2]
      · by_cases e : d = t
        · rw [e, u2_e, u1_e]
        · rw [u2_i (by omega), u1_i (by omega)]
          exact p5 d d0 d1 e) (K 0 2).toNat 100000 0 (-1, -1, σ) (-1, -1) (by omega) (by omega) ⟨by omega, rfl, rfl, Or.inl ⟨rfl, rfl⟩, FR.refl, fun d d0 d1 _ => hp d d0 d1⟩
  exact hl
theorem C_putGreedily (hR : RS σ a K w (-1) 0) (hC : RC σ a1 K) (hK : WK K) (hS : WS K w) (ha1 : a1 + 19 ≤ 42) (ha : 173 ≤ a) (ha2 : a + 13 ≤ 743) : ∃ σ', f_X5_putGreedily a1 a σ = some ((m_greedy K w).1, σ') ∧ ((m_greedy K w).1 = 1 → ∀ d : Int, 0 ≤ d → d < K 0 1 → σ' 746 d.toNat = (m_greedy K w).2 d.toNat) ∧ RPL σ' K w (m_shs K w) ∧ FM SF σ σ' := by
  have hkn := hK.n
  have hsh := m_shs_in (w := w) hK
  obtain ⟨σ1, l1, l2, l3⟩ := C_look hR hC hK hS ha1 ha ha2
  have hC1 := hC.frame (σ' := σ1) (by omega) (fun c _ _ => l3 c (by omega))
  have st : ∀ (n k : Nat) (turn : Int) (pt : Nat → Int) (q : Nat → Nat → Int), 0 ≤ turn → turn + n = K 0 1 → n < k → FR SG σ1 q → (∀ t : Int, 0 ≤ t → t < K 0 1 → q 746 t.toNat = pt t.toNat) → m_unp pt (K 0 1).toNat = n →
      ∃ σ', f_X5_putGreedily_28 k a1 turn q = some ((m_greedyL K w (m_shs K w) n pt).1, σ') ∧ ((m_greedyL K w (m_shs K w) n pt).1 = 1 → ∀ d : Int, 0 ≤ d → d < K 0 1 → σ' 746 d.toNat = (m_greedyL K w (m_shs K w) n pt).2 d.toNat) ∧ FR SG σ1 σ' := by
    intro n
    induction n with
    | zero =>
      intro k turn pt q t0 t1 hk hf hp hu
      obtain ⟨k, rfl⟩ : ∃ j, k = j + 1 := ⟨k - 1, by omega⟩
      have hCq := hC1.frame (σ' := q) (by omega) (fun c _ _ => hf c (by unfold SG; omega))
      refine ⟨q, ?_, fun _ => hp, hf⟩
      rw [f_X5_putGreedily_28]
      simp (disch := first | assumption | omega) only [if_true, if_false, zid, zlid, if_pos, if_neg, u2_e, u2_c, u2_i, u1_e, u1_i, Option.bind_some, hCq.n1]
      rfl
    | succ n ih =>
      intro k turn pt q t0 t1 hk hf hp hu
      obtain ⟨k, rfl⟩ : ∃ j, k = j + 1 := ⟨k - 1, by omega⟩
      have hCq := hC1.frame (σ' := q) (by omega) (fun c _ _ => hf c (by unfold SG; omega))
      have hLq : RPL q K w (m_shs K w) := l2.fr (hf 748 (by unfold SG; omega)) (hf 749 (by unfold SG; omega)) (hf 750 (by unfold SG; omega))
      have hgn := C_greatestNotPut hCq hK hLq.1 hp
      rcases m_ntp_in (sh := m_shs K w) (pt := pt) hK with z | z
      · have := m_unp_0 hK z.2
        omega
      · obtain ⟨q2, g1, g2, g3⟩ := C_putCheaply hCq hK hS ha1 hsh hLq hp z.1 z.2.1
        have hne : ¬ m_ntp K (m_shs K w) pt = -1 := by omega
        unfold m_greedyL
        rw [f_X5_putGreedily_28, hCq.n1, if_neg (by omega), hgn, Option.bind_some, if_neg hne, g1, Option.bind_some]
        by_cases c : m_put K w (m_shs K w) pt (m_ntp K (m_shs K w) pt) = -1
        · rw [if_pos c, if_pos c, if_pos rfl]
          exact ⟨q2, rfl, fun z => absurd z (by dsimp only; omega), hf.trans g2⟩
        · rw [if_neg c, if_neg c, if_neg (by dsimp only; omega), zid (by omega) (by omega)]
          exact ih k (turn + 1) _ q2 (by omega) (by omega) (by omega) (hf.trans g2) g3 (by
            rw [m_unp_less z.2.2 c, if_pos (by omega)]
            omega)
  have h8 := hoare_loop (F := fun k t (q : Nat → Nat → Int) => f_X5_putGreedily_8 k a1 t q) (hi := 4) (fun t q => 0 ≤ t ∧ FR SG σ1 q ∧ ∀ d : Int, 0 ≤ d → d < t → q 746 d.toNat = -1)
    (fun r => r.1 = (m_greedy K w).1 ∧ ((m_greedy K w).1 = 1 → ∀ d : Int, 0 ≤ d → d < K 0 1 → r.2 746 d.toNat = (m_greedy K w).2 d.toNat) ∧ FR SG σ1 r.2)
    (fun k t q ht hq => by
      obtain ⟨p0, p1, p2⟩ := hq
      refine ⟨u2 q 746 t.toNat (-1), ?_, by omega, p1.u (Or.inl rfl), fun d d0 d1 => ?_⟩
      · rw [f_X5_putGreedily_8]
        simp (disch := first | assumption | omega) only [if_true, if_false, zid, zlid, if_pos, if_neg, u2_e, u2_c, u2_i, u1_e, u1_i, Option.bind_some]
      · by_cases e : d = t
        · rw [e, u2_e]
        · rw [u2_i (by omega)]
          exact p2 d d0 (by omega))
    (fun k q hq => by
      obtain ⟨p0, p1, p2⟩ := hq
      obtain ⟨σ2, k1, k2, k3⟩ := st (K 0 1).toNat 100000 0 (fun _ => -1) q (by omega) (by omega) (by omega) p1 (fun t t0 t1 => p2 t t0 (by omega)) (m_unp_all _)
      refine ⟨((m_greedy K w).1, σ2), ?_, rfl, k2, k3⟩
      rw [f_X5_putGreedily_8, if_pos (by omega)]
      exact k1) 4 100000 0 σ1 (by omega) (by omega) ⟨by omega, FR.refl, fun d d0 d1 => by omega⟩
  obtain ⟨⟨r1, r2⟩, h1, h2, h3, h4⟩ := h8
  dsimp only at h2 h3 h4
  subst h2
  refine ⟨r2, ?_, h3, l2.fr (h4 748 (by unfold SG; omega)) (h4 749 (by unfold SG; omega)) (h4 750 (by unfold SG; omega)), (l3.fm (fun c j hc => by unfold SF; omega)).trans (h4.fm (fun c j hc => by unfold SG at hc; unfold SF; omega))⟩
  unfold f_X5_putGreedily
  rw [l1, Option.bind_some]
  exact h1
end S_G2
