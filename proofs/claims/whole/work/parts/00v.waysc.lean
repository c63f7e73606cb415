-- the class's way to the best; a way's digits
section S_WC
variable {σ K : Nat → Nat → Int} {a a1 b : Nat} {w sh pt : Nat → Int} {tr th : Int}
theorem C_waysOf (hC : RC σ a1 K) (hK : WK K) : f_X5_waysOf a1 σ = some (m_pow K) := by
  have hkn := hK.n
  have hpw := m_pow_in hK
  have h := hoare_loop (F := fun k v (q : Int) => f_X5_waysOf_4 k a1 q v σ) (hi := K 0 1) (fun v q => 0 ≤ v ∧ q = K 0 2 ^ v.toNat) (fun r => r = m_pow K)
    (fun k v q hv hp => by
      obtain ⟨p0, p1⟩ := hp
      have hb2 := pow_lt hK (n := v.toNat + 1) (by omega)
      have e : K 0 2 ^ (v + 1).toNat = K 0 2 ^ v.toNat * K 0 2 := by rw [show (v + 1).toNat = v.toNat + 1 from by omega, Int.pow_succ]
      rw [Int.pow_succ] at hb2
      refine ⟨q * K 0 2, ?_, by omega, by rw [e, p1]⟩
      rw [f_X5_waysOf_4]
      rw [← p1] at hb2
      simp (disch := first | assumption | omega) only [if_true, if_false, zid, zlid, if_pos, if_neg, u2_e, u2_c, u2_i, u1_e, u1_i, Option.bind_some, hC.n1, hC.n2])
    (fun k q hp => by
      obtain ⟨p0, p1⟩ := hp
      refine ⟨m_pow K, ?_, rfl⟩
      have e : q = m_pow K := p1
      rw [f_X5_waysOf_4]
      simp (disch := first | assumption | omega) only [if_true, if_false, zid, zlid, if_pos, if_neg, u2_e, u2_c, u2_i, u1_e, u1_i, Option.bind_some, hC.n1]
      rw [e, show min (m_pow K) 1296 = m_pow K from by omega]) (K 0 1).toNat 100000 0 1 (by omega) (by omega) ⟨by omega, by simp⟩
  obtain ⟨r, h1, h2⟩ := h
  unfold f_X5_waysOf
  rw [h1, h2]
theorem C_spread (hC : RC σ a1 K) (hK : WK K) (ha1 : a1 + 19 ≤ 42) {n : Int} (n0 : 0 ≤ n) (n1 : n ≤ 1296) : ∃ σ', f_X5_spread a1 n σ = some σ' ∧ (∀ t : Int, 0 ≤ t → t < K 0 1 → σ' 746 t.toNat = m_core K n t) ∧ FR (fun c => c = 746) σ σ' := by
  have hkn := hK.n
  have st : ∀ (m k : Nat) (x : Int) (q : Nat → Nat → Int), (m : Int) ≤ K 0 1 → m < k → x = n / K 0 2 ^ (K 0 1 - m).toNat → FR (fun c => c = 746) σ q → (∀ t : Int, m ≤ t → t < K 0 1 → q 746 t.toNat = m_core K n t) → ∃ σ', f_X5_spread_10 k a1 x ((m : Int) - 1) q = some σ' ∧ (∀ t : Int, 0 ≤ t → t < K 0 1 → σ' 746 t.toNat = m_core K n t) ∧ FR (fun c => c = 746) σ σ' := by
    intro m
    induction m with
    | zero =>
      intro k x q hm hk hx hf hq
      obtain ⟨k, rfl⟩ : ∃ j, k = j + 1 := ⟨k - 1, by omega⟩
      refine ⟨q, ?_, fun t t0 t1 => hq t (by omega) t1, hf⟩
      rw [f_X5_spread_10]
      simp (disch := first | assumption | omega) only [if_true, if_false, zid, zlid, if_pos, if_neg, u2_e, u2_c, u2_i, u1_e, u1_i, Option.bind_some]
    | succ m ih =>
      intro k x q hm hk hx hf hq
      obtain ⟨k, rfl⟩ : ∃ j, k = j + 1 := ⟨k - 1, by omega⟩
      have hCq := hC.frame (σ' := q) (by omega) (fun c _ _ => hf c (by omega))
      have hb := pow_lt hK (n := (K 0 1 - ((m + 1 : Nat) : Int)).toNat) (by omega)
      have hd := div_in n0 n1 hb.1
      rw [← hx] at hd
      have e1 : Int.tmod x (K 0 2) = m_core K n (m : Int) := by
        rw [Int.tmod_eq_emod_of_nonneg hd.1, hx]
        unfold m_core
        rw [show (K 0 1 - 1 - (m : Int)).toNat = (K 0 1 - ((m + 1 : Nat) : Int)).toNat from by omega]
      have e2 : Int.tdiv x (K 0 2) = n / K 0 2 ^ (K 0 1 - (m : Int)).toNat := by
        rw [Int.tdiv_eq_ediv_of_nonneg hd.1, hx, Int.ediv_ediv_of_nonneg (by omega), show (K 0 1 - (m : Int)).toNat = (K 0 1 - ((m + 1 : Nat) : Int)).toNat + 1 from by omega, Int.pow_succ]
      have hb2 := pow_lt hK (n := (K 0 1 - (m : Int)).toNat) (by omega)
      have hd2 := div_in n0 n1 hb2.1
      have hc := m_core_in hK (n := n) (t := (m : Int))
      obtain ⟨σ', g1, g2, g3⟩ := ih k (n / K 0 2 ^ (K 0 1 - (m : Int)).toNat) (u2 q 746 (m : Int).toNat (m_core K n (m : Int))) (by omega) (by omega) rfl (hf.u rfl) (fun t t0 t1 => by
        by_cases e : t = (m : Int)
        · rw [e, u2_e]
        · rw [u2_i (by omega)]
          exact hq t (by omega) t1)
      refine ⟨σ', ?_, g2, g3⟩
      rw [f_X5_spread_10, show (((m + 1 : Nat) : Int) - 1) = (m : Int) from by omega]
      simp (disch := first | assumption | omega) only [if_true, if_false, zid, zlid, if_pos, if_neg, u2_e, u2_c, u2_i, u1_e, u1_i, Option.bind_some, hCq.n2, e1, e2, Int.add_neg_one]
      exact g1
  obtain ⟨σ', g1, g2, g3⟩ := st (K 0 1).toNat 100000 n σ (by omega) (by omega) (by
    rw [show (K 0 1 - ((K 0 1).toNat : Int)).toNat = 0 from by omega, Int.pow_zero, Int.ediv_one]) FR.refl (fun t t0 t1 => by omega)
  refine ⟨σ', ?_, g2, g3⟩
  unfold f_X5_spread
  simp (disch := first | assumption | omega) only [if_true, if_false, zid, zlid, if_pos, if_neg, u2_e, u2_c, u2_i, u1_e, u1_i, Option.bind_some, hC.n1]
  rw [show K 0 1 - 1 = ((K 0 1).toNat : Int) - 1 from by omega]
  exact g1
/-- what finding the best touches -/
def SF : Nat → Nat → Prop := fun c j => (c = 745 ∧ j = 2) ∨ (746 ≤ c ∧ c ≤ 752)
theorem SF.fr {σ σ' : Nat → Nat → Int} (h : FM SF σ σ') {c : Nat} (hc : ¬ (745 ≤ c ∧ c ≤ 752)) : σ' c = σ c := funext fun j => h c j (by unfold SF; omega)
theorem FR.fm {S : Nat → Prop} {T : Nat → Nat → Prop} {σ σ' : Nat → Nat → Int} (h : FR S σ σ') (hs : ∀ c j, S c → T c j) : FM T σ σ' := fun c j hc => by rw [h c (fun q => hc (hs c j q))]
theorem C_findBest (hR : RS σ a K w (-1) 0) (hC : RC σ a1 K) (hK : WK K) (hS : WS K w) (ha1 : a1 + 19 ≤ 42) (ha : 173 ≤ a) (ha2 : a + 13 ≤ 743) :
    ∃ σ', f_X5_findBest a1 a σ = some (if (m_best K w (m_shs K w)).1 = -1 then 0 else 1, σ') ∧ σ' 745 2 = (m_best K w (m_shs K w)).2 ∧ ((m_best K w (m_shs K w)).1 ≠ -1 → ∀ t : Int, 0 ≤ t → t < K 0 1 → σ' 747 t.toNat = m_core K (m_best K w (m_shs K w)).1 t) ∧ (∀ n : Int, 0 ≤ n → n < m_pow K → σ' 752 n.toNat = m_pr K w (m_shs K w) n) ∧ RPL σ' K w (m_shs K w) ∧ FM SF σ σ' := by
  have hkn := hK.n
  have hpw := m_pow_in hK
  have hsh := m_shs_in (w := w) hK
  obtain ⟨σ1, l1, l2, l3⟩ := C_look hR hC hK hS ha1 ha ha2
  have hfm1 : FM SF σ (u2 σ1 745 2 (-1)) := (l3.fm (fun c j hc => by unfold SF; omega)).u (by unfold SF; omega)
  have hC1 : RC (u2 σ1 745 2 (-1)) a1 K := hC.frame (by omega) (fun c _ _ => SF.fr hfm1 (by omega))
  have hL1 : RPL (u2 σ1 745 2 (-1)) K w (m_shs K w) := l2.fr (u2_ne (by omega)) (u2_ne (by omega)) (u2_ne (by omega))
  have h := sim_loop (F := fun k n (q : Nat → Nat → Int) => f_X5_findBest_20 k a1 (m_pow K) n q) (X := m_bestS K w (m_shs K w)) (hi := m_pow K)
    (fun n q s => 0 ≤ n ∧ q 745 2 = s.2 ∧ (s.1 = -1 → s.2 = -1) ∧ (s.1 ≠ -1 → 0 ≤ s.2 ∧ ∀ t : Int, 0 ≤ t → t < K 0 1 → q 747 t.toNat = m_core K s.1 t) ∧ (∀ i : Int, 0 ≤ i → i < n → q 752 i.toNat = m_pr K w (m_shs K w) i) ∧ RPL q K w (m_shs K w) ∧ FM SF σ q)
    (fun s r => ∃ σ', r = some (if s.1 = -1 then 0 else 1, σ') ∧ σ' 745 2 = s.2 ∧ (s.1 ≠ -1 → ∀ t : Int, 0 ≤ t → t < K 0 1 → σ' 747 t.toNat = m_core K s.1 t) ∧ (∀ n : Int, 0 ≤ n → n < m_pow K → σ' 752 n.toNat = m_pr K w (m_shs K w) n) ∧ RPL σ' K w (m_shs K w) ∧ FM SF σ σ')
    (fun k n q s hn hp => by
      obtain ⟨s1, s2⟩ := s
      obtain ⟨p0, p1, p2, p3, p4, p5, p6⟩ := hp
      dsimp only at p1 p2 p3
      have hCq := hC.frame (σ' := q) (by omega) (fun c _ _ => SF.fr p6 (by omega))
      obtain ⟨q1, g1, g2, g3⟩ := C_spread hCq hK ha1 p0 (n := n) (by omega)
      have hCq1 := hCq.frame (σ' := q1) (by omega) (fun c _ _ => g3 c (by omega))
      have hLq1 := p5.fr (g3 748 (by omega)) (g3 749 (by omega)) (g3 750 (by omega))
      obtain ⟨q2, k1, k2⟩ := C_priceOf hCq1 hK hS ha1 hsh hLq1 (pt := m_ptw K n) (fun t t0 t1 => by
        rw [g2 t t0 t1]
        unfold m_ptw
        rw [Int.toNat_of_nonneg t0])
      rw [show m_price K w (m_shs K w) (m_ptw K n) = m_pr K w (m_shs K w) n from rfl] at k1
      have hpr := m_pr_in hK hS hsh (n := n)
      have hf2 : FM SF σ q2 := (p6.trans (g3.fm (fun c j hc => by unfold SF; omega))).trans (k2.fm (fun c j hc => by unfold SF; omega))
      have e745 : q2 745 2 = s2 := by rw [k2 745 (by omega), g3 745 (by omega)]; exact p1
      have e752 : ∀ i, q2 752 i = q 752 i := fun i => by rw [k2 752 (by omega), g3 752 (by omega)]
      have e747 : ∀ i, q2 747 i = q 747 i := fun i => by rw [k2 747 (by omega), g3 747 (by omega)]
      have e746 : ∀ t : Int, 0 ≤ t → t < K 0 1 → q2 746 t.toNat = m_core K n t := fun t t0 t1 => by rw [k2 746 (by omega)]; exact g2 t t0 t1
      have hLq2 := hLq1.fr (k2 748 (by omega)) (k2 749 (by omega)) (k2 750 (by omega))
      have hpr2 : ∀ v : Nat → Nat → Int, (∀ i, i ≠ n.toNat → v 752 i = q2 752 i) → v 752 n.toNat = m_pr K w (m_shs K w) n → ∀ i : Int, 0 ≤ i → i < n + 1 → v 752 i.toNat = m_pr K w (m_shs K w) i := fun v h1 h2 i i0 i1 => by
        by_cases e : i = n
        · rw [e, h2]
        · rw [h1 _ (by omega), e752]
          exact p4 i i0 (by omega)
      by_cases c1 : m_pr K w (m_shs K w) n = -1
      · have em : m_bestS K w (m_shs K w) n (s1, s2) = (s1, s2) := if_pos c1
        refine ⟨u2 q2 752 n.toNat (m_pr K w (m_shs K w) n), ?_, by omega, by rw [em, u2_c (by omega)]; exact e745, by rw [em]; exact p2, by rw [em]; exact fun z => ⟨(p3 z).1, fun t t0 t1 => by rw [u2_c (by omega), e747]; exact (p3 z).2 t t0 t1⟩, hpr2 _ (fun i hi => u2_i hi) u2_e, hLq2.fr (u2_ne (by omega)) (u2_ne (by omega)) (u2_ne (by omega)), hf2.u (by unfold SF; omega)⟩
        rw [f_X5_findBest_20]
        simp (disch := first | assumption | omega) only [if_true, if_false, zid, zlid, if_pos, if_neg, u2_e, u2_c, u2_i, u1_e, u1_i, Option.bind_some, g1, k1]
      · by_cases c2 : s1 = -1 ∨ m_pr K w (m_shs K w) n < s2
        · have em : m_bestS K w (m_shs K w) n (s1, s2) = (n, m_pr K w (m_shs K w) n) := (if_neg c1).trans (if_pos c2)
          have hz : ∀ i, z_cpy (u2 (u2 q2 752 n.toNat (m_pr K w (m_shs K w) n)) 745 2 (m_pr K w (m_shs K w) n)) 746 747 0 0 4 752 i = u2 q2 752 n.toNat (m_pr K w (m_shs K w) n) 752 i := fun i => by
            rw [z_cpy_ne (by omega), u2_c (by omega)]
          refine ⟨z_cpy (u2 (u2 q2 752 n.toNat (m_pr K w (m_shs K w) n)) 745 2 (m_pr K w (m_shs K w) n)) 746 747 0 0 4, ?_, by omega, by rw [em, z_cpy_ne (by omega), u2_e], by rw [em]; dsimp only; omega, by
            rw [em]
            refine fun z => ⟨by dsimp only; omega, fun t t0 t1 => ?_⟩
            unfold z_cpy
            rw [if_pos (by omega), u2_c (by omega), u2_c (by omega), show 0 + (t.toNat - 0) = t.toNat from by omega]
            exact e746 t t0 t1, hpr2 _ (fun i hi => by rw [hz, u2_i hi]) (by rw [hz, u2_e]), hLq2.fr ?_ ?_ ?_, ?_⟩
          · rw [f_X5_findBest_20]
            by_cases c3 : s1 = -1
            · have c4 := p2 c3
              simp (disch := first | assumption | omega) only [if_true, if_false, zid, zlid, if_pos, if_neg, u2_e, u2_c, u2_i, u1_e, u1_i, Option.bind_some, g1, k1, e745, f_X5_findBest_72]
            · have c4 := (p3 c3).1
              simp (disch := first | assumption | omega) only [if_true, if_false, zid, zlid, if_pos, if_neg, u2_e, u2_c, u2_i, u1_e, u1_i, Option.bind_some, g1, k1, e745, f_X5_findBest_72]
          · rw [z_cpy_ne (by omega), u2_ne (by omega), u2_ne (by omega)]
          · rw [z_cpy_ne (by omega), u2_ne (by omega), u2_ne (by omega)]
          · rw [z_cpy_ne (by omega), u2_ne (by omega), u2_ne (by omega)]
          · intro c j hc
            have hc' := hc
            unfold SF at hc'
            have h5 : FM SF σ (u2 (u2 q2 752 n.toNat (m_pr K w (m_shs K w) n)) 745 2 (m_pr K w (m_shs K w) n)) := (hf2.u (by unfold SF; omega)).u (by unfold SF; omega)
            rw [z_cpy_ne (by omega)]
            exact h5 c j hc
        · have em : m_bestS K w (m_shs K w) n (s1, s2) = (s1, s2) := (if_neg c1).trans (if_neg c2)
          refine ⟨u2 q2 752 n.toNat (m_pr K w (m_shs K w) n), ?_, by omega, by rw [em, u2_c (by omega)]; exact e745, by rw [em]; exact p2, by rw [em]; exact fun z => ⟨(p3 z).1, fun t t0 t1 => by rw [u2_c (by omega), e747]; exact (p3 z).2 t t0 t1⟩, hpr2 _ (fun i hi => u2_i hi) u2_e, hLq2.fr (u2_ne (by omega)) (u2_ne (by omega)) (u2_ne (by omega)), hf2.u (by unfold SF; omega)⟩
          have c3 : s1 ≠ -1 := by omega
          have c4 := (p3 c3).1
          rw [f_X5_findBest_20]
          simp (disch := first | assumption | omega) only [if_true, if_false, zid, zlid, if_pos, if_neg, u2_e, u2_c, u2_i, u1_e, u1_i, Option.bind_some, g1, k1, e745])
    (fun k q s hp => by
      obtain ⟨p0, p1, p2, p3, p4, p5, p6⟩ := hp
      refine ⟨q, ?_, p1, fun z => (p3 z).2, p4, p5, p6⟩
      rw [f_X5_findBest_20]
      by_cases c1 : s.1 = -1
      · have c2 := p2 c1
        simp (disch := first | assumption | omega) only [if_true, if_false, zid, zlid, if_pos, if_neg, u2_e, u2_c, u2_i, u1_e, u1_i, Option.bind_some, p1]
      · have c2 := (p3 c1).1
        simp (disch := first | assumption | omega) only [if_true, if_false, zid, zlid, if_pos, if_neg, u2_e, u2_c, u2_i, u1_e, u1_i, Option.bind_some, p1]) (m_pow K).toNat 100000 0 (u2 σ1 745 2 (-1)) (-1, -1) (by omega) (by omega) ⟨by omega, u2_e, fun _ => rfl, fun z => absurd rfl z, fun i i0 i1 => by omega, hL1, hfm1⟩
  obtain ⟨σ', h1, h2⟩ := h
  refine ⟨σ', ?_, h2⟩
  unfold f_X5_findBest
  rw [l1, Option.bind_some, C_waysOf hC1 hK, Option.bind_some]
  exact h1
end S_WC
