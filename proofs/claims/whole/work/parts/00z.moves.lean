-- the fewest moves on both sides
section S_MV
variable {σ K : Nat → Nat → Int} {a a1 : Nat} {w sh : Nat → Int} {P : Int → Int} {bp s i e : Int} {S : Int → Prop}
def SQ : Nat → Nat → Prop := fun c _ => c = 785 ∨ c = 786
theorem R_mv160 {K110 : Int → Int → (Nat → Nat → Int) → Option (Int × (Nat → Nat → Int))} {K148 : Int → Int → Int → Int → (Nat → Nat → Int) → Option (Int × (Nat → Nat → Int))} (hM : RM σ K) (hK : WK K) (hP : ∀ n : Int, 0 ≤ n → n < m_pow K → σ 784 n.toNat = P n) (h : BP P (m_pow K) bp s (m_N K) i e (σ 785) (σ 786) S) {t n : Int} (t0 : 0 ≤ t) (t1 : t < K 0 1) (hn : σ 786 i.toNat = n) :
    ∃ e' σ', f_X12_moves_160 K110 K148 100000 e i n t 0 σ = K148 e' i n (t + 1) σ' ∧ BP P (m_pow K) bp s (m_N K) i e' (σ' 785) (σ' 786) (fun x => S x ∨ ∃ v, 0 ≤ v ∧ v < K 0 2 ∧ x = m_nb K n t v) ∧ FM SQ σ σ' ∧ σ' 786 i.toNat = n := by
  have hkn := hK.n
  have hpw := m_pow_in hK
  have hl := sim_loop (F := fun k v (q : Int × (Nat → Nat → Int)) => f_X12_moves_160 K110 K148 k q.1 i n t v q.2) (X := fun (_ : Int) (_ : Unit) => ()) (hi := K 0 2)
    (fun v q _ => 0 ≤ v ∧ FM SQ σ q.2 ∧ BP P (m_pow K) bp s (m_N K) i q.1 (q.2 785) (q.2 786) (fun x => S x ∨ ∃ u, 0 ≤ u ∧ u < v ∧ x = m_nb K n t u) ∧ q.2 786 i.toNat = n)
    (fun _ r => ∃ e' σ', r = K148 e' i n (t + 1) σ' ∧ BP P (m_pow K) bp s (m_N K) i e' (σ' 785) (σ' 786) (fun x => S x ∨ ∃ v, 0 ≤ v ∧ v < K 0 2 ∧ x = m_nb K n t v) ∧ FM SQ σ σ' ∧ σ' 786 i.toNat = n)
    (fun k v q _ hv hq => by
      obtain ⟨e1, q⟩ := q
      obtain ⟨p0, p1, p2, p3⟩ := hq
      dsimp only at p1 p2 p3
      have hMq := hM.fm p1 (fun c j hj => by unfold SQ at hj; omega)
      have hb := p2.2.1
      have hi := p2.1
      have hi0 := hb.1
      have hqi := hb.2.2.1 i hi0.1 hi
      rw [p3] at hqi
      have hle := hb.le
      have hnb := m_nb_in hK hqi.1 hqi.2.1 t0 t1 p0 hv
      have hc := m_core_in hK (n := n) (t := t)
      have enb : n + (v - m_core K n t) * K 0 2 ^ (K 0 1 - 1 - t).toNat = m_nb K n t v := rfl
      have hx0 : 0 ≤ n + (v - m_core K n t) * K 0 2 ^ (K 0 1 - 1 - t).toNat := hnb.1
      have hx1 : n + (v - m_core K n t) * K 0 2 ^ (K 0 1 - 1 - t).toNat < m_pow K := hnb.2.1
      have ez : z_w (n + z_w (z_w (v - m_core K n t) * K 0 2 ^ (K 0 1 - 1 - t).toNat)) = m_nb K n t v := by
        rw [zid (x := v - m_core K n t) (by omega) (by omega), zid (x := (v - m_core K n t) * K 0 2 ^ (K 0 1 - 1 - t).toNat) (by omega) (by omega), zid (by omega) (by omega)]
        rfl
      have eP : q 784 (m_nb K n t v).toNat = P (m_nb K n t v) := by
        rw [p1 784 _ (by unfold SQ; omega)]
        exact hP _ hnb.1 hnb.2.1
      have hst : ∀ S' : Int → Prop, (fun x => S' x ∨ x = m_nb K n t v) = (fun x => S' x ∨ x = m_nb K n t v) := fun _ => rfl
      have hext : ∀ x, (S x ∨ ∃ u, 0 ≤ u ∧ u < v + 1 ∧ x = m_nb K n t u) → ((S x ∨ ∃ u, 0 ≤ u ∧ u < v ∧ x = m_nb K n t u) ∨ x = m_nb K n t v) := fun x hx => by
        rcases hx with hx | ⟨u, u0, u1, u2⟩
        · exact Or.inl (Or.inl hx)
        · by_cases c : u = v
          · exact Or.inr (by rw [u2, c])
          · exact Or.inl (Or.inr ⟨u, u0, by omega, u2⟩)
      have hN : m_N K (q 786 i.toNat) (m_nb K n t v) := by
        rw [p3]
        exact ⟨t, v, t0, t1, p0, hv, rfl⟩
      have hpick : f_X12_moves_160 K110 K148 (k + 1) e1 i n t v q = if q 785 (m_nb K n t v).toNat = -1 then (if P (m_nb K n t v) = -1 then f_X12_moves_160 K110 K148 k e1 i n t (v + 1) q else if 0 ≤ e1 ∧ e1 < 1296 then f_X12_moves_160 K110 K148 k (z_w (e1 + 1)) i n t (v + 1) (u2 (u2 q 785 (m_nb K n t v).toNat (q 785 n.toNat + 1)) 786 e1.toNat (m_nb K n t v)) else none) else f_X12_moves_160 K110 K148 k e1 i n t (v + 1) q := by
        have hpw2 := R_power (n := K 0 1 - 1 - t) hMq hK (by omega) (by omega)
        rw [f_X12_moves_160]
        simp (disch := first | assumption | omega) only [if_true, if_false, zid, zlid, if_pos, if_neg, u2_e, u2_c, u2_i, u1_e, u1_i, Option.bind_some, hMq.n1, hMq.n2, R_coreIn hMq hK, hpw2, enb, eP]
      by_cases c1 : q 785 (m_nb K n t v).toNat = -1
      · by_cases c2 : P (m_nb K n t v) = -1
        · refine ⟨(e1, q), ?_, by omega, p1, (p2.known (Or.inr c2)).mono hext, p3⟩
          show f_X12_moves_160 K110 K148 (k + 1) e1 i n t v q = _
          rw [hpick, if_pos c1, if_pos c2]
        · have hroom := hb.room hnb.1 hnb.2.1 c1
          have hpush := p2.push hnb.1 hnb.2.1 c1 c2 hN
          rw [p3] at hpush
          refine ⟨(e1 + 1, u2 (u2 q 785 (m_nb K n t v).toNat (q 785 n.toNat + 1)) 786 e1.toNat (m_nb K n t v)), ?_, by omega, (p1.u (Or.inl rfl)).u (Or.inr rfl), ?_, ?_⟩
          · show f_X12_moves_160 K110 K148 (k + 1) e1 i n t v q = _
            rw [hpick, if_pos c1, if_neg c2, if_pos (by omega), zid (by omega) (by omega)]
          · dsimp only
            rw [u2_ne (by omega), u2_row, u2_row, u2_ne (by omega)]
            exact hpush.mono hext
          · dsimp only
            rw [u2_i (by omega), u2_c (by omega)]
            exact p3
      · refine ⟨(e1, q), ?_, by omega, p1, (p2.known (Or.inl c1)).mono hext, p3⟩
        show f_X12_moves_160 K110 K148 (k + 1) e1 i n t v q = _
        rw [hpick, if_neg c1])
    (fun k q _ hq => by
      obtain ⟨e1, q⟩ := q
      obtain ⟨p0, p1, p2, p3⟩ := hq
      dsimp only at p1 p2 p3
      have hMq := hM.fm p1 (fun c j hj => by unfold SQ at hj; omega)
      refine ⟨e1, q, ?_, p2, p1, p3⟩
      show f_X12_moves_160 K110 K148 (k + 1) e1 i n t (K 0 2) q = _
      rw [f_X12_moves_160]
      simp (disch := first | assumption | omega) only [if_true, if_false, zid, zlid, if_pos, if_neg, u2_e, u2_c, u2_i, u1_e, u1_i, Option.bind_some, hMq.n2]) (K 0 2).toNat 100000 0 (e, σ) () (by omega) (by omega) ⟨by omega, FM.refl, h.mono (fun x hx => by
        rcases hx with hx | ⟨u, u0, u1, _⟩
        · exact hx
        · omega), hn⟩
  exact hl
theorem R_mv148 {K110 : Int → Int → (Nat → Nat → Int) → Option (Int × (Nat → Nat → Int))} (hM : RM σ K) (hK : WK K) (hP : ∀ n : Int, 0 ≤ n → n < m_pow K → σ 784 n.toNat = P n) (h : BB P (m_pow K) bp s (m_N K) i e (σ 785) (σ 786)) (hi : i < e) (hb : P (σ 786 i.toNat) ≠ bp) :
    ∃ e' σ', f_X12_moves_148 K110 100000 e i (σ 786 i.toNat) 0 σ = K110 e' (i + 1) σ' ∧ BB P (m_pow K) bp s (m_N K) (i + 1) e' (σ' 785) (σ' 786) ∧ FM SQ σ σ' := by
  have hkn := hK.n
  have hi0 := h.1
  have hpw := m_pow_in hK
  have hle := h.le
  generalize hn : σ 786 i.toNat = n at hb
  have hl := sim_loop (F := fun k t (q : Int × (Nat → Nat → Int)) => f_X12_moves_148 K110 k q.1 i n t q.2) (X := fun (_ : Int) (_ : Unit) => ()) (hi := K 0 1)
    (fun t q _ => 0 ≤ t ∧ FM SQ σ q.2 ∧ BP P (m_pow K) bp s (m_N K) i q.1 (q.2 785) (q.2 786) (fun x => ∃ u v, 0 ≤ u ∧ u < t ∧ 0 ≤ v ∧ v < K 0 2 ∧ x = m_nb K n u v) ∧ q.2 786 i.toNat = n)
    (fun _ r => ∃ e' σ', r = K110 e' (i + 1) σ' ∧ BB P (m_pow K) bp s (m_N K) (i + 1) e' (σ' 785) (σ' 786) ∧ FM SQ σ σ')
    (fun k t q _ ht hq => by
      obtain ⟨e1, q⟩ := q
      obtain ⟨p0, p1, p2, p3⟩ := hq
      dsimp only at p1 p2 p3
      have hMq := hM.fm p1 (fun c j hj => by unfold SQ at hj; omega)
      obtain ⟨e2, q2, g1, g2, g3, g4⟩ := R_mv160 (K110 := K110) (K148 := f_X12_moves_148 K110 k) hMq hK (fun n n0 n1 => by rw [p1 784 _ (by unfold SQ; omega)]; exact hP n n0 n1) p2 p0 ht p3
      refine ⟨(e2, q2), ?_, by omega, p1.trans g3, g2.mono (fun x hx => ?_), g4⟩
      · show f_X12_moves_148 K110 (k + 1) e1 i n t q = _
        rw [f_X12_moves_148, hMq.n1, if_neg (by omega)]
        exact g1
      · obtain ⟨u, v, u0, u1, v0, v1, hx⟩ := hx
        by_cases c : u = t
        · exact Or.inr ⟨v, v0, v1, by rw [hx, c]⟩
        · exact Or.inl ⟨u, v, u0, by omega, v0, v1, hx⟩)
    (fun k q _ hq => by
      obtain ⟨e1, q⟩ := q
      obtain ⟨p0, p1, p2, p3⟩ := hq
      dsimp only at p1 p2 p3
      have hMq := hM.fm p1 (fun c j hj => by unfold SQ at hj; omega)
      refine ⟨e1, q, ?_, p2.next (by rw [p3]; exact hb) (fun m hm => ?_), p1⟩
      · show f_X12_moves_148 K110 (k + 1) e1 i n (K 0 1) q = _
        rw [f_X12_moves_148]
        simp (disch := first | assumption | omega) only [if_true, if_false, zid, zlid, if_pos, if_neg, u2_e, u2_c, u2_i, u1_e, u1_i, Option.bind_some, hMq.n1]
      · rw [p3] at hm
        obtain ⟨t, v, t0, t1, v0, v1, hx⟩ := hm
        exact ⟨t, v, t0, t1, v0, v1, hx⟩) (K 0 1).toNat 100000 0 (e, σ) () (by omega) (by omega) ⟨by omega, FM.refl, (BP.of h hi).mono (fun x hx => by
        obtain ⟨u, v, u0, u1, _⟩ := hx
        omega), hn⟩
  exact hl
theorem R_mv110 (hK : WK K) : ∀ (n k : Nat) (i e : Int) (σ : Nat → Nat → Int), RM σ K → (∀ n : Int, 0 ≤ n → n < m_pow K → σ 784 n.toNat = P n) → σ 758 47 = bp → BB P (m_pow K) bp s (m_N K) i e (σ 785) (σ 786) → m_pow K - i = n → n < k → ∃ x σ', f_X12_moves_110 k e i σ = some (x, σ') ∧ b_Ans P (m_pow K) bp s (m_N K) x ∧ FM SQ σ σ' := by
  have hkn := hK.n
  have hpw := m_pow_in hK
  intro n
  induction n with
  | zero =>
    intro k i e σ hM hP hbp h hn hk
    obtain ⟨k, rfl⟩ : ∃ j, k = j + 1 := ⟨k - 1, by omega⟩
    have hle := h.le
    have h1 := h.1
    refine ⟨-1, σ, ?_, h.none (by omega), FM.refl⟩
    rw [f_X12_moves_110]
    simp (disch := first | assumption | omega) only [if_true, if_false, zid, zlid, if_pos, if_neg, u2_e, u2_c, u2_i, u1_e, u1_i, Option.bind_some]
  | succ n ih =>
    intro k i e σ hM hP hbp h hn hk
    obtain ⟨k, rfl⟩ : ∃ j, k = j + 1 := ⟨k - 1, by omega⟩
    have hle := h.le
    have h1 := h.1
    by_cases c1 : e ≤ i
    · refine ⟨-1, σ, ?_, h.none (by omega), FM.refl⟩
      rw [f_X12_moves_110]
      simp (disch := first | assumption | omega) only [if_true, if_false, zid, zlid, if_pos, if_neg, u2_e, u2_c, u2_i, u1_e, u1_i, Option.bind_some]
    · have hq := h.2.2.1 i h1.1 (by omega)
      have eP := hP _ hq.1 hq.2.1
      by_cases c2 : P (σ 786 i.toNat) = bp
      · refine ⟨σ 785 (σ 786 i.toNat).toNat, σ, ?_, h.found (by omega) c2, FM.refl⟩
        rw [f_X12_moves_110]
        simp (disch := first | assumption | omega) only [if_true, if_false, zid, zlid, if_pos, if_neg, u2_e, u2_c, u2_i, u1_e, u1_i, Option.bind_some, eP, hbp]
      · obtain ⟨e', σ', g1, g2, g3⟩ := R_mv148 (K110 := f_X12_moves_110 k) hM hK hP h (by omega) c2
        obtain ⟨x, σ2, k1, k2, k3⟩ := ih k (i + 1) e' σ' (hM.fm g3 (fun c j hj => by unfold SQ at hj; omega)) (fun n n0 n1 => by rw [g3 784 _ (by unfold SQ; omega)]; exact hP n n0 n1) (by rw [g3 758 47 (by unfold SQ; omega)]; exact hbp) g2 (by omega) (by omega)
        refine ⟨x, σ2, ?_, k2, g3.trans k3⟩
        rw [f_X12_moves_110]
        simp (disch := first | assumption | omega) only [if_true, if_false, zid, zlid, if_pos, if_neg, u2_e, u2_c, u2_i, u1_e, u1_i, Option.bind_some, eP, hbp]
        rw [g1]
        exact k1
theorem R_moves_47 (hM : RM σ K) (hK : WK K) (hS : WS K (σ 776)) (h38 : σ 758 38 = -1) (hs : RSH σ K sh) : ∃ x σ', f_X12_moves_47 100000 (m_pow K) 0 σ = some (x, σ') ∧ b_Ans (m_pr K (σ 776) sh) (m_pow K) (σ 758 47) (m_way K (σ 776)) (m_N K) x ∧ FM (fun c _ => c = 783 ∨ c = 784 ∨ c = 785 ∨ c = 786) σ σ' := by
  have hkn := hK.n
  have hpw := m_pow_in hK
  have h := hoare_loop (F := fun k n (q : Nat → Nat → Int) => f_X12_moves_47 k (m_pow K) n q) (hi := m_pow K)
    (fun n q => 0 ≤ n ∧ FM (fun c _ => c = 783 ∨ c = 784 ∨ c = 785 ∨ c = 786) σ q ∧ ∀ m : Int, 0 ≤ m → m < n → q 784 m.toNat = m_pr K (σ 776) sh m ∧ q 785 m.toNat = -1)
    (fun r => b_Ans (m_pr K (σ 776) sh) (m_pow K) (σ 758 47) (m_way K (σ 776)) (m_N K) r.1 ∧ FM (fun c _ => c = 783 ∨ c = 784 ∨ c = 785 ∨ c = 786) σ r.2)
    (fun k n q hn hq => by
      obtain ⟨p0, p1, p2⟩ := hq
      have hMq := hM.fm p1 (fun c j hj => by omega)
      have ew : q 776 = σ 776 := funext fun j => p1 776 j (by omega)
      obtain ⟨q1, g1, g2, g3⟩ := R_priceOf (b := 776) hMq hK (by rw [ew]; exact hS) (by omega) (by omega) (by rw [p1 758 38 (by omega)]; exact h38) (sh := sh) (fun d d0 d1 => by
        rw [p1 781 d.toNat (by omega), p1 782 d.toNat (by omega)]
        exact hs d d0 d1) p0 (n := n) (by omega)
      rw [ew] at g1
      refine ⟨u2 (u2 q1 784 n.toNat (m_pr K (σ 776) sh n)) 785 n.toNat (-1), ?_, by omega, ((p1.trans (g2.mono (fun c j hc => Or.inl hc))).u (by omega)).u (by omega), fun m m0 m1 => ?_⟩
      · rw [f_X12_moves_47]
        simp (disch := first | assumption | omega) only [if_true, if_false, zid, zlid, if_pos, if_neg, u2_e, u2_c, u2_i, u1_e, u1_i, Option.bind_some, g1]
      · by_cases c : m = n
        · rw [c]
          exact ⟨by rw [u2_c (by omega), u2_e], u2_e⟩
        · rw [u2_c (by omega), u2_i (by omega), u2_i (by omega), u2_c (by omega), g2 784 _ (by omega), g2 785 _ (by omega)]
          exact p2 m m0 (by omega))
    (fun k q hq => by
      obtain ⟨p0, p1, p2⟩ := hq
      have hMq := hM.fm p1 (fun c j hj => by omega)
      have ew : q 776 = σ 776 := funext fun j => p1 776 j (by omega)
      have hw := m_way_in hK hS
      have hwo := R_wayOf (b := 776) hMq hK (by rw [ew]; exact hS)
      rw [ew] at hwo
      have hf : FM (fun c _ => c = 783 ∨ c = 784 ∨ c = 785 ∨ c = 786) σ (u2 (u2 q 786 0 (m_way K (σ 776))) 785 (m_way K (σ 776)).toNat 0) := (p1.u (by omega)).u (by omega)
      have hst : BB (m_pr K (σ 776) sh) (m_pow K) (σ 758 47) (m_way K (σ 776)) (m_N K) 0 1 ((u2 (u2 q 786 0 (m_way K (σ 776))) 785 (m_way K (σ 776)).toNat 0) 785) ((u2 (u2 q 786 0 (m_way K (σ 776))) 785 (m_way K (σ 776)).toNat 0) 786) := by
        rw [u2_row, u2_ne (by omega), u2_ne (by omega), u2_row]
        exact BB.start hpw.1 hw.1 hw.2.1 (fun n hn => by
          have := (p2 (n : Int) (by omega) hn).2
          rw [Int.toNat_natCast] at this
          exact this)
      obtain ⟨x, σ2, k1, k2, k3⟩ := R_mv110 hK (m_pow K).toNat 100000 0 1 _ (hM.fm hf (fun c j hj => by omega)) (fun n n0 n1 => by
        rw [u2_c (by omega), u2_c (by omega)]
        exact (p2 n n0 n1).1) (by rw [hf 758 47 (by omega)]) hst (by omega) (by omega)
      refine ⟨(x, σ2), ?_, k2, hf.trans (k3.mono (fun c j hc => by unfold SQ at hc; omega))⟩
      rw [f_X12_moves_47]
      simp (disch := first | assumption | omega) only [if_true, if_false, zid, zlid, if_pos, if_neg, u2_e, u2_c, u2_i, u1_e, u1_i, Option.bind_some, hwo]
      exact k1) (m_pow K).toNat 100000 0 σ (by omega) (by omega) ⟨by omega, FM.refl, fun m m0 m1 => by omega⟩
  obtain ⟨⟨x, σ'⟩, h1, h2, h3⟩ := h
  exact ⟨x, σ', h1, h2, h3⟩
-- the class: distances 753, the queue 754, how many are queued 745 10
def SP : Nat → Nat → Prop := fun c j => c = 753 ∨ c = 754 ∨ (c = 745 ∧ j = 10)
theorem SP.fr {σ σ' : Nat → Nat → Int} (h : FM SP σ σ') {c : Nat} (hc : ¬ (745 ≤ c ∧ c ≤ 754)) : σ' c = σ c := funext fun j => h c j (by unfold SP; omega)
theorem C_reach (hK : WK K) {D0 : Int} (h : BP P (m_pow K) bp s (m_N K) i (σ 745 10) (σ 753) (σ 754) S) {m : Int} (m0 : 0 ≤ m) (m1 : m < m_pow K) (hp : P m ≠ -1) (hn : m_N K (σ 754 i.toNat) m) (hd : D0 = σ 753 (σ 754 i.toNat).toNat + 1) :
    ∃ σ', f_X5_reach m D0 σ = some σ' ∧ BP P (m_pow K) bp s (m_N K) i (σ' 745 10) (σ' 753) (σ' 754) (fun x => S x ∨ x = m) ∧ FM SP σ σ' ∧ σ' 754 i.toNat = σ 754 i.toNat := by
  have hpw := m_pow_in hK
  have hb := h.2.1
  have hi := h.1
  have h1 := hb.1
  have hle := hb.le
  subst hd
  by_cases c1 : σ 753 m.toNat = -1
  · have hroom := hb.room m0 m1 c1
    have hpush := h.push m0 m1 c1 hp hn
    refine ⟨u2 (u2 (u2 σ 753 m.toNat (σ 753 (σ 754 i.toNat).toNat + 1)) 754 (σ 745 10).toNat m) 745 10 (σ 745 10 + 1), ?_, ?_, ((FM.refl.u (Or.inl rfl)).u (Or.inr (Or.inl rfl))).u (Or.inr (Or.inr ⟨rfl, rfl⟩)), ?_⟩
    · unfold f_X5_reach f_X5_reach_26
      simp (disch := first | assumption | omega) only [if_true, if_false, zid, zlid, if_pos, if_neg, u2_e, u2_c, u2_i, u1_e, u1_i, Option.bind_some]
    · rw [u2_e, u2_ne (by omega), u2_ne (by omega), u2_row, u2_ne (by omega), u2_row, u2_ne (by omega)]
      exact hpush
    · rw [u2_c (by omega), u2_i (by omega), u2_c (by omega)]
  · refine ⟨σ, ?_, h.known (Or.inl c1), FM.refl, rfl⟩
    unfold f_X5_reach f_X5_reach_26
    simp (disch := first | assumption | omega) only [if_true, if_false, zid, zlid, if_pos, if_neg, u2_e, u2_c, u2_i, u1_e, u1_i, Option.bind_some]
theorem C_rn35 {K10 : Nat → Int → Int → Int → (Nat → Nat → Int) → Option (Nat → Nat → Int)} (hC : RC σ a1 K) (hK : WK K) (ha1 : a1 + 19 ≤ 42) (hP : ∀ n : Int, 0 ≤ n → n < m_pow K → σ 752 n.toNat = P n) (h : BP P (m_pow K) bp s (m_N K) i (σ 745 10) (σ 753) (σ 754) S) {t n : Int} (t0 : 0 ≤ t) (t1 : t < K 0 1) (hn : σ 754 i.toNat = n) :
    ∃ σ', f_X5_reachNeighbours_35 K10 100000 a1 n (K 0 2 ^ (K 0 1 - 1 - t).toNat) t (m_core K n t) 0 σ = K10 a1 n (K 0 2 ^ (K 0 1 - 1 - (t - 1)).toNat) (t - 1) σ' ∧ BP P (m_pow K) bp s (m_N K) i (σ' 745 10) (σ' 753) (σ' 754) (fun x => S x ∨ ∃ v, 0 ≤ v ∧ v < K 0 2 ∧ x = m_nb K n t v) ∧ FM SP σ σ' ∧ σ' 754 i.toNat = n := by
  have hkn := hK.n
  have hpw := m_pow_in hK
  have hl := sim_loop (F := fun k v (q : Nat → Nat → Int) => f_X5_reachNeighbours_35 K10 k a1 n (K 0 2 ^ (K 0 1 - 1 - t).toNat) t (m_core K n t) v q) (X := fun (_ : Int) (_ : Unit) => ()) (hi := K 0 2)
    (fun v q _ => 0 ≤ v ∧ FM SP σ q ∧ BP P (m_pow K) bp s (m_N K) i (q 745 10) (q 753) (q 754) (fun x => S x ∨ ∃ u, 0 ≤ u ∧ u < v ∧ x = m_nb K n t u) ∧ q 754 i.toNat = n)
    (fun _ r => ∃ σ', r = K10 a1 n (K 0 2 ^ (K 0 1 - 1 - (t - 1)).toNat) (t - 1) σ' ∧ BP P (m_pow K) bp s (m_N K) i (σ' 745 10) (σ' 753) (σ' 754) (fun x => S x ∨ ∃ v, 0 ≤ v ∧ v < K 0 2 ∧ x = m_nb K n t v) ∧ FM SP σ σ' ∧ σ' 754 i.toNat = n)
    (fun k v q _ hv hq => by
      obtain ⟨p0, p1, p2, p3⟩ := hq
      have hCq := hC.frame (σ' := q) (by omega) (fun c _ _ => SP.fr p1 (by omega))
      have hb := p2.2.1
      have hi := p2.1
      have hi0 := hb.1
      have hqi := hb.2.2.1 i hi0.1 hi
      rw [p3] at hqi
      have hle := hb.le
      have hnb := m_nb_in hK hqi.1 hqi.2.1 t0 t1 p0 hv
      have hc := m_core_in hK (n := n) (t := t)
      have hx0 : 0 ≤ n + (v - m_core K n t) * K 0 2 ^ (K 0 1 - 1 - t).toNat := hnb.1
      have hx1 : n + (v - m_core K n t) * K 0 2 ^ (K 0 1 - 1 - t).toNat < m_pow K := hnb.2.1
      have enb : n + (v - m_core K n t) * K 0 2 ^ (K 0 1 - 1 - t).toNat = m_nb K n t v := rfl
      have ez : z_w (n + z_w (z_w (v - m_core K n t) * K 0 2 ^ (K 0 1 - 1 - t).toNat)) = m_nb K n t v := by
        rw [zid (x := v - m_core K n t) (by omega) (by omega), zid (x := (v - m_core K n t) * K 0 2 ^ (K 0 1 - 1 - t).toNat) (by omega) (by omega), zid (by omega) (by omega)]
        rfl
      have eP : q 752 (m_nb K n t v).toNat = P (m_nb K n t v) := by
        rw [p1 752 _ (by unfold SP; omega)]
        exact hP _ hnb.1 hnb.2.1
      have hext : ∀ x, (S x ∨ ∃ u, 0 ≤ u ∧ u < v + 1 ∧ x = m_nb K n t u) → ((S x ∨ ∃ u, 0 ≤ u ∧ u < v ∧ x = m_nb K n t u) ∨ x = m_nb K n t v) := fun x hx => by
        rcases hx with hx | ⟨u, u0, u1, u2⟩
        · exact Or.inl (Or.inl hx)
        · by_cases c : u = v
          · exact Or.inr (by rw [u2, c])
          · exact Or.inl (Or.inr ⟨u, u0, by omega, u2⟩)
      have hN : m_N K (q 754 i.toNat) (m_nb K n t v) := by
        rw [p3]
        exact ⟨t, v, t0, t1, p0, hv, rfl⟩
      by_cases c2 : P (m_nb K n t v) = -1
      · refine ⟨q, ?_, by omega, p1, (p2.known (Or.inr c2)).mono hext, p3⟩
        rw [f_X5_reachNeighbours_35]
        simp (disch := first | assumption | omega) only [if_true, if_false, zid, zlid, if_pos, if_neg, u2_e, u2_c, u2_i, u1_e, u1_i, Option.bind_some, hCq.n2, enb, eP]
      · obtain ⟨q2, g1, g2, g3, g4⟩ := C_reach hK (D0 := q 753 n.toNat + 1) p2 hnb.1 hnb.2.1 c2 hN (by rw [p3])
        refine ⟨q2, ?_, by omega, p1.trans g3, g2.mono hext, by rw [g4]; exact p3⟩
        rw [f_X5_reachNeighbours_35]
        simp (disch := first | assumption | omega) only [if_true, if_false, zid, zlid, if_pos, if_neg, u2_e, u2_c, u2_i, u1_e, u1_i, Option.bind_some, hCq.n2, enb, eP, g1])
    (fun k q _ hq => by
      obtain ⟨p0, p1, p2, p3⟩ := hq
      have hCq := hC.frame (σ' := q) (by omega) (fun c _ _ => SP.fr p1 (by omega))
      have hb := pow_lt hK (n := (K 0 1 - 1 - (t - 1)).toNat) (by omega)
      have e1 : K 0 2 ^ (K 0 1 - 1 - t).toNat * K 0 2 = K 0 2 ^ (K 0 1 - 1 - (t - 1)).toNat := by
        rw [← Int.pow_succ]
        congr 1
        omega
      refine ⟨q, ?_, p2, p1, p3⟩
      rw [f_X5_reachNeighbours_35]
      simp (disch := first | assumption | omega) only [if_true, if_false, zid, zlid, if_pos, if_neg, u2_e, u2_c, u2_i, u1_e, u1_i, Option.bind_some, hCq.n2, e1, Int.add_neg_one]) (K 0 2).toNat 100000 0 σ () (by omega) (by omega) ⟨by omega, FM.refl, h.mono (fun x hx => by
        rcases hx with hx | ⟨u, u0, u1, _⟩
        · exact hx
        · omega), hn⟩
  exact hl
theorem C_reachNeighbours (hC : RC σ a1 K) (hK : WK K) (ha1 : a1 + 19 ≤ 42) (hP : ∀ n : Int, 0 ≤ n → n < m_pow K → σ 752 n.toNat = P n) (h : BB P (m_pow K) bp s (m_N K) i (σ 745 10) (σ 753) (σ 754)) (hi : i < σ 745 10) (hb : P (σ 754 i.toNat) ≠ bp) :
    ∃ σ', f_X5_reachNeighbours a1 (σ 754 i.toNat) σ = some σ' ∧ BB P (m_pow K) bp s (m_N K) (i + 1) (σ' 745 10) (σ' 753) (σ' 754) ∧ FM SP σ σ' := by
  have hkn := hK.n
  have hpw := m_pow_in hK
  have hi0 := h.1
  have hle := h.le
  have hqi := h.2.2.1 i hi0.1 hi
  generalize hn : σ 754 i.toNat = n at hb hqi
  have st : ∀ (m k : Nat) (q : Nat → Nat → Int), (m : Int) ≤ K 0 1 → m < k → FM SP σ q → BP P (m_pow K) bp s (m_N K) i (q 745 10) (q 753) (q 754) (fun x => ∃ u v, (m : Int) ≤ u ∧ u < K 0 1 ∧ 0 ≤ v ∧ v < K 0 2 ∧ x = m_nb K n u v) → q 754 i.toNat = n →
      ∃ σ', f_X5_reachNeighbours_10 k a1 n (K 0 2 ^ (K 0 1 - 1 - ((m : Int) - 1)).toNat) ((m : Int) - 1) q = some σ' ∧ BB P (m_pow K) bp s (m_N K) (i + 1) (σ' 745 10) (σ' 753) (σ' 754) ∧ FM SP σ σ' := by
    intro m
    induction m with
    | zero =>
      intro k q hm hk p1 p2 p3
      obtain ⟨k, rfl⟩ : ∃ j, k = j + 1 := ⟨k - 1, by omega⟩
      refine ⟨q, ?_, p2.next (by rw [p3]; exact hb) (fun x hx => ?_), p1⟩
      · rw [f_X5_reachNeighbours_10]
        simp (disch := first | assumption | omega) only [if_true, if_false, zid, zlid, if_pos, if_neg, u2_e, u2_c, u2_i, u1_e, u1_i, Option.bind_some]
      · rw [p3] at hx
        obtain ⟨t, v, t0, t1, v0, v1, hx⟩ := hx
        exact ⟨t, v, by omega, t1, v0, v1, hx⟩
    | succ m ih =>
      intro k q hm hk p1 p2 p3
      obtain ⟨k, rfl⟩ : ∃ j, k = j + 1 := ⟨k - 1, by omega⟩
      have hCq := hC.frame (σ' := q) (by omega) (fun c _ _ => SP.fr p1 (by omega))
      have em : ((m + 1 : Nat) : Int) - 1 = (m : Int) := by omega
      rw [em]
      have hpb := pow_lt hK (n := (K 0 1 - 1 - (m : Int)).toNat) (by omega)
      obtain ⟨q2, g1, g2, g3, g4⟩ := C_rn35 (K10 := f_X5_reachNeighbours_10 k) hCq hK ha1 (fun n n0 n1 => by rw [p1 752 _ (by unfold SP; omega)]; exact hP n n0 n1) p2 (t := (m : Int)) (by omega) (by omega) p3
      have hd := div_in (x := n) (m := 1296) hqi.1 (by omega) hpb.1
      have e1 : Int.tdiv n (K 0 2 ^ (K 0 1 - 1 - (m : Int)).toNat) = n / K 0 2 ^ (K 0 1 - 1 - (m : Int)).toNat := Int.tdiv_eq_ediv_of_nonneg hqi.1
      have e2 : Int.tmod (n / K 0 2 ^ (K 0 1 - 1 - (m : Int)).toNat) (K 0 2) = m_core K n (m : Int) := Int.tmod_eq_emod_of_nonneg hd.1
      have hc := m_core_in hK (n := n) (t := (m : Int))
      obtain ⟨σ', k1, k2, k3⟩ := ih k q2 (by omega) (by omega) (p1.trans g3) (g2.mono (fun x hx => by
        obtain ⟨u, v, u0, u1, v0, v1, hx⟩ := hx
        by_cases c : u = (m : Int)
        · exact Or.inr ⟨v, v0, v1, by rw [hx, c]⟩
        · exact Or.inl ⟨u, v, by omega, u1, v0, v1, hx⟩)) g4
      refine ⟨σ', ?_, k2, k3⟩
      rw [f_X5_reachNeighbours_10]
      simp (disch := first | assumption | omega) only [if_true, if_false, zid, zlid, if_pos, if_neg, u2_e, u2_c, u2_i, u1_e, u1_i, Option.bind_some, hCq.n2, e1, e2]
      rw [g1]
      exact k1
  obtain ⟨σ', k1, k2, k3⟩ := st (K 0 1).toNat 100000 σ (by omega) (by omega) FM.refl ((BP.of h hi).mono (fun x hx => by
    obtain ⟨u, v, u0, u1, _⟩ := hx
    omega)) hn
  refine ⟨σ', ?_, k2, k3⟩
  unfold f_X5_reachNeighbours
  rw [show (K 0 1 - 1 - (((K 0 1).toNat : Int) - 1)).toNat = 0 from by omega, Int.pow_zero, show ((K 0 1).toNat : Int) - 1 = K 0 1 - 1 from by omega] at k1
  simp (disch := first | assumption | omega) only [if_true, if_false, zid, zlid, if_pos, if_neg, u2_e, u2_c, u2_i, u1_e, u1_i, Option.bind_some, hC.n1]
  exact k1
theorem C_fm54 (hK : WK K) (ha1 : a1 + 19 ≤ 42) : ∀ (n k : Nat) (i : Int) (σ : Nat → Nat → Int), RC σ a1 K → (∀ n : Int, 0 ≤ n → n < m_pow K → σ 752 n.toNat = P n) → σ 745 2 = bp → BB P (m_pow K) bp s (m_N K) i (σ 745 10) (σ 753) (σ 754) → m_pow K - i = n → n < k → ∃ x σ', f_X5_fewestMoves_54 k a1 i σ = some (x, σ') ∧ b_Ans P (m_pow K) bp s (m_N K) x ∧ FM SP σ σ' := by
  have hkn := hK.n
  have hpw := m_pow_in hK
  intro n
  induction n with
  | zero =>
    intro k i σ hC hP hbp h hn hk
    obtain ⟨k, rfl⟩ : ∃ j, k = j + 1 := ⟨k - 1, by omega⟩
    have hle := h.le
    have h1 := h.1
    refine ⟨-1, σ, ?_, h.none (by omega), FM.refl⟩
    rw [f_X5_fewestMoves_54]
    simp (disch := first | assumption | omega) only [if_true, if_false, zid, zlid, if_pos, if_neg, u2_e, u2_c, u2_i, u1_e, u1_i, Option.bind_some]
  | succ n ih =>
    intro k i σ hC hP hbp h hn hk
    obtain ⟨k, rfl⟩ : ∃ j, k = j + 1 := ⟨k - 1, by omega⟩
    have hle := h.le
    have h1 := h.1
    by_cases c1 : σ 745 10 ≤ i
    · refine ⟨-1, σ, ?_, h.none (by omega), FM.refl⟩
      rw [f_X5_fewestMoves_54]
      simp (disch := first | assumption | omega) only [if_true, if_false, zid, zlid, if_pos, if_neg, u2_e, u2_c, u2_i, u1_e, u1_i, Option.bind_some]
    · have hq := h.2.2.1 i h1.1 (by omega)
      have eP := hP _ hq.1 hq.2.1
      by_cases c2 : P (σ 754 i.toNat) = bp
      · refine ⟨σ 753 (σ 754 i.toNat).toNat, σ, ?_, h.found (by omega) c2, FM.refl⟩
        rw [f_X5_fewestMoves_54]
        simp (disch := first | assumption | omega) only [if_true, if_false, zid, zlid, if_pos, if_neg, u2_e, u2_c, u2_i, u1_e, u1_i, Option.bind_some, eP, hbp]
      · obtain ⟨σ', g1, g2, g3⟩ := C_reachNeighbours hC hK ha1 hP h (by omega) c2
        obtain ⟨x, σ2, k1, k2, k3⟩ := ih k (i + 1) σ' (hC.frame (by omega) (fun c _ _ => SP.fr g3 (by omega))) (fun n n0 n1 => by rw [g3 752 _ (by unfold SP; omega)]; exact hP n n0 n1) (by rw [g3 745 2 (by unfold SP; omega)]; exact hbp) g2 (by omega) (by omega)
        refine ⟨x, σ2, ?_, k2, g3.trans k3⟩
        rw [f_X5_fewestMoves_54]
        simp (disch := first | assumption | omega) only [if_true, if_false, zid, zlid, if_pos, if_neg, u2_e, u2_c, u2_i, u1_e, u1_i, Option.bind_some, eP, hbp, g1]
        exact k1
theorem C_fewestMoves (hR : RS σ a K w (-1) 0) (hC : RC σ a1 K) (hK : WK K) (hS : WS K w) (ha1 : a1 + 19 ≤ 42) (ha : 173 ≤ a) (ha2 : a + 13 ≤ 743) : ∃ x σ', f_X5_fewestMoves a1 a σ = some (x, σ') ∧ ((m_best K w (m_shs K w)).1 = -1 ∧ x = -1 ∨ (m_best K w (m_shs K w)).1 ≠ -1 ∧ b_Ans (m_pr K w (m_shs K w)) (m_pow K) (m_best K w (m_shs K w)).2 (m_way K w) (m_N K) x) ∧ FM (fun c j => 745 ≤ c ∧ c ≤ 754) σ σ' := by
  have hkn := hK.n
  have hpw := m_pow_in hK
  have hw := m_way_in hK hS
  obtain ⟨σ1, l1, l2, l3, l4, l5, l6⟩ := C_findBest hR hC hK hS ha1 ha ha2
  have hf1 : FM (fun c j => 745 ≤ c ∧ c ≤ 754) σ σ1 := l6.mono (fun c j hc => by unfold SF at hc; omega)
  unfold f_X5_fewestMoves
  rw [l1, Option.bind_some]
  by_cases c1 : (m_best K w (m_shs K w)).1 = -1
  · refine ⟨-1, σ1, ?_, Or.inl ⟨c1, rfl⟩, hf1⟩
    dsimp only
    rw [if_pos c1, if_pos rfl]
  · dsimp only
    rw [if_neg c1, if_neg (show ¬ (1 : Int) = 0 by omega)]
    have h := hoare_loop (F := fun k n (q : Nat → Nat → Int) => f_X5_fewestMoves_13 k a1 a n q) (hi := 1296)
      (fun n q => 0 ≤ n ∧ FR (fun c => c = 753) σ1 q ∧ ∀ m : Int, 0 ≤ m → m < n → q 753 m.toNat = -1)
      (fun r => b_Ans (m_pr K w (m_shs K w)) (m_pow K) (m_best K w (m_shs K w)).2 (m_way K w) (m_N K) r.1 ∧ FM (fun c j => 745 ≤ c ∧ c ≤ 754) σ r.2)
      (fun k n q hn hq => by
        obtain ⟨p0, p1, p2⟩ := hq
        refine ⟨u2 q 753 n.toNat (-1), ?_, by omega, p1.u rfl, fun m m0 m1 => ?_⟩
        · rw [f_X5_fewestMoves_13]
          simp (disch := first | assumption | omega) only [if_true, if_false, zid, zlid, if_pos, if_neg, u2_e, u2_c, u2_i, u1_e, u1_i, Option.bind_some]
        · by_cases c : m = n
          · rw [c, u2_e]
          · rw [u2_i (by omega)]
            exact p2 m m0 (by omega))
      (fun k q hq => by
        obtain ⟨p0, p1, p2⟩ := hq
        have hfq : FM (fun c j => 745 ≤ c ∧ c ≤ 754) σ (u2 q 745 10 0) := (hf1.trans (p1.fm (fun c j hc => by omega))).u (by omega)
        have hfr : ∀ c, ¬ (745 ≤ c ∧ c ≤ 754) → u2 q 745 10 0 c = σ c := fun c hc => funext fun j => hfq c j hc
        have hCq := hC.frame (σ' := u2 q 745 10 0) (by omega) (fun c _ _ => hfr c (by omega))
        have hRq := hR.frame (σ' := u2 q 745 10 0) (fun c _ _ => hfr c (by omega))
        have hno := C_numberOf hRq hCq hK hS
        generalize hs : m_way K w = s at hw hno
        have hreach : f_X5_reach s 0 (u2 q 745 10 0) = some (u2 (u2 (u2 (u2 q 745 10 0) 753 s.toNat 0) 754 0 s) 745 10 1) := by
          have e3 := p2 s hw.1 (by omega)
          unfold f_X5_reach f_X5_reach_26
          simp (disch := first | assumption | omega) only [if_true, if_false, zid, zlid, if_pos, if_neg, u2_e, u2_c, u2_i, u1_e, u1_i, Option.bind_some, e3]
          rfl
        generalize hq2 : u2 (u2 (u2 (u2 q 745 10 0) 753 s.toNat 0) 754 0 s) 745 10 1 = q2 at hreach
        have hf2 : FM (fun c j => 745 ≤ c ∧ c ≤ 754) σ q2 := by
          rw [← hq2]
          exact ((hfq.u (by omega)).u (by omega)).u (by omega)
        have e10 : q2 745 10 = 1 := by rw [← hq2, u2_e]
        have e2 : q2 745 2 = (m_best K w (m_shs K w)).2 := by
          rw [← hq2, u2_i (by omega), u2_c (by omega), u2_c (by omega), u2_i (by omega), p1 745 (by omega)]
          exact l2
        have e753 : q2 753 = u1 (q 753) s.toNat 0 := by
          rw [← hq2, u2_ne (by omega), u2_ne (by omega), u2_row, u2_ne (by omega)]
        have e754 : q2 754 = u1 (q 754) 0 s := by
          rw [← hq2, u2_ne (by omega), u2_row, u2_ne (by omega), u2_ne (by omega)]
        have e752 : ∀ n : Int, 0 ≤ n → n < m_pow K → q2 752 n.toNat = m_pr K w (m_shs K w) n := fun n n0 n1 => by
          rw [← hq2, u2_c (by omega), u2_c (by omega), u2_c (by omega), u2_c (by omega), p1 752 (by omega)]
          exact l4 n n0 n1
        obtain ⟨x, σ2, k1, k2, k3⟩ := C_fm54 (bp := (m_best K w (m_shs K w)).2) (s := s) hK ha1 (m_pow K).toNat 100000 0 q2 (hC.frame (by omega) (fun c _ _ => funext fun j => hf2 c j (by omega))) e752 e2 (by
          rw [e10, e753, e754]
          exact BB.start hpw.1 hw.1 hw.2.1 (fun n hn => by
            have := p2 (n : Int) (by omega) (by omega)
            rw [Int.toNat_natCast] at this
            exact this)) (by omega) (by omega)
        refine ⟨(x, σ2), ?_, k2, hf2.trans (k3.mono (fun c j hc => by unfold SP at hc; omega))⟩
        rw [f_X5_fewestMoves_13, if_pos (by omega), hno, Option.bind_some, hreach, Option.bind_some]
        exact k1) 1296 100000 0 σ1 (by omega) (by omega) ⟨by omega, FR.refl, fun m m0 m1 => by omega⟩
    obtain ⟨⟨x, σ'⟩, h1, h2, h3⟩ := h
    exact ⟨x, σ', h1, Or.inr ⟨c1, h2⟩, h3⟩
end S_MV
