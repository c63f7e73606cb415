-- the class's prices: rows 746 way, 748 shares, 749 low, 750 high, 751 sums
/-- what looking lays: shares, low and high -/
def RPL (σ K : Nat → Nat → Int) (w sh : Nat → Int) : Prop := (∀ t : Int, 0 ≤ t → t < K 0 1 → σ 748 t.toNat = sh t.toNat) ∧ (∀ c : Int, 0 ≤ c → c < K 0 0 → σ 749 c.toNat = m_low w c ∧ σ 750 c.toNat = m_high K w (-1) 0 c)
theorem RPL.fr {σ σ' K : Nat → Nat → Int} {w sh : Nat → Int} (h : RPL σ K w sh) (h1 : σ' 748 = σ 748) (h2 : σ' 749 = σ 749) (h3 : σ' 750 = σ 750) : RPL σ' K w sh := by
  unfold RPL
  rw [h1, h2, h3]
  exact h
/-- shares of the tasks as they are now -/
def m_shs (K : Nat → Nat → Int) (w : Nat → Int) : Nat → Int := fun t => if w (37 + t) = 1 then 0 else m_shr K t
section S_PC
variable {σ K : Nat → Nat → Int} {a a1 : Nat} {w sh pt : Nat → Int} {tr th : Int}
theorem m_shs_e {t : Int} (h0 : 0 ≤ t) : m_shs K w t.toNat = if w (37 + t).toNat = 1 then 0 else m_shr K t := by
  unfold m_shs
  rw [show 37 + t.toNat = (37 + t).toNat from by omega, Int.toNat_of_nonneg h0]
theorem m_shs_in (hK : WK K) : SH0 K (m_shs K w) := fun t h0 h1 => by
  have := m_shr_in hK h0 h1
  rw [m_shs_e h0]
  split <;> omega
theorem C_look (hR : RS σ a K w (-1) 0) (hC : RC σ a1 K) (hK : WK K) (hS : WS K w) (ha1 : a1 + 19 ≤ 42) (ha : 173 ≤ a) (ha2 : a + 13 ≤ 743) : ∃ σ', f_X5_look a1 a σ = some σ' ∧ RPL σ' K w (m_shs K w) ∧ FR (fun c => 748 ≤ c ∧ c ≤ 750) σ σ' := by
  have hkn := hK.n
  have l2 : ∀ τ : Nat → Nat → Int, FR (fun c => 748 ≤ c ∧ c ≤ 750) σ τ → (∀ t : Int, 0 ≤ t → t < K 0 1 → τ 748 t.toNat = m_shs K w t.toNat) → ∃ σ', f_X5_look_41 100000 a1 a 0 τ = some σ' ∧ RPL σ' K w (m_shs K w) ∧ FR (fun c => 748 ≤ c ∧ c ≤ 750) σ σ' := fun τ hf hsh => by
    have h := hoare_loop (F := fun k c (q : Nat → Nat → Int) => f_X5_look_41 k a1 a c q) (hi := K 0 0)
      (fun c q => 0 ≤ c ∧ FR (fun c => 748 ≤ c ∧ c ≤ 750) σ q ∧ q 748 = τ 748 ∧ (∀ d : Int, 0 ≤ d → d < c → q 749 d.toNat = m_low w d ∧ q 750 d.toNat = m_high K w (-1) 0 d))
      (fun q => RPL q K w (m_shs K w) ∧ FR (fun c => 748 ≤ c ∧ c ≤ 750) σ q)
      (fun k c q hc hp => by
        obtain ⟨p0, p1, p2, p3⟩ := hp
        have hkc := hK.c p0 hc
        have hCq := hC.frame (σ' := q) (by omega) (fun c _ _ => p1 c (by omega))
        have hRq := hR.frame (σ' := q) (fun c _ _ => p1 c (by omega))
        have hC2 := hC.frame (σ' := u2 q 749 c.toNat (m_low w c)) (by omega) (fun d _ _ => by rw [u2_ne (by omega)]; exact p1 d (by omega))
        have hR2 := hR.frame (σ' := u2 q 749 c.toNat (m_low w c)) (fun d _ _ => by rw [u2_ne (by omega)]; exact p1 d (by omega))
        refine ⟨u2 (u2 q 749 c.toNat (m_low w c)) 750 c.toNat (m_high K w (-1) 0 c), ?_, by omega, (p1.u (by omega)).u (by omega), ?_, fun d d0 d1 => ?_⟩
        · rw [f_X5_look_41]
          simp (disch := first | assumption | omega) only [if_true, if_false, zid, zlid, if_pos, if_neg, u2_e, u2_c, u2_i, u1_e, u1_i, Option.bind_some, hCq.n0, C_lowOf hRq hS (Int.le_refl 0) (c := c), C_highOf hR2 hC2 hK hS (Int.le_refl 0) p0 hc]
        · rw [u2_ne (by omega), u2_ne (by omega)]
          exact p2
        · by_cases e : d = c
          · subst e
            exact ⟨by rw [u2_c (by omega), u2_e], u2_e⟩
          · rw [u2_c (by omega), u2_i (by omega), u2_i (by omega), u2_c (by omega)]
            exact p3 d d0 (by omega))
      (fun k q hp => by
        obtain ⟨p0, p1, p2, p3⟩ := hp
        have hCq := hC.frame (σ' := q) (by omega) (fun c _ _ => p1 c (by omega))
        refine ⟨q, ?_, ⟨fun t t0 t1 => by rw [p2]; exact hsh t t0 t1, p3⟩, p1⟩
        rw [f_X5_look_41]
        simp (disch := first | assumption | omega) only [if_true, if_false, zid, zlid, if_pos, if_neg, u2_e, u2_c, u2_i, u1_e, u1_i, Option.bind_some, hCq.n0]) (K 0 0).toNat 100000 0 τ (by omega) (by omega) ⟨by omega, hf, rfl, fun d d0 d1 => by omega⟩
    exact h
  unfold f_X5_look
  have h := hoare_loop (F := fun k t (q : Nat → Nat → Int) => f_X5_look_2 k a1 a t q) (hi := K 0 1)
    (fun t q => 0 ≤ t ∧ FR (fun c => 748 ≤ c ∧ c ≤ 750) σ q ∧ (∀ d : Int, 0 ≤ d → d < t → q 748 d.toNat = m_shs K w d.toNat))
    (fun q => RPL q K w (m_shs K w) ∧ FR (fun c => 748 ≤ c ∧ c ≤ 750) σ q)
    (fun k t q ht hp => by
      obtain ⟨p0, p1, p2⟩ := hp
      have hCq := hC.frame (σ' := q) (by omega) (fun c _ _ => p1 c (by omega))
      have hRq := hR.frame (σ' := q) (fun c _ _ => p1 c (by omega))
      have hx := hS.t p0 ht
      refine ⟨u2 q 748 t.toNat (m_shs K w t.toNat), ?_, by omega, p1.u (by omega), fun d d0 d1 => ?_⟩
      · rw [f_X5_look_2, m_shs_e p0]
        by_cases c1 : w (37 + t).toNat = 1
        · simp (disch := first | assumption | omega) only [if_true, if_false, zid, zlid, if_pos, if_neg, u2_e, u2_c, u2_i, u1_e, u1_i, Option.bind_some, hCq.n1, C_isStopped hRq hK hS]
        · simp (disch := first | assumption | omega) only [if_true, if_false, zid, zlid, if_pos, if_neg, u2_e, u2_c, u2_i, u1_e, u1_i, Option.bind_some, hCq.n1, C_isStopped hRq hK hS, C_chipShareOf hCq hK]
      · by_cases e : d = t
        · subst e
          exact u2_e
        · rw [u2_i (by omega)]
          exact p2 d d0 (by omega))
    (fun k q hp => by
      obtain ⟨p0, p1, p2⟩ := hp
      have hCq := hC.frame (σ' := q) (by omega) (fun c _ _ => p1 c (by omega))
      rw [f_X5_look_2]
      simp (disch := first | assumption | omega) only [if_true, if_false, zid, zlid, if_pos, if_neg, u2_e, u2_c, u2_i, u1_e, u1_i, Option.bind_some, hCq.n1]
      exact l2 q p1 p2) (K 0 1).toNat 100000 0 σ (by omega) (by omega) ⟨by omega, FR.refl, fun d d0 d1 => by omega⟩
  exact h
theorem C_addUp (hC : RC σ a1 K) (hK : WK K) (ha1 : a1 + 19 ≤ 42) (h : SH0 K sh) (hsh : ∀ t : Int, 0 ≤ t → t < K 0 1 → σ 748 t.toNat = sh t.toNat) (hpt : ∀ t : Int, 0 ≤ t → t < K 0 1 → σ 746 t.toNat = pt t.toNat) : ∃ σ', f_X5_addUp a1 σ = some σ' ∧ (∀ v : Int, 0 ≤ v → v < K 0 2 → σ' 751 v.toNat = m_sumOn K sh pt v) ∧ FR (fun c => c = 751) σ σ' := by
  have hkn := hK.n
  have l2 : ∀ τ : Nat → Nat → Int, FR (fun c => c = 751) σ τ → (∀ v : Int, 0 ≤ v → v < K 0 2 → τ 751 v.toNat = 0) → ∃ σ', f_X5_addUp_25 100000 a1 0 τ = some σ' ∧ (∀ v : Int, 0 ≤ v → v < K 0 2 → σ' 751 v.toNat = m_sumOn K sh pt v) ∧ FR (fun c => c = 751) σ σ' := fun τ hf hz => by
    have h2 := hoare_loop (F := fun k t (q : Nat → Nat → Int) => f_X5_addUp_25 k a1 t q) (hi := K 0 1)
      (fun t q => 0 ≤ t ∧ FR (fun c => c = 751) σ q ∧ (∀ v : Int, 0 ≤ v → v < K 0 2 → q 751 v.toNat = iter (fun t acc => if pt t.toNat = v then acc + sh t.toNat else acc) t.toNat 0 0 ∧ 0 ≤ q 751 v.toNat ∧ q 751 v.toNat ≤ 999 * t))
      (fun q => (∀ v : Int, 0 ≤ v → v < K 0 2 → q 751 v.toNat = m_sumOn K sh pt v) ∧ FR (fun c => c = 751) σ q)
      (fun k t q ht hp => by
        obtain ⟨p0, p1, p2⟩ := hp
        have hCq := hC.frame (σ' := q) (by omega) (fun c _ _ => p1 c (by omega))
        have e1 : q 746 t.toNat = pt t.toNat := by rw [p1 746 (by omega)]; exact hpt t p0 ht
        have e2 : q 748 t.toNat = sh t.toNat := by rw [p1 748 (by omega)]; exact hsh t p0 ht
        have hx := h t p0 ht
        have esn : ∀ v : Int, iter (fun t acc => if pt t.toNat = v then acc + sh t.toNat else acc) (t + 1).toNat 0 0 = if pt t.toNat = v then iter (fun t acc => if pt t.toNat = v then acc + sh t.toNat else acc) t.toNat 0 0 + sh t.toNat else iter (fun t acc => if pt t.toNat = v then acc + sh t.toNat else acc) t.toNat 0 0 := fun v => by
          rw [show (t + 1).toNat = t.toNat + 1 from by omega, iter_snoc, show (0 : Int) + (t.toNat : Int) = t from by omega]
        by_cases c1 : 0 ≤ pt t.toNat ∧ pt t.toNat < K 0 2
        · have hb := p2 (pt t.toNat) c1.1 c1.2
          refine ⟨u2 q 751 (pt t.toNat).toNat (q 751 (pt t.toNat).toNat + sh t.toNat), ?_, by omega, p1.u rfl, fun v v0 v1 => ?_⟩
          · rw [f_X5_addUp_25]
            simp (disch := first | assumption | omega) only [if_true, if_false, zid, zlid, if_pos, if_neg, u2_e, u2_c, u2_i, u1_e, u1_i, Option.bind_some, hCq.n1, e1, C_hasCore_y hCq, e2]
          · rw [esn]
            by_cases e : pt t.toNat = v
            · rw [if_pos e, e, u2_e]
              rw [e] at hb
              exact ⟨by rw [hb.1], by omega, by omega⟩
            · rw [if_neg e, u2_i (by omega)]
              have := p2 v v0 v1
              exact ⟨this.1, by omega, by omega⟩
        · refine ⟨q, ?_, by omega, p1, fun v v0 v1 => ?_⟩
          · rw [f_X5_addUp_25]
            simp (disch := first | assumption | omega) only [if_true, if_false, zid, zlid, if_pos, if_neg, u2_e, u2_c, u2_i, u1_e, u1_i, Option.bind_some, hCq.n1, e1, C_hasCore_n hCq]
          · have := p2 v v0 v1
            rw [esn, if_neg (by omega)]
            exact ⟨this.1, by omega, by omega⟩)
      (fun k q hp => by
        obtain ⟨p0, p1, p2⟩ := hp
        have hCq := hC.frame (σ' := q) (by omega) (fun c _ _ => p1 c (by omega))
        refine ⟨q, ?_, fun v v0 v1 => (p2 v v0 v1).1, p1⟩
        rw [f_X5_addUp_25]
        simp (disch := first | assumption | omega) only [if_true, if_false, zid, zlid, if_pos, if_neg, u2_e, u2_c, u2_i, u1_e, u1_i, Option.bind_some, hCq.n1]) (K 0 1).toNat 100000 0 τ (by omega) (by omega) ⟨by omega, hf, fun v v0 v1 => by rw [hz v v0 v1]; exact ⟨rfl, by omega, by omega⟩⟩
    exact h2
  unfold f_X5_addUp
  have h3 := hoare_loop (F := fun k v (q : Nat → Nat → Int) => f_X5_addUp_2 k a1 v q) (hi := K 0 2)
    (fun v q => 0 ≤ v ∧ FR (fun c => c = 751) σ q ∧ (∀ u : Int, 0 ≤ u → u < v → q 751 u.toNat = 0))
    (fun q => (∀ v : Int, 0 ≤ v → v < K 0 2 → q 751 v.toNat = m_sumOn K sh pt v) ∧ FR (fun c => c = 751) σ q)
    (fun k v q hv hp => by
      obtain ⟨p0, p1, p2⟩ := hp
      have hCq := hC.frame (σ' := q) (by omega) (fun c _ _ => p1 c (by omega))
      refine ⟨u2 q 751 v.toNat 0, ?_, by omega, p1.u rfl, fun u u0 u1 => ?_⟩
      · rw [f_X5_addUp_2]
        simp (disch := first | assumption | omega) only [if_true, if_false, zid, zlid, if_pos, if_neg, u2_e, u2_c, u2_i, u1_e, u1_i, Option.bind_some, hCq.n2]
      · by_cases e : u = v
        · rw [e, u2_e]
        · rw [u2_i (by omega)]
          exact p2 u u0 (by omega))
    (fun k q hp => by
      obtain ⟨p0, p1, p2⟩ := hp
      have hCq := hC.frame (σ' := q) (by omega) (fun c _ _ => p1 c (by omega))
      rw [f_X5_addUp_2]
      simp (disch := first | assumption | omega) only [if_true, if_false, zid, zlid, if_pos, if_neg, u2_e, u2_c, u2_i, u1_e, u1_i, Option.bind_some, hCq.n2]
      exact l2 q p1 p2) (K 0 2).toNat 100000 0 σ (by omega) (by omega) ⟨by omega, FR.refl, fun u u0 u1 => by omega⟩
  exact h3
theorem C_clusterPrice (hC : RC σ a1 K) (hK : WK K) (hS : WS K w) (h : SH0 K sh) (hL : RPL σ K w sh) (hsm : ∀ v : Int, 0 ≤ v → v < K 0 2 → σ 751 v.toNat = m_sumOn K sh pt v) {c : Int} (h0 : 0 ≤ c) (h1 : c < K 0 0) :
    f_X5_clusterPrice a1 c σ = some (if m_pf K c (m_clu K sh pt c).1 ≤ m_high K w (-1) 0 c then (m_clu K sh pt c).2.2 + (m_clu K sh pt c).2.1 * K 6 (5 * c + m_bounded K w (-1) 0 c (m_pf K c (m_clu K sh pt c).1)).toNat else -1) := by
  have hkn := hK.n
  have hkc := hK.c h0 h1
  have hf := hK.first h0 h1
  have hq := m_clu_in2 (pt := pt) hK h h0 h1
  have hprt := m_part_in (pt := pt) hK hS h h0 h1
  have hlo := (hL.2 c h0 h1).1
  have hhi := (hL.2 c h0 h1).2
  have eg : m_clu K sh pt c = iter (fun v s => if K 7 v.toNat = c then m_cluS K sh pt c v s else s) (K 0 2).toNat 0 (0, 0, 0) := by
    unfold m_clu
    rw [iter_guard (X := m_cluS K sh pt c) (m_first K c) (K 1 c.toNat).toNat (K 0 2).toNat hf.1 (by omega) (fun v acc h2 h3 => if_pos ((hK.of h0 h1 (by omega) (by omega)).mpr ⟨h2, by omega⟩)) (fun v acc h2 h3 h4 => if_neg (fun e => by
      have := (hK.of h0 h1 h2 (by omega)).mp e
      omega))]
  unfold f_X5_clusterPrice
  rw [eg] at hprt hq ⊢
  have hl := sim_loop (F := fun k v (q : Int × Int × Int) => f_X5_clusterPrice_11 k a1 c q.1 q.2.1 q.2.2 v σ) (X := fun v s => if K 7 v.toNat = c then m_cluS K sh pt c v s else s) (hi := K 0 2)
    (fun v q s => 0 ≤ v ∧ q.1 = s.1 ∧ q.2.1 = s.2.1 ∧ q.2.2 * K 2 c.toNat = s.2.2 ∧ 0 ≤ s.1 ∧ 0 ≤ s.2.1 ∧ s.2.1 ≤ 3996 * v ∧ 0 ≤ q.2.2 ∧ q.2.2 ≤ v)
    (fun s r => 0 ≤ s.2.2 → s.2.2 ≤ 297 → (0 ≤ s.2.1 * K 6 (5 * c + m_bounded K w (-1) 0 c (m_pf K c s.1)).toNat ∧ s.2.1 * K 6 (5 * c + m_bounded K w (-1) 0 c (m_pf K c s.1)).toNat ≤ 1186812) → r = some (if m_pf K c s.1 ≤ m_high K w (-1) 0 c then s.2.2 + s.2.1 * K 6 (5 * c + m_bounded K w (-1) 0 c (m_pf K c s.1)).toNat else -1))
    (fun k v q s hv hp => by
      obtain ⟨q1, q2, q3⟩ := q
      obtain ⟨s1, s2, s3⟩ := s
      obtain ⟨p0, p1, p2, p3, p4, p5, p6, p7, p8⟩ := hp
      dsimp only at p1 p2 p3 p4 p5 p6 p7 p8
      subst p1 p2 p3
      have hx := m_sumOn_in (pt := pt) hK h (v := v)
      have ex := hsm v p0 hv
      by_cases c1 : K 7 v.toNat = c
      · refine ⟨(max q1 (m_sumOn K sh pt v), q2 + m_sumOn K sh pt v, q3 + (if 0 < m_sumOn K sh pt v then 1 else 0)), ?_, by omega, by rw [if_pos c1]; rfl, by rw [if_pos c1]; rfl, ?_, ?_⟩
        · show f_X5_clusterPrice_11 (k + 1) a1 c q1 q2 q3 v σ = _
          rw [f_X5_clusterPrice_11]
          by_cases c2 : 0 < m_sumOn K sh pt v <;> simp (disch := first | assumption | omega) only [if_true, if_false, zid, zlid, if_pos, if_neg, u2_e, u2_c, u2_i, u1_e, u1_i, Option.bind_some, hC.n2, hC.v14, ex]
        · rw [if_pos c1]
          unfold m_cluS
          dsimp only
          by_cases c2 : 0 < m_sumOn K sh pt v
          · rw [if_pos c2, if_pos c2, Int.add_mul, Int.one_mul]
          · rw [if_neg c2, if_neg c2, Int.add_zero, Int.add_zero]
        · rw [if_pos c1]
          unfold m_cluS
          dsimp only
          refine ⟨by omega, by omega, by omega, ?_, ?_⟩ <;> split <;> omega
      · refine ⟨(q1, q2, q3), ?_, by omega, by rw [if_neg c1], by rw [if_neg c1], by rw [if_neg c1], by rw [if_neg c1]; exact p4, by rw [if_neg c1]; exact p5, by rw [if_neg c1]; dsimp only; omega, p7, by dsimp only; omega⟩
        show f_X5_clusterPrice_11 (k + 1) a1 c q1 q2 q3 v σ = _
        rw [f_X5_clusterPrice_11]
        simp (disch := first | assumption | omega) only [if_true, if_false, zid, zlid, if_pos, if_neg, u2_e, u2_c, u2_i, u1_e, u1_i, Option.bind_some, hC.n2, hC.v14])
    (fun k q s hp r0 r1 r2 => by
      obtain ⟨q1, q2, q3⟩ := q
      obtain ⟨s1, s2, s3⟩ := s
      obtain ⟨p0, p1, p2, p3, p4, p5, p6, p7, p8⟩ := hp
      dsimp only at p1 p2 p3 p4 p5 p6 p7 p8 r0 r1 r2 ⊢
      subst p1 p2
      have hpf := m_pf_in hK h0 h1 (need := q1)
      have hhl := m_high_in (tr := -1) (th := 0) hS (c := c) (by omega) (by omega)
      have hb := m_bounded_in (tr := -1) (th := 0) (p := m_pf K c q1) hS (c := c) (by omega) (by omega)
      have eb : min (max (m_pf K c q1) (m_low w c)) (m_high K w (-1) 0 c) = m_bounded K w (-1) 0 c (m_pf K c q1) := rfl
      show f_X5_clusterPrice_11 (k + 1) a1 c q1 q2 q3 (K 0 2) σ = _
      rw [f_X5_clusterPrice_11]
      by_cases c1 : m_pf K c q1 ≤ m_high K w (-1) 0 c
      · simp (disch := first | assumption | omega) only [if_true, if_false, zid, zlid, if_pos, if_neg, u2_e, u2_c, u2_i, u1_e, u1_i, Option.bind_some, hC.n2, C_firstPointFor hC hK, hlo, hhi, eb, C_hasPoint_y hC, hC.p11, f_X5_clusterPrice_153, hC.c3, p3]
        rw [Int.add_comm]
      · by_cases c2 : m_pf K c q1 = K 4 c.toNat
        · simp (disch := first | assumption | omega) only [if_true, if_false, zid, zlid, if_pos, if_neg, u2_e, u2_c, u2_i, u1_e, u1_i, Option.bind_some, hC.n2, C_firstPointFor hC hK]
        · simp (disch := first | assumption | omega) only [if_true, if_false, zid, zlid, if_pos, if_neg, u2_e, u2_c, u2_i, u1_e, u1_i, Option.bind_some, hC.n2, C_firstPointFor hC hK, hhi]) (K 0 2).toNat 100000 0 (0, 0, 0) (0, 0, 0) (by omega) (by omega) ⟨by omega, rfl, rfl, by simp, Int.le_refl _, Int.le_refl _, by dsimp only; omega, Int.le_refl _, by dsimp only; omega⟩
  exact hl hq.2.2.2.1 hq.2.2.2.2 hprt
theorem C_priceOf (hC : RC σ a1 K) (hK : WK K) (hS : WS K w) (ha1 : a1 + 19 ≤ 42) (h : SH0 K sh) (hL : RPL σ K w sh) (hpt : ∀ t : Int, 0 ≤ t → t < K 0 1 → σ 746 t.toNat = pt t.toNat) : ∃ σ', f_X5_priceOf a1 σ = some (m_price K w sh pt, σ') ∧ FR (fun c => c = 751) σ σ' := by
  have hkn := hK.n
  obtain ⟨σ1, g1, g2, g3⟩ := C_addUp hC hK ha1 h hL.1 hpt
  have hC1 := hC.frame (σ' := σ1) (by omega) (fun c _ _ => g3 c (by omega))
  have hL1 := hL.fr (g3 748 (by omega)) (g3 749 (by omega)) (g3 750 (by omega))
  have st : ∀ (n k : Nat) (c x : Int), 0 ≤ c → c + n = K 0 0 → n < k → 0 ≤ x → x ≤ 1187109 * c → f_X5_priceOf_9 k a1 x c σ1 = some (m_priceL K w sh pt n c x, σ1) := by
    intro n
    induction n with
    | zero =>
      intro k c x h0 h1 hk x0 x1
      obtain ⟨k, rfl⟩ : ∃ j, k = j + 1 := ⟨k - 1, by omega⟩
      rw [f_X5_priceOf_9]
      unfold m_priceL
      simp (disch := first | assumption | omega) only [if_true, if_false, zid, zlid, if_pos, if_neg, u2_e, u2_c, u2_i, u1_e, u1_i, Option.bind_some, hC1.n0]
    | succ n ih =>
      intro k c x h0 h1 hk x0 x1
      obtain ⟨k, rfl⟩ : ∃ j, k = j + 1 := ⟨k - 1, by omega⟩
      have hm := m_clu_in2 (pt := pt) hK h h0 (by omega)
      have hprt := m_part_in (pt := pt) hK hS h h0 (by omega)
      rw [f_X5_priceOf_9]
      unfold m_priceL
      by_cases c1 : m_pf K c (m_clu K sh pt c).1 ≤ m_high K w (-1) 0 c
      · simp (disch := first | assumption | omega) only [if_true, if_false, zid, zlid, if_pos, if_neg, u2_e, u2_c, u2_i, u1_e, u1_i, Option.bind_some, hC1.n0, C_clusterPrice hC1 hK hS h hL1 g2]
        rw [← Int.add_assoc]
        exact ih k (c + 1) _ (by omega) (by omega) (by omega) (by omega) (by omega)
      · simp (disch := first | assumption | omega) only [if_true, if_false, zid, zlid, if_pos, if_neg, u2_e, u2_c, u2_i, u1_e, u1_i, Option.bind_some, hC1.n0, C_clusterPrice hC1 hK hS h hL1 g2]
  refine ⟨σ1, ?_, g3⟩
  unfold f_X5_priceOf m_price
  rw [g1]
  exact st (K 0 0).toNat 100000 0 0 (by omega) (by omega) (by omega) (by omega) (by omega)
end S_PC
