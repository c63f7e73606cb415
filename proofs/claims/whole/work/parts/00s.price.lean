-- what a way costs, on both sides
def m_shr (K : Nat → Nat → Int) (t : Int) : Int := Int.tdiv (K 8 t.toNat + K 9 t.toNat - 1) (K 9 t.toNat)
def m_sumOn (K : Nat → Nat → Int) (sh pt : Nat → Int) (v : Int) : Int := iter (fun t acc => if pt t.toNat = v then acc + sh t.toNat else acc) (K 0 1).toNat 0 0
/-- of a cluster: the greatest sum on a core, the sum, what its cores in use cost -/
def m_cluS (K : Nat → Nat → Int) (sh pt : Nat → Int) (c v : Int) (s : Int × Int × Int) : Int × Int × Int := (max s.1 (m_sumOn K sh pt v), s.2.1 + m_sumOn K sh pt v, s.2.2 + (if 0 < m_sumOn K sh pt v then K 2 c.toNat else 0))
def m_clu (K : Nat → Nat → Int) (sh pt : Nat → Int) (c : Int) : Int × Int × Int := iter (m_cluS K sh pt c) (K 1 c.toNat).toNat (m_first K c) (0, 0, 0)
def m_priceL (K : Nat → Nat → Int) (w : Nat → Int) (sh pt : Nat → Int) : Nat → Int → Int → Int
  | 0, _, x => x
  | n + 1, c, x => if m_pf K c (m_clu K sh pt c).1 ≤ m_high K w (-1) 0 c then m_priceL K w sh pt n (c + 1) (x + (m_clu K sh pt c).2.2 + (m_clu K sh pt c).2.1 * K 6 (5 * c + m_bounded K w (-1) 0 c (m_pf K c (m_clu K sh pt c).1)).toNat) else -1
def m_price (K : Nat → Nat → Int) (w : Nat → Int) (sh pt : Nat → Int) : Int := m_priceL K w sh pt (K 0 0).toNat 0 0
/-- shares of a row of tasks: small, none below 0 -/
def SH0 (K : Nat → Nat → Int) (sh : Nat → Int) : Prop := ∀ t : Int, 0 ≤ t → t < K 0 1 → 0 ≤ sh t.toNat ∧ sh t.toNat ≤ 999
section S_PR
variable {σ K : Nat → Nat → Int} {a a1 b : Nat} {w sh pt : Nat → Int} {tr th : Int}
theorem m_shr_in (hK : WK K) {t : Int} (h0 : 0 ≤ t) (h1 : t < K 0 1) : 1 ≤ m_shr K t ∧ m_shr K t ≤ 999 := by
  have hk := hK.t h0 h1
  unfold m_shr
  rw [Int.tdiv_eq_ediv_of_nonneg (by omega)]
  refine ⟨Int.le_ediv_of_mul_le (by omega) (by omega), ?_⟩
  have : (K 8 t.toNat + K 9 t.toNat - 1) / K 9 t.toNat ≤ K 8 t.toNat := Int.ediv_le_of_le_mul (by omega) (by
    have h2 : 0 ≤ (K 8 t.toNat - 1) * (K 9 t.toNat - 1) := Int.mul_nonneg (by omega) (by omega)
    have h3 : (K 8 t.toNat - 1) * (K 9 t.toNat - 1) = K 8 t.toNat * K 9 t.toNat - K 8 t.toNat - K 9 t.toNat + 1 := by
      rw [Int.sub_mul, Int.mul_sub]
      omega
    omega)
  omega
theorem R_up (hK : WK K) {t : Int} (h0 : 0 ≤ t) (h1 : t < K 0 1) : f_X12_up (K 8 t.toNat) (K 9 t.toNat) σ = some (m_shr K t) := by
  have hk := hK.t h0 h1
  have hs := m_shr_in hK h0 h1
  unfold m_shr at hs ⊢
  unfold f_X12_up
  simp (disch := first | assumption | omega) only [if_true, if_false, zid, zlid, if_pos, if_neg, u2_e, u2_c, u2_i, u1_e, u1_i, Option.bind_some]
theorem C_chipShareOf (hC : RC σ a1 K) (hK : WK K) {t : Int} (h0 : 0 ≤ t) (h1 : t < K 0 1) : f_X1_shareOf a1 t σ = some (m_shr K t) := by
  have hkn := hK.n
  have hk := hK.t h0 h1
  have hs := m_shr_in hK h0 h1
  unfold m_shr at hs ⊢
  unfold f_X1_shareOf f_X11_roundedUp
  simp (disch := first | assumption | omega) only [if_true, if_false, zid, zlid, if_pos, if_neg, u2_e, u2_c, u2_i, u1_e, u1_i, Option.bind_some, C_hasTask_y hC, hC.t16, hC.t17]
theorem m_sumOn_in (hK : WK K) (h : SH0 K sh) {v : Int} : 0 ≤ m_sumOn K sh pt v ∧ m_sumOn K sh pt v ≤ 3996 := by
  have hkn := hK.n
  have := iter_inv (X := fun t acc => if pt t.toNat = v then acc + sh t.toNat else acc) (hi := K 0 1) (fun t acc => 0 ≤ t ∧ 0 ≤ acc ∧ acc ≤ 999 * t) (fun t acc ht hp => by
    have hx := h t hp.1 ht
    refine ⟨by omega, ?_⟩
    split <;> omega) (K 0 1).toNat 0 0 (by omega) ⟨by omega, by omega, by omega⟩
  unfold m_sumOn
  omega
theorem m_clu_in (hK : WK K) (h : SH0 K sh) {c : Int} (h0 : 0 ≤ c) (h1 : c < K 0 0) : ∀ (n : Nat) (v : Int) (s : Int × Int × Int), 0 ≤ s.1 → 0 ≤ s.2.1 → 0 ≤ s.2.2 → 0 ≤ (iter (m_cluS K sh pt c) n v s).1 ∧ 0 ≤ (iter (m_cluS K sh pt c) n v s).2.1 ∧ (iter (m_cluS K sh pt c) n v s).2.1 ≤ s.2.1 + 3996 * n ∧ 0 ≤ (iter (m_cluS K sh pt c) n v s).2.2 ∧ (iter (m_cluS K sh pt c) n v s).2.2 ≤ s.2.2 + 99 * n := by
  have hkc := hK.c h0 h1
  intro n
  induction n with
  | zero =>
    intro v s a b d
    exact ⟨a, b, by show s.2.1 ≤ _; omega, d, by show s.2.2 ≤ _; omega⟩
  | succ n ih =>
    intro v s a b d
    have hs := m_sumOn_in (pt := pt) hK h (v := v)
    have := ih (v + 1) (m_cluS K sh pt c v s) (by unfold m_cluS; dsimp only; omega) (by unfold m_cluS; dsimp only; omega) (by unfold m_cluS; dsimp only; split <;> omega)
    show 0 ≤ (iter (m_cluS K sh pt c) n (v + 1) (m_cluS K sh pt c v s)).1 ∧ _
    refine ⟨this.1, this.2.1, Int.le_trans this.2.2.1 ?_, this.2.2.2.1, Int.le_trans this.2.2.2.2 ?_⟩
    · unfold m_cluS
      dsimp only
      omega
    · unfold m_cluS
      dsimp only
      split <;> omega
theorem m_clu_in2 (hK : WK K) (h : SH0 K sh) {c : Int} (h0 : 0 ≤ c) (h1 : c < K 0 0) : 0 ≤ (m_clu K sh pt c).1 ∧ 0 ≤ (m_clu K sh pt c).2.1 ∧ (m_clu K sh pt c).2.1 ≤ 11988 ∧ 0 ≤ (m_clu K sh pt c).2.2 ∧ (m_clu K sh pt c).2.2 ≤ 297 := by
  have hkc := hK.c h0 h1
  have := m_clu_in (pt := pt) hK h h0 h1 (K 1 c.toNat).toNat (m_first K c) (0, 0, 0) (Int.le_refl _) (Int.le_refl _) (Int.le_refl _)
  dsimp only at this
  unfold m_clu
  omega
theorem m_part_in (hK : WK K) (hS : WS K w) (h : SH0 K sh) {c : Int} (h0 : 0 ≤ c) (h1 : c < K 0 0) : 0 ≤ (m_clu K sh pt c).2.1 * K 6 (5 * c + m_bounded K w (-1) 0 c (m_pf K c (m_clu K sh pt c).1)).toNat ∧ (m_clu K sh pt c).2.1 * K 6 (5 * c + m_bounded K w (-1) 0 c (m_pf K c (m_clu K sh pt c).1)).toNat ≤ 1186812 := by
  have hkc := hK.c h0 h1
  have hb := m_bounded_in (tr := -1) (th := 0) (p := m_pf K c (m_clu K sh pt c).1) hS (c := c) (by omega) (by omega)
  have hp := hK.p h0 h1 hb.1 hb.2
  have hm := m_clu_in2 (pt := pt) hK h h0 h1
  refine ⟨Int.mul_nonneg hm.2.1 (by omega), ?_⟩
  have := Int.mul_le_mul hm.2.2.1 hp.2.2.2 (by omega) (by omega)
  omega
theorem m_priceL_in (hK : WK K) (hS : WS K w) (h : SH0 K sh) : ∀ (n : Nat) (c x : Int), 0 ≤ c → c + n ≤ K 0 0 → 0 ≤ x → m_priceL K w sh pt n c x = -1 ∨ (0 ≤ m_priceL K w sh pt n c x ∧ m_priceL K w sh pt n c x ≤ x + 1187109 * n) := by
  intro n
  induction n with
  | zero => intro c x _ _ hx; unfold m_priceL; exact Or.inr ⟨hx, by omega⟩
  | succ n ih =>
    intro c x h0 h1 hx
    have hm := m_clu_in2 (pt := pt) hK h h0 (by omega)
    have hp := m_part_in (pt := pt) hK hS h h0 (by omega)
    unfold m_priceL
    split
    · rcases ih (c + 1) _ (by omega) (by omega) (by omega : 0 ≤ x + (m_clu K sh pt c).2.2 + (m_clu K sh pt c).2.1 * K 6 (5 * c + m_bounded K w (-1) 0 c (m_pf K c (m_clu K sh pt c).1)).toNat) with q | q
      · exact Or.inl q
      · exact Or.inr ⟨q.1, by omega⟩
    · exact Or.inl rfl
theorem m_price_in (hK : WK K) (hS : WS K w) (h : SH0 K sh) : m_price K w sh pt = -1 ∨ (0 ≤ m_price K w sh pt ∧ m_price K w sh pt ≤ 3561327) := by
  have hkn := hK.n
  rcases m_priceL_in (pt := pt) hK hS h (K 0 0).toNat 0 0 (by omega) (by omega) (by omega) with q | q
  · exact Or.inl q
  · refine Or.inr ⟨q.1, ?_⟩
    have := q.2
    unfold m_price
    omega
-- the reference: rows 781 shares, 782 who idles, 783 where they are put
/-- shares laid: sh in the row 781, 782 says whose is 0 -/
def RSH (σ K : Nat → Nat → Int) (sh : Nat → Int) : Prop := ∀ t : Int, 0 ≤ t → t < K 0 1 → σ 781 t.toNat = sh t.toNat ∧ ((σ 782 t.toNat = 0 ∧ 1 ≤ sh t.toNat) ∨ (σ 782 t.toNat = 1 ∧ sh t.toNat = 0)) ∧ sh t.toNat ≤ 999
theorem RSH.s0 (h : RSH σ K sh) : SH0 K sh := fun t h0 h1 => by
  have := h t h0 h1
  omega
theorem R_pp53 {K4 : Nat → Int → Int → (Nat → Nat → Int) → Option Int} {K25 : Nat → Int → Int → Int → Int → Int → (Nat → Nat → Int) → Option Int} (hM : RM σ K) (hK : WK K) (hs : RSH σ K sh) (hp : ∀ t : Int, 0 ≤ t → t < K 0 1 → σ 783 t.toNat = pt t.toNat) {x c m s v : Int} (h0 : 0 ≤ c) (h1 : c < K 0 0) (hx0 : 0 ≤ x) (hx1 : x ≤ 10000000) (hs0 : 0 ≤ s) (hs1 : s ≤ 1000000) (hv0 : 0 ≤ v) (hv1 : v ≤ 10) :
    f_X12_pricePut_53 K4 K25 100000 b x c m s v 0 0 0 σ = K25 b (x + (if 0 < m_sumOn K sh pt v then K 2 c.toNat else 0)) c (max m (m_sumOn K sh pt v)) (s + m_sumOn K sh pt v) (v + 1) σ := by
  have hkn := hK.n
  have hkc := hK.c h0 h1
  have hsm := m_sumOn_in (pt := pt) hK hs.s0 (v := v)
  have h := sim_loop (F := fun k t (q : Int × Int) => f_X12_pricePut_53 K4 K25 k b x c m s v q.1 q.2 t σ) (X := fun t acc => if pt t.toNat = v then acc + sh t.toNat else acc) (hi := K 0 1)
    (fun t q acc => 0 ≤ t ∧ q.1 = acc ∧ 0 ≤ acc ∧ acc ≤ 999 * t ∧ q.2 = if 0 < acc then 1 else 0)
    (fun acc r => 0 ≤ acc → acc ≤ 3996 → r = K25 b (x + (if 0 < acc then K 2 c.toNat else 0)) c (max m acc) (s + acc) (v + 1) σ)
    (fun k t q acc ht hq => by
      obtain ⟨q1, q2⟩ := q
      obtain ⟨p0, p1, p2, p3, p4⟩ := hq
      dsimp only at p1 p4
      subst p1
      have e1 := hs t p0 ht
      have e2 := hp t p0 ht
      by_cases c1 : pt t.toNat = v
      · refine ⟨(q1 + sh t.toNat, if 0 < q1 + sh t.toNat then 1 else 0), ?_, by omega, by rw [if_pos c1], by rw [if_pos c1]; omega, by rw [if_pos c1]; omega, by rw [if_pos c1]⟩
        show f_X12_pricePut_53 K4 K25 (k + 1) b x c m s v q1 q2 t σ = _
        rw [f_X12_pricePut_53]
        by_cases c2 : 0 < q1
        · have e3 : 0 < q1 + sh t.toNat := by omega
          rw [if_pos c2] at p4
          subst p4
          simp (disch := first | assumption | omega) only [if_true, if_false, zid, zlid, if_pos, if_neg, u2_e, u2_c, u2_i, u1_e, u1_i, Option.bind_some, hM.n1, e1.1, e2]
        · rw [if_neg c2] at p4
          subst p4
          rcases e1.2.1 with e4 | e4
          · simp (disch := first | assumption | omega) only [if_true, if_false, zid, zlid, if_pos, if_neg, u2_e, u2_c, u2_i, u1_e, u1_i, Option.bind_some, hM.n1, e1.1, e2, e4.1]
          · simp (disch := first | assumption | omega) only [if_true, if_false, zid, zlid, if_pos, if_neg, u2_e, u2_c, u2_i, u1_e, u1_i, Option.bind_some, hM.n1, e1.1, e2, e4.1]
      · refine ⟨(q1, q2), ?_, by omega, by rw [if_neg c1], by rw [if_neg c1]; exact p2, by rw [if_neg c1]; omega, by rw [if_neg c1]; exact p4⟩
        show f_X12_pricePut_53 K4 K25 (k + 1) b x c m s v q1 q2 t σ = _
        rw [f_X12_pricePut_53]
        simp (disch := first | assumption | omega) only [if_true, if_false, zid, zlid, if_pos, if_neg, u2_e, u2_c, u2_i, u1_e, u1_i, Option.bind_some, hM.n1, e2])
    (fun k q acc hq r0 r1 => by
      obtain ⟨q1, q2⟩ := q
      obtain ⟨p0, p1, p2, p3, p4⟩ := hq
      dsimp only at p1 p4
      subst p1
      show f_X12_pricePut_53 K4 K25 (k + 1) b x c m s v q1 q2 (K 0 1) σ = _
      rw [f_X12_pricePut_53]
      have em : (if q1 ≤ m then m else q1) = max m q1 := by split <;> omega
      by_cases c2 : 0 < q1
      · rw [if_pos c2] at p4 ⊢
        subst p4
        simp (disch := first | assumption | omega) only [if_true, if_false, zid, zlid, if_pos, if_neg, u2_e, u2_c, u2_i, u1_e, u1_i, Option.bind_some, hM.n1, f_X12_pricePut_131, em, hM.c1]
      · rw [if_neg c2] at p4 ⊢
        subst p4
        simp (disch := first | assumption | omega) only [if_true, if_false, zid, zlid, if_pos, if_neg, u2_e, u2_c, u2_i, u1_e, u1_i, Option.bind_some, hM.n1, f_X12_pricePut_131, em, Int.add_zero]) (K 0 1).toNat 100000 0 (0, 0) 0 (by omega) (by omega) ⟨by omega, rfl, by omega, by omega, rfl⟩
  exact h hsm.1 hsm.2
theorem R_pp25 {K4 : Nat → Int → Int → (Nat → Nat → Int) → Option Int} (hM : RM σ K) (hK : WK K) (hS : WS K (σ b)) (h38 : σ 758 38 = -1) (hs : RSH σ K sh) (hp : ∀ t : Int, 0 ≤ t → t < K 0 1 → σ 783 t.toNat = pt t.toNat) {x c : Int} (h0 : 0 ≤ c) (h1 : c < K 0 0) (hx0 : 0 ≤ x) (hx1 : x ≤ 5000000) :
    f_X12_pricePut_25 K4 100000 b x c 0 0 (m_first K c) σ = if m_pf K c (m_clu K sh pt c).1 ≤ m_high K (σ b) (-1) 0 c then K4 b (x + (m_clu K sh pt c).2.2 + (m_clu K sh pt c).2.1 * K 6 (5 * c + m_bounded K (σ b) (-1) 0 c (m_pf K c (m_clu K sh pt c).1)).toNat) (c + 1) σ else some (-1) := by
  have hkn := hK.n
  have hkc := hK.c h0 h1
  have hf := hK.first h0 h1
  have hq := m_clu_in2 (pt := pt) hK hs.s0 h0 h1
  have hprt := m_part_in (pt := pt) hK hS hs.s0 h0 h1
  have ehi : ∀ t3, m_high K (σ b) (-1) t3 c = m_high K (σ b) (-1) 0 c := fun t3 => by
    unfold m_high
    rw [if_neg (by omega), if_neg (by omega)]
  have h := sim_loop (F := fun k v (q : Int × Int × Int) => f_X12_pricePut_25 K4 k b (x + q.2.2) c q.1 q.2.1 v σ) (X := m_cluS K sh pt c) (hi := m_first K c + K 1 c.toNat)
    (fun v q s => q = s ∧ m_first K c ≤ v ∧ 0 ≤ s.1 ∧ 0 ≤ s.2.1 ∧ s.2.1 ≤ 3996 * (v - m_first K c) ∧ 0 ≤ s.2.2 ∧ s.2.2 ≤ 99 * (v - m_first K c))
    (fun s r => s = m_clu K sh pt c → r = if m_pf K c s.1 ≤ m_high K (σ b) (-1) 0 c then K4 b (x + s.2.2 + s.2.1 * K 6 (5 * c + m_bounded K (σ b) (-1) 0 c (m_pf K c s.1)).toNat) (c + 1) σ else some (-1))
    (fun k v q s hv hq => by
      obtain ⟨rfl, p0, p1, p2, p3, p4, p5⟩ := hq
      have hsm := m_sumOn_in (pt := pt) hK hs.s0 (v := v)
      refine ⟨m_cluS K sh pt c v q, ?_, rfl, by omega, ?_⟩
      · show f_X12_pricePut_25 K4 (k + 1) b (x + q.2.2) c q.1 q.2.1 v σ = _
        rw [f_X12_pricePut_25]
        simp (disch := first | assumption | omega) only [if_true, if_false, zid, zlid, if_pos, if_neg, u2_e, u2_c, u2_i, u1_e, u1_i, Option.bind_some, R_firstCore hM hK, hM.c0]
        rw [R_pp53 hM hK hs hp h0 h1 (by omega) (by omega) (by omega) (by omega) (by omega) (by omega)]
        unfold m_cluS
        dsimp only
        rw [Int.add_assoc]
      · unfold m_cluS
        dsimp only
        refine ⟨by omega, by omega, by omega, ?_, ?_⟩ <;> split <;> omega)
    (fun k q s hq he => by
      obtain ⟨rfl, p0, p1, p2, p3, p4, p5⟩ := hq
      rw [← he] at hprt
      have hpf := m_pf_in hK h0 h1 (need := q.1)
      have hb := m_bounded_in (tr := -1) (th := 0) (p := m_pf K c q.1) hS (c := c) (by omega) (by omega)
      show f_X12_pricePut_25 K4 (k + 1) b (x + q.2.2) c q.1 q.2.1 (m_first K c + K 1 c.toNat) σ = _
      have ebd : ∀ t3, m_bounded K (σ b) (-1) t3 c (m_pf K c q.1) = m_bounded K (σ b) (-1) 0 c (m_pf K c q.1) := fun t3 => by
        unfold m_bounded
        rw [ehi]
      rw [f_X12_pricePut_25]
      by_cases c1 : m_pf K c q.1 ≤ m_high K (σ b) (-1) 0 c
      · simp (disch := first | assumption | omega) only [if_true, if_false, zid, zlid, if_pos, if_neg, u2_e, u2_c, u2_i, u1_e, u1_i, Option.bind_some, R_firstCore hM hK, hM.c0, R_pointFor hM hK, R_highOf hM hK hS h38 rfl, ehi, R_bounded hM hK hS h38 rfl, ebd, R_cost hM]
      · simp (disch := first | assumption | omega) only [if_true, if_false, zid, zlid, if_pos, if_neg, u2_e, u2_c, u2_i, u1_e, u1_i, Option.bind_some, R_firstCore hM hK, hM.c0, R_pointFor hM hK, R_highOf hM hK hS h38 rfl, ehi]) (K 1 c.toNat).toNat 100000 (m_first K c) (0, 0, 0) (0, 0, 0) (by omega) (by omega) ⟨rfl, Int.le_refl _, Int.le_refl _, Int.le_refl _, by dsimp only; omega, Int.le_refl _, by dsimp only; omega⟩
  have h2 := h rfl
  dsimp only at h2
  rw [Int.add_zero] at h2
  exact h2
theorem R_pricePut (hM : RM σ K) (hK : WK K) (hS : WS K (σ b)) (h38 : σ 758 38 = -1) (hs : RSH σ K sh) (hp : ∀ t : Int, 0 ≤ t → t < K 0 1 → σ 783 t.toNat = pt t.toNat) : f_X12_pricePut b σ = some (m_price K (σ b) sh pt) := by
  have hkn := hK.n
  have st : ∀ (n k : Nat) (c x : Int), 0 ≤ c → c + n = K 0 0 → n < k → 0 ≤ x → x ≤ 1187109 * c → f_X12_pricePut_4 k b x c σ = some (m_priceL K (σ b) sh pt n c x) := by
    intro n
    induction n with
    | zero =>
      intro k c x h0 h1 hk x0 x1
      obtain ⟨k, rfl⟩ : ∃ j, k = j + 1 := ⟨k - 1, by omega⟩
      rw [f_X12_pricePut_4]
      unfold m_priceL
      simp (disch := first | assumption | omega) only [if_true, if_false, zid, zlid, if_pos, if_neg, u2_e, u2_c, u2_i, u1_e, u1_i, Option.bind_some, hM.n0]
    | succ n ih =>
      intro k c x h0 h1 hk x0 x1
      obtain ⟨k, rfl⟩ : ∃ j, k = j + 1 := ⟨k - 1, by omega⟩
      have hm := m_clu_in2 (pt := pt) hK hs.s0 h0 (by omega)
      have hprt := m_part_in (pt := pt) hK hS hs.s0 h0 (by omega)
      rw [f_X12_pricePut_4]
      unfold m_priceL
      simp (disch := first | assumption | omega) only [if_true, if_false, zid, zlid, if_pos, if_neg, u2_e, u2_c, u2_i, u1_e, u1_i, Option.bind_some, hM.n0, R_firstCore hM hK]
      rw [R_pp25 hM hK hS h38 hs hp h0 (by omega) x0 (by omega)]
      split
      · exact ih k (c + 1) _ (by omega) (by omega) (by omega) (by omega) (by omega)
      · rfl
  unfold f_X12_pricePut m_price
  exact st (K 0 0).toNat 100000 0 0 (by omega) (by omega) (by omega) (by omega) (by omega)
end S_PR
