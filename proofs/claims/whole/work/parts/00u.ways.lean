-- ways as numbers; the best of them, on both sides
def m_core (K : Nat → Nat → Int) (n t : Int) : Int := n / K 0 2 ^ (K 0 1 - 1 - t).toNat % K 0 2
def m_ptw (K : Nat → Nat → Int) (n : Int) : Nat → Int := fun t => m_core K n (t : Int)
def m_pr (K : Nat → Nat → Int) (w sh : Nat → Int) (n : Int) : Int := m_price K w sh (m_ptw K n)
def m_bestS (K : Nat → Nat → Int) (w sh : Nat → Int) (n : Int) (s : Int × Int) : Int × Int := if m_pr K w sh n = -1 then s else if s.1 = -1 ∨ m_pr K w sh n < s.2 then (n, m_pr K w sh n) else s
def m_pow (K : Nat → Nat → Int) : Int := K 0 2 ^ (K 0 1).toNat
def m_best (K : Nat → Nat → Int) (w sh : Nat → Int) : Int × Int := iter (m_bestS K w sh) (m_pow K).toNat 0 (-1, -1)
def m_way (K : Nat → Nat → Int) (w : Nat → Int) : Int := iter (fun t acc => acc * K 0 2 + w (21 + t).toNat) (K 0 1).toNat 0 0
section S_W
variable {σ K : Nat → Nat → Int} {a a1 b : Nat} {w sh pt : Nat → Int} {tr th : Int}
theorem m_price_c {pt' : Nat → Int} (h : ∀ t : Int, 0 ≤ t → t < K 0 1 → pt' t.toNat = pt t.toNat) : m_price K w sh pt' = m_price K w sh pt := by
  have e1 : ∀ v, m_sumOn K sh pt' v = m_sumOn K sh pt v := fun v => by
    unfold m_sumOn
    by_cases hn : 0 ≤ K 0 1
    · have : ∀ (n : Nat) (t x : Int), 0 ≤ t → t + n ≤ K 0 1 → iter (fun t acc => if pt' t.toNat = v then acc + sh t.toNat else acc) n t x = iter (fun t acc => if pt t.toNat = v then acc + sh t.toNat else acc) n t x := by
        intro n
        induction n with
        | zero => intro t x _ _; rfl
        | succ n ih =>
          intro t x t0 t1
          show iter _ n (t + 1) (if pt' t.toNat = v then x + sh t.toNat else x) = iter _ n (t + 1) (if pt t.toNat = v then x + sh t.toNat else x)
          rw [h t t0 (by omega)]
          exact ih (t + 1) _ (by omega) (by omega)
      exact this _ 0 0 (by omega) (by omega)
    · rw [show (K 0 1).toNat = 0 from by omega]
      rfl
  have e2 : m_cluS K sh pt' = m_cluS K sh pt := by
    funext c v s
    unfold m_cluS
    rw [e1]
  have e3 : ∀ c, m_clu K sh pt' c = m_clu K sh pt c := fun c => by
    unfold m_clu
    rw [e2]
  have e4 : ∀ (n : Nat) (c x : Int), m_priceL K w sh pt' n c x = m_priceL K w sh pt n c x := by
    intro n
    induction n with
    | zero => intro c x; rfl
    | succ n ih =>
      intro c x
      unfold m_priceL
      rw [e3, ih]
  exact e4 _ _ _
theorem pow_in (hK : WK K) : ∀ n : Nat, n ≤ 4 → 1 ≤ K 0 2 ^ n ∧ K 0 2 ^ n ≤ 6 ^ n := by
  have hkn := hK.n
  intro n
  induction n with
  | zero => intro _; simp
  | succ n ih =>
    intro hn
    have := ih (by omega)
    rw [Int.pow_succ, Int.pow_succ]
    refine ⟨?_, Int.mul_le_mul this.2 (by omega) (by omega) (by omega)⟩
    have h2 : 1 * 1 ≤ K 0 2 ^ n * K 0 2 := Int.mul_le_mul this.1 (by omega) (by omega) (by omega)
    omega
theorem pow_lt (hK : WK K) {n : Nat} (hn : n ≤ 4) : 1 ≤ K 0 2 ^ n ∧ K 0 2 ^ n ≤ 1296 := by
  have h := pow_in hK n hn
  have : (6 : Int) ^ n ≤ 1296 := by
    have : n = 0 ∨ n = 1 ∨ n = 2 ∨ n = 3 ∨ n = 4 := by omega
    rcases this with rfl | rfl | rfl | rfl | rfl <;> decide
  omega
theorem m_pow_in (hK : WK K) : 1 ≤ m_pow K ∧ m_pow K ≤ 1296 := pow_lt hK (by have := hK.n; omega)
theorem R_power (hM : RM σ K) (hK : WK K) {n : Int} (h0 : 0 ≤ n) (h1 : n ≤ 4) : f_X12_power n σ = some (K 0 2 ^ n.toNat) := by
  have hkn := hK.n
  have h := sim_loop (F := fun k v (q : Int) => f_X12_power_4 k n q v σ) (X := fun _ x => x * K 0 2) (hi := n) (fun v q s => 0 ≤ v ∧ q = s ∧ q = K 0 2 ^ v.toNat) (fun s r => r = some s)
    (fun k v q s hv hp => by
      obtain ⟨p0, rfl, p1⟩ := hp
      have hb := pow_lt hK (n := v.toNat) (by omega)
      have hb2 := pow_lt hK (n := v.toNat + 1) (by omega)
      have e : K 0 2 ^ (v + 1).toNat = K 0 2 ^ v.toNat * K 0 2 := by rw [show (v + 1).toNat = v.toNat + 1 from by omega, Int.pow_succ]
      rw [Int.pow_succ] at hb2
      refine ⟨q * K 0 2, ?_, by omega, rfl, by rw [e, p1]⟩
      rw [f_X12_power_4]
      rw [← p1] at hb2
      simp (disch := first | assumption | omega) only [if_true, if_false, zid, zlid, if_pos, if_neg, u2_e, u2_c, u2_i, u1_e, u1_i, Option.bind_some, hM.n2])
    (fun k q s hp => by
      obtain ⟨p0, rfl, p1⟩ := hp
      rw [f_X12_power_4]
      simp (disch := first | assumption | omega) only [if_true, if_false, zid, zlid, if_pos, if_neg, u2_e, u2_c, u2_i, u1_e, u1_i, Option.bind_some]) n.toNat 100000 0 1 1 (by omega) (by omega) ⟨by omega, rfl, by simp⟩
  unfold f_X12_power
  rw [h]
  have : ∀ m : Nat, iter (fun (_ : Int) (x : Int) => x * K 0 2) m 0 1 = K 0 2 ^ m := by
    intro m
    induction m with
    | zero => simp [iter]
    | succ m ih => rw [iter_snoc, ih, Int.pow_succ]
  rw [this]
theorem m_core_in (hK : WK K) {n t : Int} : 0 ≤ m_core K n t ∧ m_core K n t < K 0 2 := by
  have hkn := hK.n
  exact ⟨Int.emod_nonneg _ (by omega), Int.emod_lt_of_pos _ (by omega)⟩
theorem div_in {x y m : Int} (h0 : 0 ≤ x) (h1 : x ≤ m) (hy : 1 ≤ y) : 0 ≤ x / y ∧ x / y ≤ m := by
  refine ⟨Int.ediv_nonneg h0 (by omega), Int.ediv_le_of_le_mul (by omega) ?_⟩
  have : m * 1 ≤ m * y := Int.mul_le_mul_of_nonneg_left hy (by omega)
  omega
theorem R_coreIn (hM : RM σ K) (hK : WK K) {n t : Int} (h0 : 0 ≤ t) (h1 : t < K 0 1) (n0 : 0 ≤ n) (n1 : n ≤ 1296) : f_X12_coreIn n t σ = some (m_core K n t) := by
  have hkn := hK.n
  have hb := pow_lt hK (n := (K 0 1 - 1 - t).toNat) (by omega)
  have hd := div_in n0 n1 hb.1
  have hc := m_core_in hK (n := n) (t := t)
  unfold f_X12_coreIn
  have e1 : Int.tdiv n (K 0 2 ^ (K 0 1 - 1 - t).toNat) = n / K 0 2 ^ (K 0 1 - 1 - t).toNat := Int.tdiv_eq_ediv_of_nonneg n0
  have e2 : Int.tmod (n / K 0 2 ^ (K 0 1 - 1 - t).toNat) (K 0 2) = m_core K n t := Int.tmod_eq_emod_of_nonneg hd.1
  simp (disch := first | assumption | omega) only [if_true, if_false, zid, zlid, if_pos, if_neg, u2_e, u2_c, u2_i, u1_e, u1_i, Option.bind_some, hM.n1, hM.n2, R_power hM hK, e1, e2]
theorem R_shareOf (hM : RM σ K) (hK : WK K) (hS : WS K (σ b)) {t : Int} (h0 : 0 ≤ t) (h1 : t < K 0 1) : f_X12_shareOf b t σ = some (m_shs K (σ b) t.toNat) := by
  have hkn := hK.n
  have hx := hS.t h0 h1
  unfold f_X12_shareOf
  rw [m_shs_e h0]
  by_cases c : σ b (37 + t).toNat = 1 <;> simp (disch := first | assumption | omega) only [if_true, if_false, zid, zlid, if_pos, if_neg, u2_e, u2_c, u2_i, u1_e, u1_i, Option.bind_some, hM.t0, hM.t1, R_up hK]
theorem R_laysShares (hM : RM σ K) (hK : WK K) (hS : WS K (σ b)) (hb : 776 ≤ b) (hb2 : b < 780) : ∃ σ', f_X12_laysShares b σ = some σ' ∧ RSH σ' K (m_shs K (σ b)) ∧ FM (fun c _ => c = 781 ∨ c = 782) σ σ' := by
  have hkn := hK.n
  unfold f_X12_laysShares
  have h := hoare_loop (F := fun k t (q : Nat → Nat → Int) => f_X12_laysShares_2 k b t q) (hi := K 0 1)
    (fun t q => 0 ≤ t ∧ FM (fun c _ => c = 781 ∨ c = 782) σ q ∧ (∀ d : Int, 0 ≤ d → d < t → q 781 d.toNat = m_shs K (σ b) d.toNat ∧ q 782 d.toNat = if σ b (37 + d).toNat = 1 then 1 else 0))
    (fun q => RSH q K (m_shs K (σ b)) ∧ FM (fun c _ => c = 781 ∨ c = 782) σ q)
    (fun k t q ht hp => by
      obtain ⟨p0, p1, p2⟩ := hp
      have hMq := hM.fm p1 (fun c j hj => by omega)
      have ew : q b = σ b := funext fun j => p1 b j (by omega)
      have hSq : WS K (q b) := by rw [ew]; exact hS
      refine ⟨u2 (u2 q 781 t.toNat (m_shs K (σ b) t.toNat)) 782 t.toNat (if σ b (37 + t).toNat = 1 then 1 else 0), ?_, by omega, (p1.u (by omega)).u (by omega), fun d d0 d1 => ?_⟩
      · have hsr := R_shareOf hMq hK hSq p0 ht
        rw [ew] at hsr
        rw [f_X12_laysShares_2]
        by_cases c : σ b (37 + t).toNat = 1 <;> simp (disch := first | assumption | omega) only [if_true, if_false, zid, zlid, if_pos, if_neg, u2_e, u2_c, u2_i, u1_e, u1_i, Option.bind_some, hMq.n1, hsr, ew]
      · by_cases e : d = t
        · rw [e]
          exact ⟨by rw [u2_c (by omega), u2_e], u2_e⟩
        · rw [u2_c (by omega), u2_i (by omega), u2_i (by omega), u2_c (by omega)]
          exact p2 d d0 (by omega))
    (fun k q hp => by
      obtain ⟨p0, p1, p2⟩ := hp
      have hMq := hM.fm p1 (fun c j hj => by omega)
      refine ⟨q, ?_, fun t t0 t1 => ?_, p1⟩
      · rw [f_X12_laysShares_2]
        simp (disch := first | assumption | omega) only [if_true, if_false, zid, zlid, if_pos, if_neg, u2_e, u2_c, u2_i, u1_e, u1_i, Option.bind_some, hMq.n1]
      · have h3 := p2 t t0 t1
        have h4 := m_shr_in hK t0 t1
        rw [h3.1, h3.2, m_shs_e t0]
        by_cases c : σ b (37 + t).toNat = 1
        · rw [if_pos c, if_pos c]
          exact ⟨rfl, Or.inr ⟨rfl, rfl⟩, by omega⟩
        · rw [if_neg c, if_neg c]
          exact ⟨rfl, Or.inl ⟨rfl, h4.1⟩, h4.2⟩) (K 0 1).toNat 100000 0 σ (by omega) (by omega) ⟨by omega, FM.refl, fun d d0 d1 => by omega⟩
  exact h
theorem R_priceOf (hM : RM σ K) (hK : WK K) (hS : WS K (σ b)) (hb : 776 ≤ b) (hb2 : b < 780) (h38 : σ 758 38 = -1) (hs : RSH σ K sh) {n : Int} (n0 : 0 ≤ n) (n1 : n ≤ 1296) : ∃ σ', f_X12_priceOf b n σ = some (m_pr K (σ b) sh n, σ') ∧ FM (fun c _ => c = 783) σ σ' ∧ (∀ t : Int, 0 ≤ t → t < K 0 1 → σ' 783 t.toNat = m_core K n t) := by
  have hkn := hK.n
  unfold f_X12_priceOf
  have h := hoare_loop (F := fun k t (q : Nat → Nat → Int) => f_X12_priceOf_2 k b n t q) (hi := K 0 1)
    (fun t q => 0 ≤ t ∧ FM (fun c _ => c = 783) σ q ∧ (∀ d : Int, 0 ≤ d → d < t → q 783 d.toNat = m_core K n d))
    (fun r => r.1 = m_pr K (σ b) sh n ∧ FM (fun c _ => c = 783) σ r.2 ∧ (∀ t : Int, 0 ≤ t → t < K 0 1 → r.2 783 t.toNat = m_core K n t))
    (fun k t q ht hp => by
      obtain ⟨p0, p1, p2⟩ := hp
      have hMq := hM.fm p1 (fun c j hj => by omega)
      refine ⟨u2 q 783 t.toNat (m_core K n t), ?_, by omega, p1.u rfl, fun d d0 d1 => ?_⟩
      · rw [f_X12_priceOf_2]
        simp (disch := first | assumption | omega) only [if_true, if_false, zid, zlid, if_pos, if_neg, u2_e, u2_c, u2_i, u1_e, u1_i, Option.bind_some, hMq.n1, R_coreIn hMq hK]
      · by_cases e : d = t
        · rw [e, u2_e]
        · rw [u2_i (by omega)]
          exact p2 d d0 (by omega))
    (fun k q hp => by
      obtain ⟨p0, p1, p2⟩ := hp
      have hMq := hM.fm p1 (fun c j hj => by omega)
      have ew : q b = σ b := funext fun j => p1 b j (by omega)
      have hSq : WS K (q b) := by rw [ew]; exact hS
      have hsq : RSH q K sh := fun t t0 t1 => by
        rw [p1 781 t.toNat (by omega), p1 782 t.toNat (by omega)]
        exact hs t t0 t1
      have hpp := R_pricePut hMq hK hSq (by rw [p1 758 38 (by omega)]; exact h38) hsq (pt := m_ptw K n) (fun t t0 t1 => by
        rw [p2 t t0 t1]
        unfold m_ptw
        rw [Int.toNat_of_nonneg t0])
      rw [ew] at hpp
      refine ⟨(m_pr K (σ b) sh n, q), ?_, rfl, p1, p2⟩
      rw [f_X12_priceOf_2]
      simp (disch := first | assumption | omega) only [if_true, if_false, zid, zlid, if_pos, if_neg, u2_e, u2_c, u2_i, u1_e, u1_i, Option.bind_some, hMq.n1, hpp]
      rfl) (K 0 1).toNat 100000 0 σ (by omega) (by omega) ⟨by omega, FM.refl, fun d d0 d1 => by omega⟩
  obtain ⟨⟨r1, r2⟩, h1, h2, h3, h4⟩ := h
  dsimp only at h2 h3 h4
  subst h2
  exact ⟨r2, h1, h3, h4⟩
theorem m_pr_in (hK : WK K) (hS : WS K w) (h : SH0 K sh) {n : Int} : m_pr K w sh n = -1 ∨ (0 ≤ m_pr K w sh n ∧ m_pr K w sh n ≤ 3561327) := m_price_in hK hS h
theorem m_best_in (hK : WK K) (hS : WS K w) (h : SH0 K sh) : ∀ (n : Nat), (iter (m_bestS K w sh) n 0 (-1, -1)).1 = -1 ∧ (iter (m_bestS K w sh) n 0 (-1, -1)).2 = -1 ∧ (∀ i : Int, 0 ≤ i → i < n → m_pr K w sh i = -1) ∨ (0 ≤ (iter (m_bestS K w sh) n 0 (-1, -1)).1 ∧ (iter (m_bestS K w sh) n 0 (-1, -1)).1 < n ∧ (iter (m_bestS K w sh) n 0 (-1, -1)).2 = m_pr K w sh (iter (m_bestS K w sh) n 0 (-1, -1)).1 ∧ 0 ≤ (iter (m_bestS K w sh) n 0 (-1, -1)).2 ∧ (∀ i : Int, 0 ≤ i → i < n → m_pr K w sh i = -1 ∨ (iter (m_bestS K w sh) n 0 (-1, -1)).2 ≤ m_pr K w sh i)) := by
  intro n
  induction n with
  | zero => exact Or.inl ⟨rfl, rfl, fun i _ _ => by omega⟩
  | succ n ih =>
    rw [iter_snoc, show (0 : Int) + (n : Int) = (n : Int) from by omega]
    generalize iter (m_bestS K w sh) n 0 (-1, -1) = s at ih
    have hp := m_pr_in hK hS h (n := (n : Int))
    unfold m_bestS
    by_cases c1 : m_pr K w sh (n : Int) = -1
    · rw [if_pos c1]
      rcases ih with q | q
      · refine Or.inl ⟨q.1, q.2.1, fun i i0 i1 => ?_⟩
        by_cases e : i = (n : Int)
        · rw [e]
          exact c1
        · exact q.2.2 i i0 (by omega)
      · refine Or.inr ⟨q.1, by omega, q.2.2.1, q.2.2.2.1, fun i i0 i1 => ?_⟩
        by_cases e : i = (n : Int)
        · rw [e]
          exact Or.inl c1
        · exact q.2.2.2.2 i i0 (by omega)
    · rw [if_neg c1]
      by_cases c2 : s.1 = -1 ∨ m_pr K w sh (n : Int) < s.2
      · rw [if_pos c2]
        refine Or.inr ⟨by dsimp only; omega, by dsimp only; omega, rfl, by dsimp only; omega, fun i i0 i1 => ?_⟩
        dsimp only
        by_cases e : i = (n : Int)
        · rw [e]
          exact Or.inr (Int.le_refl _)
        · rcases ih with q | q
          · exact Or.inl (q.2.2 i i0 (by omega))
          · rcases q.2.2.2.2 i i0 (by omega) with r | r
            · exact Or.inl r
            · exact Or.inr (by omega)
      · rw [if_neg c2]
        rcases ih with q | q
        · exact absurd (Or.inl q.1) c2
        · refine Or.inr ⟨q.1, by omega, q.2.2.1, q.2.2.2.1, fun i i0 i1 => ?_⟩
          by_cases e : i = (n : Int)
          · rw [e]
            exact Or.inr (by omega)
          · exact q.2.2.2.2 i i0 (by omega)
theorem R_bestWay (hM : RM σ K) (hK : WK K) (hS : WS K (σ b)) (hb : 776 ≤ b) (hb2 : b < 780) (h38 : σ 758 38 = -1) (hs : RSH σ K sh) : ∃ σ', f_X12_bestWay b σ = some ((m_best K (σ b) sh).1, σ') ∧ ((m_best K (σ b) sh).1 ≠ -1 → σ' 758 47 = (m_best K (σ b) sh).2) ∧ FM (fun c j => c = 783 ∨ (c = 758 ∧ j = 47)) σ σ' := by
  have hkn := hK.n
  have hpw := m_pow_in hK
  have h := sim_loop (F := fun k n (q : Int × (Nat → Nat → Int)) => f_X12_bestWay_4 k b q.1 n q.2) (X := m_bestS K (σ b) sh) (hi := m_pow K)
    (fun n q s => 0 ≤ n ∧ q.1 = s.1 ∧ (s.1 ≠ -1 → q.2 758 47 = s.2) ∧ FM (fun c j => c = 783 ∨ (c = 758 ∧ j = 47)) σ q.2)
    (fun s r => ∃ σ', r = some (s.1, σ') ∧ (s.1 ≠ -1 → σ' 758 47 = s.2) ∧ FM (fun c j => c = 783 ∨ (c = 758 ∧ j = 47)) σ σ')
    (fun k n q s hn hp => by
      obtain ⟨q1, q2⟩ := q
      obtain ⟨s1, s2⟩ := s
      obtain ⟨p0, p1, p2, p3⟩ := hp
      dsimp only at p1 p2 p3
      subst p1
      have hMq := hM.fm p3 (fun c j hj => by omega)
      have ew : q2 b = σ b := funext fun j => p3 b j (by omega)
      have hSq : WS K (q2 b) := by rw [ew]; exact hS
      have hsq : RSH q2 K sh := fun t t0 t1 => by
        rw [p3 781 t.toNat (by omega), p3 782 t.toNat (by omega)]
        exact hs t t0 t1
      obtain ⟨σ', g1, g2, g3⟩ := R_priceOf hMq hK hSq hb hb2 (by rw [p3 758 38 (by omega)]; exact h38) hsq p0 (n := n) (by omega)
      rw [ew] at g1
      have epw := R_power hMq hK (n := K 0 1) (by omega) (by omega)
      have epw2 : K 0 2 ^ (K 0 1).toNat = m_pow K := rfl
      rw [epw2] at epw
      have hf : FM (fun c j => c = 783 ∨ (c = 758 ∧ j = 47)) σ σ' := p3.trans (g2.mono (fun c j hc => Or.inl hc))
      have e47 := g2 758 47 (by omega)
      by_cases c1 : m_pr K (σ b) sh n = -1
      · have em : m_bestS K (σ b) sh n (q1, s2) = (q1, s2) := if_pos c1
        refine ⟨(q1, σ'), ?_, by omega, by rw [em], by rw [em]; dsimp only; rw [e47]; exact p2, hf⟩
        show f_X12_bestWay_4 (k + 1) b q1 n q2 = _
        rw [f_X12_bestWay_4]
        simp (disch := first | assumption | omega) only [if_true, if_false, zid, zlid, if_pos, if_neg, u2_e, u2_c, u2_i, u1_e, u1_i, Option.bind_some, hMq.n1, epw, g1]
      · by_cases c2 : q1 = -1
        · have em : m_bestS K (σ b) sh n (q1, s2) = (n, m_pr K (σ b) sh n) := (if_neg c1).trans (if_pos (Or.inl c2))
          refine ⟨(n, u2 σ' 758 47 (m_pr K (σ b) sh n)), ?_, by omega, by rw [em], by rw [em]; intro _; dsimp only; exact u2_e, hf.u (by omega)⟩
          show f_X12_bestWay_4 (k + 1) b q1 n q2 = _
          rw [f_X12_bestWay_4]
          simp (disch := first | assumption | omega) only [if_true, if_false, zid, zlid, if_pos, if_neg, u2_e, u2_c, u2_i, u1_e, u1_i, Option.bind_some, hMq.n1, epw, g1]
        · have e2 := p2 c2
          by_cases c3 : m_pr K (σ b) sh n < s2
          · have em : m_bestS K (σ b) sh n (q1, s2) = (n, m_pr K (σ b) sh n) := (if_neg c1).trans (if_pos (Or.inr c3))
            refine ⟨(n, u2 σ' 758 47 (m_pr K (σ b) sh n)), ?_, by omega, by rw [em], by rw [em]; intro _; dsimp only; exact u2_e, hf.u (by omega)⟩
            show f_X12_bestWay_4 (k + 1) b q1 n q2 = _
            rw [f_X12_bestWay_4]
            simp (disch := first | assumption | omega) only [if_true, if_false, zid, zlid, if_pos, if_neg, u2_e, u2_c, u2_i, u1_e, u1_i, Option.bind_some, hMq.n1, epw, g1, e47, e2]
          · have em : m_bestS K (σ b) sh n (q1, s2) = (q1, s2) := (if_neg c1).trans (if_neg (by dsimp only; omega))
            refine ⟨(q1, σ'), ?_, by omega, by rw [em], by rw [em]; dsimp only; rw [e47]; exact p2, hf⟩
            show f_X12_bestWay_4 (k + 1) b q1 n q2 = _
            rw [f_X12_bestWay_4]
            simp (disch := first | assumption | omega) only [if_true, if_false, zid, zlid, if_pos, if_neg, u2_e, u2_c, u2_i, u1_e, u1_i, Option.bind_some, hMq.n1, epw, g1, e47, e2])
    (fun k q s hp => by
      obtain ⟨q1, q2⟩ := q
      obtain ⟨s1, s2⟩ := s
      obtain ⟨p0, p1, p2, p3⟩ := hp
      dsimp only at p1 p2 p3
      subst p1
      have hMq := hM.fm p3 (fun c j hj => by omega)
      have epw := R_power hMq hK (n := K 0 1) (by omega) (by omega)
      have epw2 : K 0 2 ^ (K 0 1).toNat = m_pow K := rfl
      rw [epw2] at epw
      refine ⟨q2, ?_, p2, p3⟩
      show f_X12_bestWay_4 (k + 1) b q1 (m_pow K) q2 = _
      rw [f_X12_bestWay_4]
      simp (disch := first | assumption | omega) only [if_true, if_false, zid, zlid, if_pos, if_neg, u2_e, u2_c, u2_i, u1_e, u1_i, Option.bind_some, hMq.n1, epw]) (m_pow K).toNat 100000 0 (-1, σ) (-1, -1) (by omega) (by omega) ⟨by omega, rfl, fun h => absurd rfl h, FM.refl⟩
  exact h
end S_W
