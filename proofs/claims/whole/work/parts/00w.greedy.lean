-- digits of ways; one by one
section S_G
variable {σ K : Nat → Nat → Int} {a a1 b : Nat} {w sh pt : Nat → Int} {tr th : Int}
theorem dig_A {C : Int} (hC : 1 ≤ C) : ∀ (T : Nat) (f : Int → Int), (∀ t : Int, 0 ≤ t → t < T → 0 ≤ f t ∧ f t < C) → 0 ≤ iter (fun t acc => acc * C + f t) T 0 0 ∧ iter (fun t acc => acc * C + f t) T 0 0 < C ^ T ∧ ∀ t : Nat, t < T → iter (fun t acc => acc * C + f t) T 0 0 / C ^ (T - 1 - t) % C = f t := by
  intro T
  induction T with
  | zero =>
    intro f _
    refine ⟨Int.le_refl _, by show (0 : Int) < C ^ 0; simp, fun t ht => by omega⟩
  | succ T ih =>
    intro f hf
    obtain ⟨a1, a2, a3⟩ := ih f (fun t t0 t1 => hf t t0 (by omega))
    rw [iter_snoc, show (0 : Int) + (T : Int) = (T : Int) from by omega]
    generalize iter (fun t acc => acc * C + f t) T 0 0 = x at a1 a2 a3 ⊢
    have hT := hf (T : Int) (by omega) (by omega)
    have hm : 0 ≤ x * C := Int.mul_nonneg a1 (by omega)
    have hd : (x * C + f (T : Int)) / C = x := by
      rw [Int.add_comm, Int.add_mul_ediv_right _ _ (by omega), Int.ediv_eq_zero_of_lt hT.1 hT.2]
      omega
    have hr : (x * C + f (T : Int)) % C = f (T : Int) := by
      rw [Int.add_comm, Int.add_mul_emod_self_right, Int.emod_eq_of_lt hT.1 hT.2]
    refine ⟨by omega, ?_, fun t ht => ?_⟩
    · rw [Int.pow_succ]
      have : (x + 1) * C ≤ C ^ T * C := Int.mul_le_mul_of_nonneg_right (by omega) (by omega)
      rw [Int.add_mul, Int.one_mul] at this
      omega
    · by_cases e : t = T
      · subst e
        rw [show t + 1 - 1 - t = 0 from by omega, Int.pow_zero, Int.ediv_one, hr]
      · rw [show T + 1 - 1 - t = (T - 1 - t) + 1 from by omega, Int.pow_succ, Int.mul_comm (C ^ (T - 1 - t)) C, ← Int.ediv_ediv_of_nonneg (by omega), hd]
        exact a3 t (by omega)
theorem dig_B {C : Int} (hC : 1 ≤ C) : ∀ (T : Nat) (n : Int) (f : Int → Int), 0 ≤ n → n < C ^ T → (∀ t : Nat, t < T → f t = n / C ^ (T - 1 - t) % C) → iter (fun t acc => acc * C + f t) T 0 0 = n := by
  intro T
  induction T with
  | zero =>
    intro n f h0 h1 _
    rw [Int.pow_zero] at h1
    show (0 : Int) = n
    omega
  | succ T ih =>
    intro n f h0 h1 hf
    rw [iter_snoc, show (0 : Int) + (T : Int) = (T : Int) from by omega]
    have h2 : iter (fun t acc => acc * C + f t) T 0 0 = n / C := by
      refine ih (n / C) f (Int.ediv_nonneg h0 (by omega)) ?_ (fun t ht => ?_)
      · rw [Int.pow_succ] at h1
        exact Int.ediv_lt_of_lt_mul (by omega) h1
      · rw [hf t (by omega), show T + 1 - 1 - t = (T - 1 - t) + 1 from by omega, Int.pow_succ, Int.mul_comm (C ^ (T - 1 - t)) C, ← Int.ediv_ediv_of_nonneg (by omega)]
    rw [h2, hf T (by omega), show T + 1 - 1 - T = 0 from by omega, Int.pow_zero, Int.ediv_one]
    have := Int.mul_ediv_add_emod n C
    rw [Int.mul_comm] at this
    exact this
theorem m_way_in (hK : WK K) (hS : WS K w) : 0 ≤ m_way K w ∧ m_way K w < m_pow K ∧ ∀ t : Int, 0 ≤ t → t < K 0 1 → m_core K (m_way K w) t = w (21 + t).toNat := by
  have hkn := hK.n
  obtain ⟨h1, h2, h3⟩ := dig_A (C := K 0 2) (by omega) (K 0 1).toNat (fun t => w (21 + t).toNat) (fun t t0 t1 => by
    have := hS.t t0 (by omega)
    omega)
  refine ⟨h1, h2, fun t t0 t1 => ?_⟩
  have := h3 t.toNat (by omega)
  unfold m_core m_way
  rw [show (K 0 1 - 1 - t).toNat = (K 0 1).toNat - 1 - t.toNat from by omega, this, Int.toNat_of_nonneg t0]
theorem m_way_of (hK : WK K) {n : Int} (n0 : 0 ≤ n) (n1 : n < m_pow K) (h : ∀ t : Int, 0 ≤ t → t < K 0 1 → w (21 + t).toNat = m_core K n t) : m_way K w = n := by
  have hkn := hK.n
  unfold m_way
  refine dig_B (C := K 0 2) (by omega) (K 0 1).toNat n (fun t => w (21 + t).toNat) n0 n1 (fun t ht => ?_)
  rw [h (t : Int) (by omega) (by omega)]
  unfold m_core
  rw [show (K 0 1 - 1 - (t : Int)).toNat = (K 0 1).toNat - 1 - t from by omega]
theorem way_bd (hK : WK K) (hS : WS K w) {t : Int} {x : Int} (h0 : 0 ≤ t) (h1 : t < K 0 1) (hx0 : 0 ≤ x) (hx1 : x < K 0 2 ^ t.toNat) : 0 ≤ x * K 0 2 ∧ x * K 0 2 + w (21 + t).toNat < K 0 2 ^ (t + 1).toNat ∧ K 0 2 ^ (t + 1).toNat ≤ 1296 := by
  have hkn := hK.n
  have hw := hS.t h0 h1
  have hb := pow_lt hK (n := (t + 1).toNat) (by omega)
  have e : K 0 2 ^ (t + 1).toNat = K 0 2 ^ t.toNat * K 0 2 := by rw [show (t + 1).toNat = t.toNat + 1 from by omega, Int.pow_succ]
  have h3 : (x + 1) * K 0 2 ≤ K 0 2 ^ t.toNat * K 0 2 := Int.mul_le_mul_of_nonneg_right (by omega) (by omega)
  rw [Int.add_mul, Int.one_mul] at h3
  exact ⟨Int.mul_nonneg hx0 (by omega), by omega, hb.2⟩
theorem R_wayOf (hM : RM σ K) (hK : WK K) (hS : WS K (σ b)) : f_X12_wayOf b σ = some (m_way K (σ b)) := by
  have hkn := hK.n
  have h := sim_loop (F := fun k t (q : Int) => f_X12_wayOf_4 k b q t σ) (X := fun t acc => acc * K 0 2 + σ b (21 + t).toNat) (hi := K 0 1) (fun t q s => q = s ∧ 0 ≤ t ∧ 0 ≤ s ∧ s < K 0 2 ^ t.toNat) (fun s r => r = some s)
    (fun k t q s ht hp => by
      obtain ⟨rfl, p0, p1, p2⟩ := hp
      have hx := hS.t p0 ht
      have hb := way_bd hK hS p0 ht p1 p2
      refine ⟨q * K 0 2 + σ b (21 + t).toNat, ?_, rfl, by omega, by omega, hb.2.1⟩
      rw [f_X12_wayOf_4]
      simp (disch := first | assumption | omega) only [if_true, if_false, zid, zlid, if_pos, if_neg, u2_e, u2_c, u2_i, u1_e, u1_i, Option.bind_some, hM.n1, hM.n2])
    (fun k q s hp => by
      obtain ⟨rfl, p0, p1, p2⟩ := hp
      rw [f_X12_wayOf_4]
      simp (disch := first | assumption | omega) only [if_true, if_false, zid, zlid, if_pos, if_neg, u2_e, u2_c, u2_i, u1_e, u1_i, Option.bind_some, hM.n1]) (K 0 1).toNat 100000 0 0 0 (by omega) (by omega) ⟨rfl, by omega, by omega, by simp⟩
  unfold f_X12_wayOf m_way
  exact h
theorem C_numberOf (hR : RS σ a K w tr th) (hC : RC σ a1 K) (hK : WK K) (hS : WS K w) : f_X5_numberOf a1 (a + 1) σ = some (m_way K w) := by
  have hkn := hK.n
  have h := sim_loop (F := fun k t (q : Int) => f_X5_numberOf_5 k a1 (a + 1) q t σ) (X := fun t acc => acc * K 0 2 + w (21 + t).toNat) (hi := K 0 1) (fun t q s => q = s ∧ 0 ≤ t ∧ 0 ≤ s ∧ s < K 0 2 ^ t.toNat) (fun s r => r = some s)
    (fun k t q s ht hp => by
      obtain ⟨rfl, p0, p1, p2⟩ := hp
      have hx := hS.t p0 ht
      have hb := way_bd hK hS p0 ht p1 p2
      refine ⟨q * K 0 2 + w (21 + t).toNat, ?_, rfl, by omega, by omega, hb.2.1⟩
      rw [f_X5_numberOf_5]
      simp (disch := first | assumption | omega) only [if_true, if_false, zid, zlid, if_pos, if_neg, u2_e, u2_c, u2_i, u1_e, u1_i, Option.bind_some, hC.n1, hC.n2, hR.t1])
    (fun k q s hp => by
      obtain ⟨rfl, p0, p1, p2⟩ := hp
      rw [f_X5_numberOf_5]
      simp (disch := first | assumption | omega) only [if_true, if_false, zid, zlid, if_pos, if_neg, u2_e, u2_c, u2_i, u1_e, u1_i, Option.bind_some, hC.n1]) (K 0 1).toNat 100000 0 0 0 (by omega) (by omega) ⟨rfl, by omega, by omega, by simp⟩
  unfold f_X5_numberOf m_way
  exact h
theorem C_priceAsItIs (hR : RS σ a K w (-1) 0) (hC : RC σ a1 K) (hK : WK K) (hS : WS K w) (ha1 : a1 + 19 ≤ 42) (ha : 173 ≤ a) (ha2 : a + 13 ≤ 743) : ∃ σ', f_X5_priceAsItIs a1 a σ = some (m_pr K w (m_shs K w) (m_way K w), σ') ∧ FM SF σ σ' := by
  have hkn := hK.n
  obtain ⟨σ1, l1, l2, l3⟩ := C_look hR hC hK hS ha1 ha ha2
  have hf1 : FM SF σ σ1 := l3.fm (fun c j hc => by unfold SF; omega)
  have hz : ∀ c, c ≠ 746 → z_cpy σ1 (a + 1) 746 0 0 4 c = σ1 c := fun c hc => z_cpy_ne hc
  have hC1 : RC (z_cpy σ1 (a + 1) 746 0 0 4) a1 K := hC.frame (by omega) (fun c _ _ => by rw [hz c (by omega)]; exact l3 c (by omega))
  have hw := m_way_in hK hS
  obtain ⟨σ2, k1, k2⟩ := C_priceOf hC1 hK hS ha1 (m_shs_in (w := w) hK) (l2.fr (hz _ (by omega)) (hz _ (by omega)) (hz _ (by omega))) (pt := m_ptw K (m_way K w)) (fun t t0 t1 => by
    unfold z_cpy m_ptw
    rw [if_pos (by omega), show 0 + (t.toNat - 0) = t.toNat from by omega, l3 (a + 1) (by omega), hR.t1 t0 t1, Int.toNat_of_nonneg t0, hw.2.2 t t0 t1])
  refine ⟨σ2, ?_, fun c j hc => ?_⟩
  · unfold f_X5_priceAsItIs
    rw [l1, Option.bind_some, k1]
    rfl
  · have hc' := hc
    unfold SF at hc'
    rw [k2 c (by omega), hz c (by omega)]
    exact hf1 c j hc
-- one by one
def m_ntpS (sh pt : Nat → Int) (t s : Int) : Int := if pt t.toNat = -1 then (if s = -1 then t else if sh t.toNat ≤ sh s.toNat then s else t) else s
def m_ntp (K : Nat → Nat → Int) (sh pt : Nat → Int) : Int := iter (m_ntpS sh pt) (K 0 1).toNat 0 (-1)
def m_putS (K : Nat → Nat → Int) (w sh pt : Nat → Int) (t v : Int) (s : Int × Int) : Int × Int := if m_price K w sh (u1 pt t.toNat v) = -1 then s else if s.1 = -1 ∨ m_price K w sh (u1 pt t.toNat v) < s.2 then (v, m_price K w sh (u1 pt t.toNat v)) else s
def m_put (K : Nat → Nat → Int) (w sh pt : Nat → Int) (t : Int) : Int := (iter (m_putS K w sh pt t) (K 0 2).toNat 0 (-1, -1)).1
def m_greedyL (K : Nat → Nat → Int) (w sh : Nat → Int) : Nat → (Nat → Int) → Int × (Nat → Int)
  | 0, pt => (1, pt)
  | n + 1, pt => if m_put K w sh pt (m_ntp K sh pt) = -1 then (0, pt) else m_greedyL K w sh n (u1 pt (m_ntp K sh pt).toNat (m_put K w sh pt (m_ntp K sh pt)))
def m_greedy (K : Nat → Nat → Int) (w : Nat → Int) : Int × (Nat → Int) := m_greedyL K w (m_shs K w) (K 0 1).toNat (fun _ => -1)
def m_unp (pt : Nat → Int) : Nat → Int
  | 0 => 0
  | n + 1 => m_unp pt n + (if pt n = -1 then 1 else 0)
theorem m_unp_in : ∀ n : Nat, 0 ≤ m_unp pt n ∧ m_unp pt n ≤ n ∧ (m_unp pt n = 0 → ∀ t : Nat, t < n → pt t ≠ -1) := by
  intro n
  induction n with
  | zero => exact ⟨Int.le_refl _, Int.le_refl _, fun _ t ht => by omega⟩
  | succ n ih =>
    unfold m_unp
    obtain ⟨x, y, z⟩ := ih
    split
    · exact ⟨by omega, by omega, fun q => by omega⟩
    · rename_i e
      refine ⟨by omega, by omega, fun q t ht => ?_⟩
      by_cases h : t = n
      · rw [h]
        exact e
      · exact z (by omega) t (by omega)
theorem m_unp_less {u : Nat} {v : Int} (hu : pt u = -1) (hv : v ≠ -1) : ∀ n : Nat, m_unp (u1 pt u v) n = m_unp pt n - (if u < n then 1 else 0) := by
  intro n
  induction n with
  | zero => rfl
  | succ n ih =>
    unfold m_unp
    rw [ih]
    by_cases e : u = n
    · subst e
      rw [u1_e, if_neg hv, if_pos hu, if_neg (by omega), if_pos (by omega)]
      omega
    · rw [u1_i (by omega)]
      by_cases e2 : u < n
      · rw [if_pos e2, if_pos (show u < n + 1 by omega)]
        omega
      · rw [if_neg e2, if_neg (show ¬ u < n + 1 by omega)]
        omega
theorem m_ntp_in (hK : WK K) : (m_ntp K sh pt = -1 ∧ ∀ t : Int, 0 ≤ t → t < K 0 1 → pt t.toNat ≠ -1) ∨ (0 ≤ m_ntp K sh pt ∧ m_ntp K sh pt < K 0 1 ∧ pt (m_ntp K sh pt).toNat = -1) := by
  have hkn := hK.n
  have h := iter_inv (X := m_ntpS sh pt) (hi := K 0 1) (fun t s => 0 ≤ t ∧ ((s = -1 ∧ ∀ u : Int, 0 ≤ u → u < t → pt u.toNat ≠ -1) ∨ (0 ≤ s ∧ s < t ∧ pt s.toNat = -1))) (fun t s ht hp => by
    refine ⟨by omega, ?_⟩
    unfold m_ntpS
    by_cases c : pt t.toNat = -1
    · rw [if_pos c]
      split
      · exact Or.inr ⟨hp.1, by omega, c⟩
      · rename_i e
        rcases hp.2 with q | q
        · exact absurd q.1 e
        · split
          · exact Or.inr ⟨q.1, by omega, q.2.2⟩
          · exact Or.inr ⟨hp.1, by omega, c⟩
    · rw [if_neg c]
      rcases hp.2 with q | q
      · refine Or.inl ⟨q.1, fun u u0 u1 => ?_⟩
        by_cases e : u = t
        · rw [e]
          exact c
        · exact q.2 u u0 (by omega)
      · exact Or.inr ⟨q.1, by omega, q.2.2⟩) (K 0 1).toNat 0 (-1) (by omega) ⟨by omega, Or.inl ⟨rfl, fun u u0 u1 => by omega⟩⟩
  exact h.2
theorem m_ntp_c {pt' : Nat → Int} (h : ∀ t : Int, 0 ≤ t → t < K 0 1 → pt' t.toNat = pt t.toNat) : m_ntp K sh pt' = m_ntp K sh pt := by
  unfold m_ntp
  have : ∀ (n : Nat) (t x : Int), 0 ≤ t → t + n ≤ K 0 1 ∨ n = 0 → iter (m_ntpS sh pt') n t x = iter (m_ntpS sh pt) n t x := by
    intro n
    induction n with
    | zero => intro t x _ _; rfl
    | succ n ih =>
      intro t x t0 t1
      show iter _ n (t + 1) (m_ntpS sh pt' t x) = iter _ n (t + 1) (m_ntpS sh pt t x)
      rw [show m_ntpS sh pt' t x = m_ntpS sh pt t x from by unfold m_ntpS; rw [h t t0 (by omega)]]
      exact ih (t + 1) _ (by omega) (by omega)
  exact this _ 0 _ (by omega) (by omega)
theorem m_put_in (hK : WK K) {t : Int} : m_put K w sh pt t = -1 ∨ (0 ≤ m_put K w sh pt t ∧ m_put K w sh pt t < K 0 2) := by
  have hkn := hK.n
  have h := iter_inv (X := m_putS K w sh pt t) (hi := K 0 2) (fun v s => 0 ≤ v ∧ (s.1 = -1 ∨ (0 ≤ s.1 ∧ s.1 < v))) (fun v s hv hp => by
    refine ⟨by omega, ?_⟩
    unfold m_putS
    split
    · omega
    · split
      · dsimp only
        omega
      · omega) (K 0 2).toNat 0 (-1, -1) (by omega) ⟨by omega, Or.inl rfl⟩
  exact h.2
theorem m_put_c {pt' : Nat → Int} {t : Int} (h0 : 0 ≤ t) (h : ∀ u : Int, 0 ≤ u → u < K 0 1 → u ≠ t → pt' u.toNat = pt u.toNat) : m_put K w sh pt' t = m_put K w sh pt t := by
  unfold m_put
  have : m_putS K w sh pt' t = m_putS K w sh pt t := by
    funext v s
    unfold m_putS
    rw [m_price_c (pt := u1 pt t.toNat v) (pt' := u1 pt' t.toNat v) (fun u u0 u1' => by
      by_cases e : u = t
      · rw [e, u1_e, u1_e]
      · rw [u1_i (by omega), u1_i (by omega)]
        exact h u u0 u1' e)]
  rw [this]
theorem m_greedyL_c (hK : WK K) : ∀ (n : Nat) (pt pt' : Nat → Int), (∀ t : Int, 0 ≤ t → t < K 0 1 → pt' t.toNat = pt t.toNat) → (m_unp pt (K 0 1).toNat = n) → (m_greedyL K w sh n pt').1 = (m_greedyL K w sh n pt).1 ∧ ∀ t : Int, 0 ≤ t → t < K 0 1 → (m_greedyL K w sh n pt').2 t.toNat = (m_greedyL K w sh n pt).2 t.toNat := by
  have hkn := hK.n
  intro n
  induction n with
  | zero => intro pt pt' h _; exact ⟨rfl, h⟩
  | succ n ih =>
    intro pt pt' h hc
    unfold m_greedyL
    have h3 := m_unp_in (pt := pt) (K 0 1).toNat
    rcases m_ntp_in (sh := sh) (pt := pt) hK with q | q
    · have : m_unp pt (K 0 1).toNat = 0 := by
        have : ∀ m : Nat, m ≤ (K 0 1).toNat → m_unp pt m = 0 := by
          intro m
          induction m with
          | zero => intro _; rfl
          | succ m ihm =>
            intro hm
            unfold m_unp
            rw [ihm (by omega), if_neg]
            · rfl
            · have := q.2 (m : Int) (by omega) (by omega)
              exact this
        exact this _ (Nat.le_refl _)
      omega
    · rw [m_ntp_c h, m_put_c q.1 (fun u u0 u1' _ => h u u0 u1')]
      split
      · exact ⟨rfl, h⟩
      · rename_i e
        refine ih _ _ (fun t t0 t1 => ?_) ?_
        · by_cases e2 : t = m_ntp K sh pt
          · rw [e2, u1_e, u1_e]
          · rw [u1_i (by omega), u1_i (by omega)]
            exact h t t0 t1
        · rw [m_unp_less q.2.2 e, if_pos (by omega)]
          omega
end S_G
