-- questions about cores, tasks, races, what lies ahead, bounds; both sides
section S_Q3
variable {σ K : Nat → Nat → Int} {w : Nat → Int} {a a1 b : Nat} {v1 v2 v3 v4 tr th : Int}
theorem bo_all : ∀ x : Fin 64, ∀ t : Fin 6, z_or ((x.val % 2 ^ t.val : Nat) : Int) (if x.val / 2 ^ t.val % 2 = 1 then z_shl 1 ((t.val : Nat) : Int) else 0) = ((x.val % 2 ^ (t.val + 1) : Nat) : Int) := by decide +kernel
theorem bo_on : ∀ x : Fin 16, ∀ t : Fin 4, x.val < 2 ^ t.val → 0 ≤ z_or ((x.val : Nat) : Int) (z_shl 1 ((t.val : Nat) : Int)) ∧ z_or ((x.val : Nat) : Int) (z_shl 1 ((t.val : Nat) : Int)) < ((2 ^ (t.val + 1) : Nat) : Int) := by decide +kernel
theorem bo_off : ∀ x : Fin 16, ∀ t : Fin 4, x.val < 2 ^ t.val → z_and ((x.val : Nat) : Int) (z_xor (z_shl 1 ((t.val : Nat) : Int)) (-1)) = ((x.val : Nat) : Int) ∧ z_or ((x.val : Nat) : Int) 0 = ((x.val : Nat) : Int) := by decide +kernel
theorem bo_pw : ∀ t : Fin 5, 2 ^ t.val ≤ 16 ∧ 2 ^ t.val < 2 ^ (t.val + 1) := by decide
/-- the bits of those of n for whom p holds -/
def m_bits (p : Nat → Bool) : Nat → Int
  | 0 => 0
  | n + 1 => if p n = true then z_or (m_bits p n) (z_shl 1 (n : Int)) else m_bits p n
theorem m_bits_in (p : Nat → Bool) : ∀ n, n ≤ 4 → 0 ≤ m_bits p n ∧ m_bits p n < ((2 ^ n : Nat) : Int) := by
  intro n
  induction n with
  | zero => intro _; unfold m_bits; omega
  | succ n ih =>
    intro hn
    obtain ⟨h0, h1⟩ := ih (by omega)
    have hp := bo_pw ⟨n, by omega⟩
    dsimp only at hp
    have h := bo_on ⟨(m_bits p n).toNat, by omega⟩ ⟨n, by omega⟩ (by dsimp only; omega)
    dsimp only at h
    rw [Int.toNat_of_nonneg h0] at h
    unfold m_bits
    split
    · exact h
    · omega
theorem m_bits_on (p : Nat → Bool) {n : Nat} (hn : n < 4) (σ : Nat → Nat → Int) : f_X11_withBit (m_bits p n) (n : Int) 1 σ = some (z_or (m_bits p n) (z_shl 1 (n : Int))) := by
  unfold f_X11_withBit
  rw [if_neg (by omega), if_pos (by omega), if_neg (by omega)]
theorem m_bits_off (p : Nat → Bool) {n : Nat} (hn : n < 4) (σ : Nat → Nat → Int) : f_X11_withBit (m_bits p n) (n : Int) 0 σ = some (m_bits p n) ∧ z_or (m_bits p n) 0 = m_bits p n := by
  obtain ⟨h0, h1⟩ := m_bits_in p n (by omega)
  have hp := bo_pw ⟨n, by omega⟩
  dsimp only at hp
  have h := bo_off ⟨(m_bits p n).toNat, by omega⟩ ⟨n, hn⟩ (by dsimp only; omega)
  dsimp only at h
  rw [Int.toNat_of_nonneg h0] at h
  unfold f_X11_withBit
  rw [if_neg (by omega), if_pos (by omega), if_pos rfl, h.1]
  exact ⟨rfl, h.2⟩
theorem C_tasksOn (h0 : (σ 0 2).toNat ∈ ax_iX1) (hR : RS σ 173 K w tr th) (hC : RC σ (σ 0 2).toNat K) (hK : WK K) : f_X11_tasksOn v1 σ = some (m_bits (fun t => decide (w (21 + t) = v1)) (K 0 1).toNat) := by
  have hkn := hK.n
  have st : ∀ (m k t : Nat), (t : Int) + m = K 0 1 → m < k → f_X11_tasksOn_4 k v1 (m_bits (fun t => decide (w (21 + t) = v1)) t) (t : Int) σ = some (m_bits (fun t => decide (w (21 + t) = v1)) (K 0 1).toNat) := by
    intro m
    induction m with
    | zero =>
      intro k t ht hk
      obtain ⟨k, rfl⟩ : ∃ j, k = j + 1 := ⟨k - 1, by omega⟩
      rw [f_X11_tasksOn_4, if_pos h0, hC.n1, if_pos (by omega), show t = (K 0 1).toNat from by omega]
    | succ m ih =>
      intro k t ht hk
      obtain ⟨k, rfl⟩ : ∃ j, k = j + 1 := ⟨k - 1, by omega⟩
      have e := hR.t1 (t := (t : Int)) (by omega) (by omega)
      rw [show (21 + (t : Int)).toNat = 21 + t from by omega] at e
      rw [f_X11_tasksOn_4, if_pos h0, hC.n1, if_neg (by omega), if_pos (by omega), e]
      unfold f_X11_tasksOn_35
      rw [zid (x := (t : Int) + 1) (by omega) (by omega)]
      have hI := ih k (t + 1) (by omega) (by omega)
      rw [m_bits, show ((t + 1 : Nat) : Int) = (t : Int) + 1 from by omega] at hI
      by_cases c : w (21 + t) = v1
      · rw [if_pos (decide_eq_true c)] at hI
        rw [if_pos c, m_bits_on _ (by omega), Option.bind_some]
        exact hI
      · rw [if_neg (by simp [c])] at hI
        rw [if_neg c, (m_bits_off _ (by omega) σ).1, Option.bind_some]
        exact hI
  exact st (K 0 1).toNat 100000 0 (by omega) (by omega)
theorem R_tasksOn (hM : RM σ K) (hK : WK K) : f_X12_tasksOn v1 σ = some (m_bits (fun t => decide (σ 776 (21 + t) = v1)) (K 0 1).toNat) := by
  have hkn := hK.n
  have st : ∀ (m k t : Nat), (t : Int) + m = K 0 1 → m < k → f_X12_tasksOn_4 k v1 (m_bits (fun t => decide (σ 776 (21 + t) = v1)) t) (t : Int) σ = some (m_bits (fun t => decide (σ 776 (21 + t) = v1)) (K 0 1).toNat) := by
    intro m
    induction m with
    | zero =>
      intro k t ht hk
      obtain ⟨k, rfl⟩ : ∃ j, k = j + 1 := ⟨k - 1, by omega⟩
      rw [f_X12_tasksOn_4, hM.n1, if_pos (by omega), show t = (K 0 1).toNat from by omega]
    | succ m ih =>
      intro k t ht hk
      obtain ⟨k, rfl⟩ : ∃ j, k = j + 1 := ⟨k - 1, by omega⟩
      rw [f_X12_tasksOn_4, hM.n1, if_neg (by omega), zid (x := 21 + (t : Int)) (by omega) (by omega), if_pos (by omega), show (21 + (t : Int)).toNat = 21 + t from by omega, zid (x := (t : Int) + 1) (by omega) (by omega)]
      have hI := ih k (t + 1) (by omega) (by omega)
      rw [m_bits, show ((t + 1 : Nat) : Int) = (t : Int) + 1 from by omega] at hI
      by_cases c : σ 776 (21 + t) = v1
      · rw [if_pos (decide_eq_true c)] at hI
        rw [if_pos c]
        exact hI
      · rw [if_neg (by simp [c])] at hI
        rw [if_neg c, (m_bits_off _ (by omega) σ).2]
        exact hI
  exact st (K 0 1).toNat 100000 0 (by omega) (by omega)
theorem C_rests (hR : RS σ a K w tr th) (hC : RC σ a1 K) (hK : WK K) : f_X7_tasksWithRest a a1 σ = some (m_bits (fun t => decide (0 < w (25 + t))) (K 0 1).toNat) := by
  have hkn := hK.n
  have st : ∀ (m k t : Nat), (t : Int) + m = K 0 1 → m < k → f_X7_tasksWithRest_4 k a a1 (m_bits (fun t => decide (0 < w (25 + t))) t) (t : Int) σ = some (m_bits (fun t => decide (0 < w (25 + t))) (K 0 1).toNat) := by
    intro m
    induction m with
    | zero =>
      intro k t ht hk
      obtain ⟨k, rfl⟩ : ∃ j, k = j + 1 := ⟨k - 1, by omega⟩
      rw [f_X7_tasksWithRest_4, hC.n1, if_pos (by omega), show t = (K 0 1).toNat from by omega]
    | succ m ih =>
      intro k t ht hk
      obtain ⟨k, rfl⟩ : ∃ j, k = j + 1 := ⟨k - 1, by omega⟩
      have e := hR.t2 (t := (t : Int)) (by omega) (by omega)
      rw [show (25 + (t : Int)).toNat = 25 + t from by omega] at e
      rw [f_X7_tasksWithRest_4, hC.n1, if_neg (by omega), if_pos (by omega), e]
      unfold f_X7_tasksWithRest_28
      rw [zid (x := (t : Int) + 1) (by omega) (by omega)]
      have hI := ih k (t + 1) (by omega) (by omega)
      rw [m_bits, show ((t + 1 : Nat) : Int) = (t : Int) + 1 from by omega] at hI
      by_cases c : 0 < w (25 + t)
      · rw [if_pos (decide_eq_true c)] at hI
        rw [if_neg (by omega), m_bits_on _ (by omega), Option.bind_some]
        exact hI
      · rw [if_neg (by simp [c])] at hI
        rw [if_pos (by omega), (m_bits_off _ (by omega) σ).1, Option.bind_some]
        exact hI
  exact st (K 0 1).toNat 100000 0 (by omega) (by omega)
theorem R_rests (hM : RM σ K) (hK : WK K) : f_X12_bitsOf 25 (K 0 1) σ = some (m_bits (fun t => decide (0 < σ 776 (25 + t))) (K 0 1).toNat) := by
  have hkn := hK.n
  have st : ∀ (m k t : Nat), (t : Int) + m = K 0 1 → m < k → f_X12_bitsOf_5 k 25 (K 0 1) (m_bits (fun t => decide (0 < σ 776 (25 + t))) t) (t : Int) σ = some (m_bits (fun t => decide (0 < σ 776 (25 + t))) (K 0 1).toNat) := by
    intro m
    induction m with
    | zero =>
      intro k t ht hk
      obtain ⟨k, rfl⟩ : ∃ j, k = j + 1 := ⟨k - 1, by omega⟩
      rw [f_X12_bitsOf_5, if_pos (by omega), show t = (K 0 1).toNat from by omega]
    | succ m ih =>
      intro k t ht hk
      obtain ⟨k, rfl⟩ : ∃ j, k = j + 1 := ⟨k - 1, by omega⟩
      rw [f_X12_bitsOf_5, if_neg (by omega), zid (x := 25 + (t : Int)) (by omega) (by omega), if_pos (by omega), show (25 + (t : Int)).toNat = 25 + t from by omega, zid (x := (t : Int) + 1) (by omega) (by omega)]
      have hI := ih k (t + 1) (by omega) (by omega)
      rw [m_bits, show ((t + 1 : Nat) : Int) = (t : Int) + 1 from by omega] at hI
      by_cases c : 0 < σ 776 (25 + t)
      · rw [if_pos (decide_eq_true c)] at hI
        rw [if_neg (by omega)]
        exact hI
      · rw [if_neg (by simp [c])] at hI
        rw [if_pos (by omega), (m_bits_off _ (by omega) σ).2]
        exact hI
  exact st (K 0 1).toNat 100000 0 (by omega) (by omega)
/-- bits read out of the row are the number that the class keeps -/
theorem R_bitsBT {x n from1 : Int} (hx : BT x n (fun t => σ 776 (from1.toNat + t))) (h0 : 0 ≤ n) (h1 : n ≤ 6) (f0 : 0 ≤ from1) (f1 : from1 ≤ 100) : f_X12_bitsOf from1 n σ = some x := by
  have hx64 := hx.lt64 h1
  have st : ∀ (m k t : Nat), (t : Int) + m = n → m < k → f_X12_bitsOf_5 k from1 n ((x.toNat % 2 ^ t : Nat) : Int) (t : Int) σ = some x := by
    intro m
    induction m with
    | zero =>
      intro k t ht hk
      obtain ⟨k, rfl⟩ : ∃ j, k = j + 1 := ⟨k - 1, by omega⟩
      rw [f_X12_bitsOf_5, if_pos (by omega)]
      have e : x.toNat < 2 ^ t := by
        have h2 := hx.2.1
        rw [show n.toNat = t from by omega] at h2
        have ep : ((2 ^ t : Nat) : Int) = 2 ^ t := by rw [Int.natCast_pow]; rfl
        omega
      rw [Nat.mod_eq_of_lt e, Int.toNat_of_nonneg hx.1]
    | succ m ih =>
      intro k t ht hk
      obtain ⟨k, rfl⟩ : ∃ j, k = j + 1 := ⟨k - 1, by omega⟩
      have e := hx.2.2 (t : Int) (by omega) (by omega)
      dsimp only at e
      rw [Int.toNat_natCast] at e
      have hb := bo_all ⟨x.toNat, by omega⟩ ⟨t, by omega⟩
      dsimp only at hb
      have hI := ih k (t + 1) (by omega) (by omega)
      rw [← hb, show ((t + 1 : Nat) : Int) = (t : Int) + 1 from by omega] at hI
      have e2 : x / 2 ^ t % 2 = ((x.toNat / 2 ^ t % 2 : Nat) : Int) := by
        rw [Int.natCast_emod, Int.natCast_ediv, Int.natCast_pow, Int.toNat_of_nonneg hx.1]
        rfl
      rw [f_X12_bitsOf_5, if_neg (by omega), zid (x := from1 + (t : Int)) (by omega) (by omega), if_pos (by omega), show (from1 + (t : Int)).toNat = from1.toNat + t from by omega, zid (x := (t : Int) + 1) (by omega) (by omega), e, e2]
      by_cases c : x.toNat / 2 ^ t % 2 = 1
      · rw [if_pos c] at hI
        rw [if_neg (by omega)]
        exact hI
      · rw [if_neg c] at hI
        rw [if_pos (by omega)]
        exact hI
  have := st n.toNat 100000 0 (by omega) (by omega)
  rw [Nat.pow_zero, Nat.mod_one] at this
  exact this
theorem C_shareQ (h0 : (σ 0 2).toNat ∈ ax_iX1) (hR : RS σ 173 K w tr th) (hC : RC σ (σ 0 2).toNat K) (hK : WK K) (hS : WS K w) {t : Int} (t0 : 0 ≤ t) (t1 : t < K 0 1) : f_X11_shareOf t σ = some (m_shs K w t.toNat) := by
  have hx := hS.t t0 t1
  unfold f_X11_shareOf m_shs
  rw [C_isStopped hR hK hS t0 t1, Option.bind_some, show (37 + t).toNat = 37 + t.toNat from by omega, show ((t.toNat : Nat) : Int) = t from by omega]
  have hw := hx.2.2.2.2.2.2.2.2
  rw [show (37 + t).toNat = 37 + t.toNat from by omega] at hw
  by_cases c : w (37 + t.toNat) = 0
  · rw [if_pos c, if_pos h0, C_chipShareOf hC hK t0 t1, Option.bind_some, if_neg (by omega)]
  · rw [if_neg c, if_pos (by omega)]
def m_sho (K : Nat → Nat → Int) (w : Nat → Int) (v : Int) : Int := iter (fun t acc => if w (21 + t).toNat = v then acc + m_shs K w t.toNat else acc) (K 0 1).toNat 0 0
theorem C_sharesOn (h0 : (σ 0 2).toNat ∈ ax_iX1) (hR : RS σ 173 K w tr th) (hC : RC σ (σ 0 2).toNat K) (hK : WK K) (hS : WS K w) : f_X11_sharesOn v1 σ = some (m_sho K w v1) ∧ 0 ≤ m_sho K w v1 ∧ m_sho K w v1 ≤ 4000 := by
  have hkn := hK.n
  have hsh := m_shs_in (w := w) hK
  have h := sim_loop (F := fun k t (q : Int) => f_X11_sharesOn_4 k v1 q t σ) (X := fun t acc => if w (21 + t).toNat = v1 then acc + m_shs K w t.toNat else acc) (hi := K 0 1)
    (fun t q g => 0 ≤ t ∧ q = g ∧ 0 ≤ g ∧ g ≤ 1000 * t)
    (fun g r => r = some g ∧ 0 ≤ g ∧ g ≤ 4000)
    (fun k t q g ht hq => by
      obtain ⟨t0, rfl, g0, g1⟩ := hq
      have hs := hsh t t0 ht
      rw [f_X11_sharesOn_4, if_pos h0, hC.n1, if_neg (by omega), if_pos (by omega), hR.t1 t0 ht, zid (x := t + 1) (by omega) (by omega)]
      by_cases c : w (21 + t).toNat = v1
      · refine ⟨_, ?_, by omega, rfl, ?_⟩
        · rw [if_pos c, C_shareQ h0 hR hC hK hS t0 ht, Option.bind_some, zid (by omega) (by omega), if_pos c]
        · rw [if_pos c]
          omega
      · refine ⟨q, ?_, by omega, (if_neg c).symm, ?_⟩
        · rw [if_neg c, Int.add_zero, zid (by omega) (by omega)]
        · rw [if_neg c]
          omega)
    (fun k q g hq => by
      obtain ⟨t0, rfl, g0, g1⟩ := hq
      rw [f_X11_sharesOn_4, if_pos h0, hC.n1, if_pos (by omega)]
      exact ⟨rfl, by omega, by omega⟩)
    (K 0 1).toNat 100000 0 0 0 (by omega) (by omega) ⟨by omega, rfl, by omega, by omega⟩
  exact h
theorem R_sharesOn (hM : RM σ K) (hK : WK K) (hS : WS K (σ 776)) : f_X12_sharesOn v1 σ = some (m_sho K (σ 776) v1) := by
  have hkn := hK.n
  have hsh := m_shs_in (w := σ 776) hK
  have h := sim_loop (F := fun k t (q : Int) => f_X12_sharesOn_4 k v1 q t σ) (X := fun t acc => if σ 776 (21 + t).toNat = v1 then acc + m_shs K (σ 776) t.toNat else acc) (hi := K 0 1)
    (fun t q g => 0 ≤ t ∧ q = g ∧ 0 ≤ g ∧ g ≤ 1000 * t)
    (fun g r => r = some g)
    (fun k t q g ht hq => by
      obtain ⟨t0, rfl, g0, g1⟩ := hq
      have hs := hsh t t0 ht
      rw [f_X12_sharesOn_4, hM.n1, if_neg (by omega), zid (x := 21 + t) (by omega) (by omega), if_pos (by omega), zid (x := t + 1) (by omega) (by omega)]
      by_cases c : σ 776 (21 + t).toNat = v1
      · refine ⟨_, ?_, by omega, rfl, ?_⟩
        · rw [if_pos c, R_shareOf (b := 776) hM hK hS t0 ht, Option.bind_some, zid (by omega) (by omega), if_pos c]
        · rw [if_pos c]
          omega
      · refine ⟨q, ?_, by omega, (if_neg c).symm, ?_⟩
        · rw [if_neg c, Int.add_zero, zid (by omega) (by omega)]
        · rw [if_neg c]
          omega)
    (fun k q g hq => by
      obtain ⟨t0, rfl, g0, g1⟩ := hq
      rw [f_X12_sharesOn_4, hM.n1, if_pos (by omega)])
    (K 0 1).toNat 100000 0 0 0 (by omega) (by omega) ⟨by omega, rfl, by omega, by omega⟩
  exact h
set_option maxHeartbeats 1000000 in
theorem Q_core (h : PQ σ K) : ∃ r, f_X11_core v1 v2 σ = some r ∧ f_X12_core v1 v2 σ = some (r, u2 σ 758 0 0) := by
  have h' := h
  obtain ⟨a1, a2, a3, a4⟩ := h.ref (τ := σ) (fun c hc => rfl)
  obtain ⟨h0, hC, hR, hM, hK, hS, hL, h38, h39⟩ := h
  have hkn := hK.n
  have hS' : WS K ((u2 σ 758 0 0) 776) := by rw [a2]; exact hS
  unfold f_X11_core f_X12_core
  rw [if_pos h0]
  by_cases d1 : 0 ≤ v1 ∧ v1 < K 0 2
  · have hv := hK.v d1.1 d1.2
    have hcn := hK.c hv.1 hv.2.1
    have hsc := hS.c hv.1 hv.2.1
    obtain ⟨s1, s2, s3⟩ := C_sharesOn (v1 := v1) h0 hR hC hK hS
    have s4 := R_sharesOn (v1 := v1) a1 hK hS'
    have s5 := R_tasksOn (v1 := v1) a1 hK
    rw [a2] at s4 s5
    have hc1 := C_hasCore_y hC d1.1 d1.2
    have hr1 := R_isCore_y a1 hK d1.1 d1.2
    have hr2 := R_clusterOf a1 hK d1.1 d1.2
    have e14 := hC.v14 d1.1 d1.2
    have e8 := hR.v8 d1.1 d1.2
    have hto := C_tasksOn (v1 := v1) h0 hR hC hK
    by_cases d2 : 0 ≤ v2 ∧ v2 ≤ 4
    · have i2 := R_isIn_y (σ := u2 σ 758 0 0) d2.1 d2.2
      have k : v2 = 0 ∨ v2 = 1 ∨ v2 = 2 ∨ v2 = 3 ∨ v2 = 4 := by omega
      rcases k with rfl | rfl | rfl | rfl | rfl
      · exact ⟨K 7 v1.toNat, by simp (disch := first | assumption | omega) only [if_true, if_false, zid, zlid, if_pos, if_neg, u2_e, u2_c, u2_i, u1_e, u1_i, Option.bind_some, hc1, e14], by simp (disch := first | assumption | omega) only [if_true, if_false, zid, zlid, if_pos, if_neg, u2_e, u2_c, u2_i, u1_e, u1_i, Option.bind_some, hr1, i2, hr2]⟩
      · have hb := hR.b6.bit (i := v1) (by omega) d1.1 d1.2
        have e1 : f_X11_bitOf (σ 173 6) v1 σ = some (σ 776 (9 + v1).toNat) := by
          unfold f_X11_bitOf
          rw [if_neg (by omega), if_pos (by omega), hb, show (9 + v1).toNat = 9 + v1.toNat from by omega]
        exact ⟨σ 776 (9 + v1).toNat, by simp (disch := first | assumption | omega) only [if_true, if_false, zid, zlid, if_pos, if_neg, u2_e, u2_c, u2_i, u1_e, u1_i, Option.bind_some, hc1, e1], by simp (disch := first | assumption | omega) only [if_true, if_false, zid, zlid, if_pos, if_neg, u2_e, u2_c, u2_i, u1_e, u1_i, Option.bind_some, hr1, i2, a2]⟩
      · exact ⟨σ 776 (15 + v1).toNat, by simp (disch := first | assumption | omega) only [if_true, if_false, zid, zlid, if_pos, if_neg, u2_e, u2_c, u2_i, u1_e, u1_i, Option.bind_some, hc1, e8], by simp (disch := first | assumption | omega) only [if_true, if_false, zid, zlid, if_pos, if_neg, u2_e, u2_c, u2_i, u1_e, u1_i, Option.bind_some, hr1, i2, a2]⟩
      · exact ⟨m_bits (fun t => decide (σ 776 (21 + t) = v1)) (K 0 1).toNat, by simp (disch := first | assumption | omega) only [if_true, if_false, zid, zlid, if_pos, if_neg, u2_e, u2_c, u2_i, u1_e, u1_i, Option.bind_some, hc1, hto], by simp (disch := first | assumption | omega) only [if_true, if_false, zid, zlid, if_pos, if_neg, u2_e, u2_c, u2_i, u1_e, u1_i, Option.bind_some, hr1, i2, s5]⟩
      · have hsp := C_speedOf hR hC hK hS hv.1 hv.2.1
        have hsr := R_speed a1 hv.1 (show K 7 v1.toNat < 3 by omega) hsc.1 (show σ 776 (K 7 v1.toNat).toNat < 5 by omega)
        have hms : m_spd K (σ 776) (K 7 v1.toNat) = K 5 (5 * K 7 v1.toNat + σ 776 (K 7 v1.toNat).toNat).toNat := rfl
        rw [hms] at hsp
        exact ⟨z_w (K 5 (5 * K 7 v1.toNat + σ 776 (K 7 v1.toNat).toNat).toNat - m_sho K (σ 776) v1), by simp (disch := first | assumption | omega) only [if_true, if_false, zid, zlid, if_pos, if_neg, u2_e, u2_c, u2_i, u1_e, u1_i, Option.bind_some, hc1, e14, hsp, s1], by simp (disch := first | assumption | omega) only [if_true, if_false, zid, zlid, if_pos, if_neg, u2_e, u2_c, u2_i, u1_e, u1_i, Option.bind_some, hr1, i2, hr2, a2, Int.zero_add, hsr, s4]⟩
    · exact ⟨-1000000, by simp (disch := first | assumption | omega) only [if_true, if_false, zid, zlid, if_pos, if_neg, u2_e, u2_c, u2_i, u1_e, u1_i, Option.bind_some, hc1], by simp (disch := first | assumption | omega) only [if_true, if_false, zid, zlid, if_pos, if_neg, u2_e, u2_c, u2_i, u1_e, u1_i, Option.bind_some, hr1, R_isIn_n d2]⟩
  · exact ⟨-1000000, by rw [C_hasCore_n hC d1, Option.bind_some, if_pos rfl], by rw [R_isCore_n a1 hK d1, Option.bind_some, if_pos rfl]⟩
set_option maxHeartbeats 1000000 in
theorem Q_task (h : PQ σ K) : ∃ r, f_X11_task v1 v2 σ = some r ∧ f_X12_task v1 v2 σ = some (r, u2 σ 758 0 0) := by
  obtain ⟨a1, a2, a3, a4⟩ := h.ref (τ := σ) (fun c hc => rfl)
  obtain ⟨h0, hC, hR, hM, hK, hS, hL, h38, h39⟩ := h
  have hkn := hK.n
  have hS' : WS K ((u2 σ 758 0 0) 776) := by rw [a2]; exact hS
  unfold f_X11_task f_X12_task
  rw [if_pos h0]
  by_cases d1 : 0 ≤ v1 ∧ v1 < K 0 1
  · have s4 := R_shareOf (b := 776) a1 hK hS' d1.1 d1.2
    rw [a2] at s4
    have hc1 := C_hasTask_y hC d1.1 d1.2
    have hr1 := R_isTask_y a1 d1.1 d1.2
    have e16 := hC.t16 d1.1 d1.2
    have e17 := hC.t17 d1.1 d1.2
    have e1 := hR.t1 d1.1 d1.2
    have e2 := hR.t2 d1.1 d1.2
    have e3 := hR.t3 d1.1 d1.2
    have e4 := hR.t4 d1.1 d1.2
    have esh := C_shareQ h0 hR hC hK hS d1.1 d1.2
    have f0 := hM.t0 (t := v1) d1.1 (by omega)
    have f1 := hM.t1 (t := v1) d1.1 (by omega)
    by_cases d2 : 0 ≤ v2 ∧ v2 ≤ 7
    · have i2 := R_isIn_y (σ := u2 σ 758 0 0) d2.1 d2.2
      have k : v2 = 0 ∨ v2 = 1 ∨ v2 = 2 ∨ v2 = 3 ∨ v2 = 4 ∨ v2 = 5 ∨ v2 = 6 ∨ v2 = 7 := by omega
      have g2 : (21 + 4 * ((2 : Int) - 2) + v1).toNat = (21 + v1).toNat := by omega
      have g3 : (21 + 4 * ((3 : Int) - 2) + v1).toNat = (25 + v1).toNat := by omega
      have g4 : (21 + 4 * ((4 : Int) - 2) + v1).toNat = (29 + v1).toNat := by omega
      have g5 : (21 + 4 * ((5 : Int) - 2) + v1).toNat = (33 + v1).toNat := by omega
      have g6 : (21 + 4 * ((6 : Int) - 2) + v1).toNat = (37 + v1).toNat := by omega
      rcases k with rfl | rfl | rfl | rfl | rfl | rfl | rfl | rfl
      · exact ⟨K 8 v1.toNat, by simp (disch := first | assumption | omega) only [if_true, if_false, zid, zlid, if_pos, if_neg, u2_e, u2_c, u2_i, u1_e, u1_i, Option.bind_some, hc1, e16], by simp (disch := first | assumption | omega) only [if_true, if_false, zid, zlid, if_pos, if_neg, u2_e, u2_c, u2_i, u1_e, u1_i, Option.bind_some, hr1, i2, Int.add_zero, f0]⟩
      · exact ⟨K 9 v1.toNat, by simp (disch := first | assumption | omega) only [if_true, if_false, zid, zlid, if_pos, if_neg, u2_e, u2_c, u2_i, u1_e, u1_i, Option.bind_some, hc1, e17], by simp (disch := first | assumption | omega) only [if_true, if_false, zid, zlid, if_pos, if_neg, u2_e, u2_c, u2_i, u1_e, u1_i, Option.bind_some, hr1, i2, f1]⟩
      · exact ⟨σ 776 (21 + v1).toNat, by simp (disch := first | assumption | omega) only [if_true, if_false, zid, zlid, if_pos, if_neg, u2_e, u2_c, u2_i, u1_e, u1_i, Option.bind_some, hc1, e1], by simp (disch := first | assumption | omega) only [if_true, if_false, zid, zlid, if_pos, if_neg, u2_e, u2_c, u2_i, u1_e, u1_i, Option.bind_some, hr1, i2, a2, g2]⟩
      · exact ⟨σ 776 (25 + v1).toNat, by simp (disch := first | assumption | omega) only [if_true, if_false, zid, zlid, if_pos, if_neg, u2_e, u2_c, u2_i, u1_e, u1_i, Option.bind_some, hc1, e2], by simp (disch := first | assumption | omega) only [if_true, if_false, zid, zlid, if_pos, if_neg, u2_e, u2_c, u2_i, u1_e, u1_i, Option.bind_some, hr1, i2, a2, g3]⟩
      · exact ⟨σ 776 (29 + v1).toNat, by simp (disch := first | assumption | omega) only [if_true, if_false, zid, zlid, if_pos, if_neg, u2_e, u2_c, u2_i, u1_e, u1_i, Option.bind_some, hc1, e3], by simp (disch := first | assumption | omega) only [if_true, if_false, zid, zlid, if_pos, if_neg, u2_e, u2_c, u2_i, u1_e, u1_i, Option.bind_some, hr1, i2, a2, g4]⟩
      · exact ⟨σ 776 (33 + v1).toNat, by simp (disch := first | assumption | omega) only [if_true, if_false, zid, zlid, if_pos, if_neg, u2_e, u2_c, u2_i, u1_e, u1_i, Option.bind_some, hc1, e4], by simp (disch := first | assumption | omega) only [if_true, if_false, zid, zlid, if_pos, if_neg, u2_e, u2_c, u2_i, u1_e, u1_i, Option.bind_some, hr1, i2, a2, g5]⟩
      · have hb := hR.b5.bit (i := v1) (by omega) d1.1 d1.2
        have eb : f_X11_bitOf (σ 173 5) v1 σ = some (σ 776 (37 + v1).toNat) := by
          unfold f_X11_bitOf
          rw [if_neg (by omega), if_pos (by omega), hb, show (37 + v1).toNat = 37 + v1.toNat from by omega]
        exact ⟨σ 776 (37 + v1).toNat, by simp (disch := first | assumption | omega) only [if_true, if_false, zid, zlid, if_pos, if_neg, u2_e, u2_c, u2_i, u1_e, u1_i, Option.bind_some, hc1, eb], by simp (disch := first | assumption | omega) only [if_true, if_false, zid, zlid, if_pos, if_neg, u2_e, u2_c, u2_i, u1_e, u1_i, Option.bind_some, hr1, i2, a2, g6]⟩
      · exact ⟨m_shs K (σ 776) v1.toNat, by simp (disch := first | assumption | omega) only [if_true, if_false, zid, zlid, if_pos, if_neg, u2_e, u2_c, u2_i, u1_e, u1_i, Option.bind_some, hc1, esh], by simp (disch := first | assumption | omega) only [if_true, if_false, zid, zlid, if_pos, if_neg, u2_e, u2_c, u2_i, u1_e, u1_i, Option.bind_some, hr1, i2, s4]⟩
    · exact ⟨-1, by simp (disch := first | assumption | omega) only [if_true, if_false, zid, zlid, if_pos, if_neg, u2_e, u2_c, u2_i, u1_e, u1_i, Option.bind_some, hc1], by simp (disch := first | assumption | omega) only [if_true, if_false, zid, zlid, if_pos, if_neg, u2_e, u2_c, u2_i, u1_e, u1_i, Option.bind_some, hr1, R_isIn_n d2]⟩
  · exact ⟨-1, by rw [C_hasTask_n hC d1, Option.bind_some, if_pos rfl], by rw [R_isTask_n a1 d1, Option.bind_some, if_pos rfl]⟩
end S_Q3
