-- races, what lies ahead, bounds, steps, all; both sides
section S_Q4
variable {σ K : Nat → Nat → Int} {w : Nat → Int} {a a1 a2 b : Nat} {v1 v2 v3 v4 tr th : Int}
theorem up_div {x s n : Int} (hs : 1 ≤ s) (hx : 1 ≤ x) : Int.tdiv (x + s - 1) s ≤ n ↔ x ≤ s * n := by
  rw [Int.tdiv_eq_ediv_of_nonneg (by omega)]
  have h1 := Int.emod_add_mul_ediv (x + s - 1) s
  have h2 := Int.emod_nonneg (x + s - 1) (show s ≠ 0 by omega)
  have h3 := Int.emod_lt_of_pos (x + s - 1) (show 0 < s by omega)
  generalize (x + s - 1) / s = q at *
  constructor
  · intro h
    have h4 : s * q ≤ s * n := Int.mul_le_mul_of_nonneg_left h (by omega)
    generalize s * q = u at *
    generalize s * n = u2 at *
    omega
  · intro h
    by_cases c : q ≤ n
    · exact c
    · have h4 : s * (n + 1) ≤ s * q := Int.mul_le_mul_of_nonneg_left (by omega) (by omega)
      rw [Int.mul_add, Int.mul_one] at h4
      generalize s * q = u at *
      generalize s * n = u2 at *
      omega
theorem up_in {x s : Int} (hs : 1 ≤ s) (hx : 1 ≤ x) : 1 ≤ Int.tdiv (x + s - 1) s ∧ Int.tdiv (x + s - 1) s ≤ x := by
  refine ⟨?_, (up_div hs hx).mpr ?_⟩
  · by_cases c : 1 ≤ Int.tdiv (x + s - 1) s
    · exact c
    · have := (up_div (n := 0) hs hx).mp (by omega)
      rw [Int.mul_zero] at this
      omega
  · have := Int.mul_le_mul_of_nonneg_right hs (show 0 ≤ x by omega)
    rw [Int.one_mul] at this
    exact this
theorem C_rup {x s : Int} (hs : 1 ≤ s) (hs2 : s ≤ 99) (hx : 1 ≤ x) (hx2 : x ≤ 9999) : f_X11_roundedUp x s σ = some (Int.tdiv (x + s - 1) s) := by
  have := up_in hs hx
  unfold f_X11_roundedUp
  rw [if_pos hs, if_pos (by omega), zid (x := x + s) (by omega) (by omega), zid (x := x + s - 1) (by omega) (by omega), zid (by omega) (by omega)]
theorem R_rup {x s : Int} (hs : 1 ≤ s) (hs2 : s ≤ 99) (hx : 1 ≤ x) (hx2 : x ≤ 9999) : f_X12_up x s σ = some (Int.tdiv (x + s - 1) s) := by
  have := up_in hs hx
  unfold f_X12_up
  rw [if_pos (by omega), zid (x := x + s) (by omega) (by omega), zid (x := x + s - 1) (by omega) (by omega), zid (by omega) (by omega)]
theorem m_pfL_lo {c need : Int} : ∀ (n : Nat) (p i : Int), p ≤ i → i < m_pfL K c need n p → K 5 (5 * c + i).toNat < need := by
  intro n
  induction n with
  | zero =>
    intro p i h0 h1
    rw [m_pfL] at h1
    omega
  | succ n ih =>
    intro p i h0 h1
    rw [m_pfL] at h1
    by_cases c : K 5 (5 * c + p).toNat < need
    · rw [if_pos c] at h1
      by_cases e : i = p
      · rw [e]; exact c
      · exact ih (p + 1) i (by omega) h1
    · rw [if_neg c] at h1
      omega
theorem mulz {a b A B : Int} (a0 : 0 ≤ a) (a1 : a ≤ A) (b0 : 0 ≤ b) (b1 : b ≤ B) : 0 ≤ a * b ∧ a * b ≤ A * B := ⟨Int.mul_nonneg a0 b0, Int.mul_le_mul a1 b1 b0 (by omega)⟩
/-- what racing costs, what going slowly costs -/
def m_race (K : Nat → Nat → Int) (c x n : Int) : Int := if x ≤ K 5 (5 * c + (K 4 c.toNat - 1)).toNat * n then K 6 (5 * c + (K 4 c.toNat - 1)).toNat * x + K 2 c.toNat * min n (Int.tdiv (x + K 5 (5 * c + (K 4 c.toNat - 1)).toNat - 1) (K 5 (5 * c + (K 4 c.toNat - 1)).toNat) + K 10 2) else -1
def m_slow (K : Nat → Nat → Int) (c x n : Int) : Int := if m_pf K c (Int.tdiv (x + n - 1) n) = K 4 c.toNat then -1 else K 6 (5 * c + m_pf K c (Int.tdiv (x + n - 1) n)).toNat * x + K 2 c.toNat * n
set_option maxHeartbeats 1000000 in
theorem C_racingCost (hC : RC σ a1 K) (hK : WK K) {c x n : Int} (h0 : 0 ≤ c) (h1 : c < K 0 0) (x0 : 1 ≤ x) (x1 : x ≤ 9999) (n0 : 1 ≤ n) (n1 : n ≤ 99) : f_X1_racingCost a1 c x n σ = some (m_race K c x n) := by
  have hkn := hK.n
  have hk := hK.c h0 h1
  have hp := hK.p (p := K 4 c.toNat - 1) h0 h1 (by omega) (by omega)
  have hr := hK.r
  have hup := up_in (x := x) hp.1 x0
  have hm1 := mulz (A := 99) (B := 9999) (show 0 ≤ K 6 (5 * c + (K 4 c.toNat - 1)).toNat by omega) (by omega) (show 0 ≤ x by omega) x1
  have hm2 := mulz (A := 99) (B := 99) (show 0 ≤ K 2 c.toNat by omega) (by omega) (show 0 ≤ min n (Int.tdiv (x + K 5 (5 * c + (K 4 c.toNat - 1)).toNat - 1) (K 5 (5 * c + (K 4 c.toNat - 1)).toNat) + K 10 2) by omega) (by omega)
  have c3 : 0 ≤ c ∧ c < 3 := by omega
  have p5 : 0 ≤ K 4 c.toNat - 1 ∧ K 4 c.toNat - 1 < 5 := by omega
  unfold f_X1_racingCost f_X1_racingCost_20 m_race
  rw [C_hasCluster_y hC h0 h1, Option.bind_some, if_neg (show ¬ (1 : Int) = 0 by omega), if_pos c3, hC.c5 h0 h1, zid (x := K 4 c.toNat - 1) (by omega) (by omega), C_hasPoint_y hC (by omega) h0 h1 p5.1 (by omega), Option.bind_some, if_neg (show ¬ (1 : Int) = 0 by omega), if_pos c3, if_pos p5, hC.p7 h0 h1 p5.1 (by omega), hC.p11 h0 h1 p5.1 (by omega), hC.c3 h0 h1, hC.r2, C_rup hp.1 (by omega) x0 x1, Option.bind_some]
  by_cases d : Int.tdiv (x + K 5 (5 * c + (K 4 c.toNat - 1)).toNat - 1) (K 5 (5 * c + (K 4 c.toNat - 1)).toNat) ≤ n
  · rw [if_pos d, if_pos c3, if_pos p5, if_pos c3, if_pos ((up_div hp.1 x0).mp d), zid (x := Int.tdiv _ _ + K 10 2) (by omega) (by omega), zid (x := K 6 _ * x) (by omega) (by omega), zid (x := K 2 _ * _) (by omega) (by omega), zid (by omega) (by omega)]
  · rw [if_neg d, if_neg (fun q => d ((up_div hp.1 x0).mpr q))]
theorem C_slowCost (hC : RC σ a1 K) (hK : WK K) {c x n : Int} (h0 : 0 ≤ c) (h1 : c < K 0 0) (x0 : 1 ≤ x) (x1 : x ≤ 9999) (n0 : 1 ≤ n) (n1 : n ≤ 99) : f_X1_slowCost a1 c x n σ = some (m_slow K c x n) := by
  have hkn := hK.n
  have hk := hK.c h0 h1
  have hpf := m_pf_in (need := Int.tdiv (x + n - 1) n) hK h0 h1
  have c3 : 0 ≤ c ∧ c < 3 := by omega
  unfold f_X1_slowCost m_slow
  rw [C_rup n0 n1 x0 x1, Option.bind_some, C_firstPointFor hC hK h0 h1, Option.bind_some]
  generalize m_pf K c (Int.tdiv (x + n - 1) n) = p at *
  by_cases d : p = K 4 c.toNat
  · rw [if_pos d, if_pos d, if_pos rfl]
  · have hp := hK.p (p := p) h0 h1 (by omega) (by omega)
    have hm1 := mulz (A := 99) (B := 9999) (show 0 ≤ K 6 (5 * c + p).toNat by omega) (by omega) (show 0 ≤ x by omega) x1
    have hm2 := mulz (A := 99) (B := 99) (show 0 ≤ K 2 c.toNat by omega) (by omega) (show 0 ≤ n by omega) (by omega)
    rw [if_neg d, if_neg d, if_neg (by omega), if_pos c3, if_pos (by omega), if_pos c3, hC.p11 h0 h1 hpf.1 (by omega), hC.c3 h0 h1, zid (x := K 6 _ * x) (by omega) (by omega), zid (x := K 2 _ * _) (by omega) (by omega), zid (by omega) (by omega)]
set_option maxHeartbeats 1000000 in
theorem R_pace (hM : RM σ K) (hK : WK K) {c p x n e : Int} (h0 : 0 ≤ c) (h1 : c < K 0 0) (p0 : 0 ≤ p) (p1 : p < K 4 c.toNat) (x0 : 1 ≤ x) (x1 : x ≤ 9999) (n0 : 1 ≤ n) (n1 : n ≤ 99) (he : e = 0 ∨ e = 1) : f_X12_paceOf c p x n e σ = some (if x ≤ K 5 (5 * c + p).toNat * n then K 6 (5 * c + p).toNat * x + K 2 c.toNat * (if e = 1 then min n (Int.tdiv (x + K 5 (5 * c + p).toNat - 1) (K 5 (5 * c + p).toNat) + K 10 2) else n) else -1) := by
  have hkn := hK.n
  have hk := hK.c h0 h1
  have hp := hK.p (p := p) h0 h1 p0 p1
  have hr := hK.r
  have hup := up_in (x := x) hp.1 x0
  unfold f_X12_paceOf f_X12_paceOf_54
  rw [R_speed hM h0 (by omega) p0 (by omega), Option.bind_some, R_rup hp.1 (by omega) x0 x1, Option.bind_some]
  by_cases d : Int.tdiv (x + K 5 (5 * c + p).toNat - 1) (K 5 (5 * c + p).toNat) ≤ n
  · rw [if_pos d, if_pos ((up_div hp.1 x0).mp d), hM.r2, zid (x := Int.tdiv _ _ + K 10 2) (by omega) (by omega), R_cost hM h0 (by omega) p0 (by omega), Option.bind_some, zid (x := 4 * c) (by omega) (by omega), zid (x := 4 * c + 1) (by omega) (by omega), if_pos (by omega), hM.c1 h0 (by omega)]
    have hm1 := mulz (A := 99) (B := 9999) (show 0 ≤ K 6 (5 * c + p).toNat by omega) (by omega) (show 0 ≤ x by omega) x1
    have ee : (if e = 0 then n else if n ≤ Int.tdiv (x + K 5 (5 * c + p).toNat - 1) (K 5 (5 * c + p).toNat) + K 10 2 then n else Int.tdiv (x + K 5 (5 * c + p).toNat - 1) (K 5 (5 * c + p).toNat) + K 10 2) = (if e = 1 then min n (Int.tdiv (x + K 5 (5 * c + p).toNat - 1) (K 5 (5 * c + p).toNat) + K 10 2) else n) := by
      rcases he with rfl | rfl
      · rw [if_pos rfl, if_neg (by omega)]
      · rw [if_neg (by omega), if_pos rfl]
        split <;> omega
    rw [ee]
    have hb : 0 ≤ (if e = 1 then min n (Int.tdiv (x + K 5 (5 * c + p).toNat - 1) (K 5 (5 * c + p).toNat) + K 10 2) else n) ∧ (if e = 1 then min n (Int.tdiv (x + K 5 (5 * c + p).toNat - 1) (K 5 (5 * c + p).toNat) + K 10 2) else n) ≤ 99 := by
      split <;> omega
    generalize (if e = 1 then min n (Int.tdiv (x + K 5 (5 * c + p).toNat - 1) (K 5 (5 * c + p).toNat) + K 10 2) else n) = q at hb ⊢
    have hm2 := mulz (A := 99) (B := 99) (show 0 ≤ K 2 c.toNat by omega) (by omega) hb.1 hb.2
    rw [zid (x := K 6 _ * x) (by omega) (by omega), zid (x := K 2 _ * q) (by omega) (by omega), zid (by omega) (by omega)]
  · rw [if_neg d, if_neg (fun q => d ((up_div hp.1 x0).mpr q))]
set_option maxHeartbeats 1000000 in
theorem Q_race (h : PQ σ K) : ∃ r, f_X11_race v1 v2 v3 v4 σ = some r ∧ f_X12_race v1 v2 v3 v4 σ = some (r, u2 σ 758 0 0) := by
  obtain ⟨b1, b2, b3, b4⟩ := h.ref (τ := σ) (fun c hc => rfl)
  obtain ⟨h0, hC, hR, hM, hK, hS, hL, h38, h39⟩ := h
  have hkn := hK.n
  unfold f_X11_race f_X11_race_28 f_X12_race f_X12_race_105
  rw [if_pos h0]
  by_cases d1 : 0 ≤ v1 ∧ v1 < K 0 0
  · rw [C_hasCluster_y hC d1.1 d1.2, R_isCluster_y b1 d1.1 d1.2, Option.bind_some, Option.bind_some, if_neg (show ¬ (1 : Int) = 0 by omega), if_neg (show ¬ (1 : Int) = 0 by omega)]
    by_cases d2 : 1 ≤ v2 ∧ v2 ≤ 9999
    · rw [if_neg (show ¬ v2 < 1 by omega), if_neg (show ¬ 9999 < v2 by omega), R_isIn_y d2.1 d2.2, Option.bind_some, if_neg (show ¬ (1 : Int) = 0 by omega)]
      by_cases d3 : 1 ≤ v3 ∧ v3 ≤ 99
      · rw [if_neg (show ¬ v3 < 1 by omega), if_neg (show ¬ 99 < v3 by omega), R_isIn_y d3.1 d3.2, Option.bind_some, if_neg (show ¬ (1 : Int) = 0 by omega), if_neg (show ¬ (1 : Int) = 0 by omega)]
        by_cases d4 : 0 ≤ v4 ∧ v4 ≤ 2
        · have hk := hK.c d1.1 d1.2
          have hup := up_in (s := v3) d3.1 d2.1
          have hpf := m_pf_in (need := Int.tdiv (v2 + v3 - 1) v3) hK d1.1 d1.2
          have hlast := hK.p (p := K 4 v1.toNat - 1) d1.1 d1.2 (by omega) (by omega)
          have hlo := m_pfL_lo (K := K) (c := v1) (need := Int.tdiv (v2 + v3 - 1) v3) (K 4 v1.toNat).toNat 0 (K 4 v1.toNat - 1) (by omega)
          rw [show m_pfL K v1 (Int.tdiv (v2 + v3 - 1) v3) (K 4 v1.toNat).toNat 0 = m_pf K v1 (Int.tdiv (v2 + v3 - 1) v3) from rfl] at hlo
          rw [if_neg (show ¬ v4 < 0 by omega), if_pos d4.2, R_isIn_y d4.1 d4.2, Option.bind_some, if_neg (show ¬ (1 : Int) = 0 by omega), if_pos h0, C_racingCost hC hK d1.1 d1.2 d2.1 d2.2 d3.1 d3.2, Option.bind_some, if_pos h0, C_slowCost hC hK d1.1 d1.2 d2.1 d2.2 d3.1 d3.2, Option.bind_some, R_lastPoint b1 hK d1.1 d1.2, Option.bind_some, R_pace b1 hK d1.1 d1.2 (by omega) (by omega) d2.1 d2.2 d3.1 d3.2 (Or.inr rfl), Option.bind_some, R_rup d3.1 d3.2 d2.1 d2.2, Option.bind_some, R_pointFor b1 hK d1.1 d1.2, Option.bind_some, Option.bind_some, if_pos rfl]
          have hm : m_race K v1 v2 v3 = (if v2 ≤ K 5 (5 * v1 + (K 4 v1.toNat - 1)).toNat * v3 then K 6 (5 * v1 + (K 4 v1.toNat - 1)).toNat * v2 + K 2 v1.toNat * min v3 (Int.tdiv (v2 + K 5 (5 * v1 + (K 4 v1.toNat - 1)).toNat - 1) (K 5 (5 * v1 + (K 4 v1.toNat - 1)).toNat) + K 10 2) else -1) := rfl
          rw [← hm]
          have hsl : (m_pf K v1 (Int.tdiv (v2 + v3 - 1) v3) ≤ K 4 v1.toNat - 1 → f_X12_paceOf v1 (m_pf K v1 (Int.tdiv (v2 + v3 - 1) v3)) v2 v3 0 (u2 σ 758 0 0) = some (m_slow K v1 v2 v3) ∧ 0 ≤ m_slow K v1 v2 v3) ∧ (¬ m_pf K v1 (Int.tdiv (v2 + v3 - 1) v3) ≤ K 4 v1.toNat - 1 → m_slow K v1 v2 v3 = -1 ∧ m_race K v1 v2 v3 = -1) := by
            refine ⟨fun q => ?_, fun q => ?_⟩
            · have hp := hK.p (p := m_pf K v1 (Int.tdiv (v2 + v3 - 1) v3)) d1.1 d1.2 hpf.1 (by omega)
              have hle := (up_div (s := v3) (n := K 5 (5 * v1 + m_pf K v1 (Int.tdiv (v2 + v3 - 1) v3)).toNat) d3.1 d2.1).mp (hpf.2.2 (by omega))
              rw [Int.mul_comm] at hle
              rw [R_pace b1 hK d1.1 d1.2 hpf.1 (by omega) d2.1 d2.2 d3.1 d3.2 (Or.inl rfl), if_pos hle, if_neg (show ¬ (0 : Int) = 1 by omega)]
              unfold m_slow
              rw [if_neg (show ¬ m_pf K v1 (Int.tdiv (v2 + v3 - 1) v3) = K 4 v1.toNat by omega)]
              have hm1 := mulz (A := 99) (B := 9999) (show 0 ≤ K 6 (5 * v1 + m_pf K v1 (Int.tdiv (v2 + v3 - 1) v3)).toNat by omega) (by omega) (show 0 ≤ v2 by omega) d2.2
              have hm2 := mulz (A := 99) (B := 99) (show 0 ≤ K 2 v1.toNat by omega) (by omega) (show 0 ≤ v3 by omega) (by omega)
              exact ⟨rfl, by omega⟩
            · unfold m_slow m_race
              rw [if_pos (by omega), if_neg (fun q2 => by
                have h5 := hlo (by omega)
                have h6 := (up_div (s := v3) (n := K 5 (5 * v1 + (K 4 v1.toNat - 1)).toNat) d3.1 d2.1).mpr (by rw [Int.mul_comm]; exact q2)
                omega)]
              exact ⟨rfl, rfl⟩
          have hr0 : m_race K v1 v2 v3 = -1 ∨ 0 ≤ m_race K v1 v2 v3 := by
            unfold m_race
            split
            · have hup2 := up_in (x := v2) hlast.1 d2.1
              have hr := hK.r
              have hm1 := mulz (A := 99) (B := 9999) (show 0 ≤ K 6 (5 * v1 + (K 4 v1.toNat - 1)).toNat by omega) (by omega) (show 0 ≤ v2 by omega) d2.2
              have hm2 := mulz (A := 99) (B := 99) (show 0 ≤ K 2 v1.toNat by omega) (by omega) (show 0 ≤ min v3 (Int.tdiv (v2 + K 5 (5 * v1 + (K 4 v1.toNat - 1)).toNat - 1) (K 5 (5 * v1 + (K 4 v1.toNat - 1)).toNat) + K 10 2) by omega) (by omega)
              omega
            · exact Or.inl rfl
          generalize m_race K v1 v2 v3 = fa at *
          generalize m_slow K v1 v2 v3 = sl at *
          generalize m_pf K v1 (Int.tdiv (v2 + v3 - 1) v3) = pf at *
          by_cases q : pf ≤ K 4 v1.toNat - 1
          · obtain ⟨q1, q2⟩ := hsl.1 q
            rw [if_pos q, q1, Option.bind_some]
            have k : v4 = 0 ∨ v4 = 1 ∨ v4 = 2 := by omega
            rcases k with rfl | rfl | rfl
            · rw [if_pos rfl, if_neg (by omega), if_pos rfl]
              exact ⟨_, rfl, rfl⟩
            · rw [if_neg (by omega), if_pos rfl, if_neg (by omega), if_neg (by omega)]
              exact ⟨_, rfl, rfl⟩
            · rw [if_neg (by omega), if_neg (by omega), if_pos (Int.le_refl 2)]
              by_cases e : fa = -1
              · rw [if_pos e, if_pos e]
                exact ⟨_, rfl, rfl⟩
              · rw [if_neg e, if_neg e, if_neg (by omega)]
                by_cases f : fa ≤ sl
                · rw [if_pos f, if_neg (by omega)]
                  exact ⟨_, rfl, rfl⟩
                · rw [if_neg f, if_pos (by omega)]
                  exact ⟨_, rfl, rfl⟩
          · obtain ⟨q1, q2⟩ := hsl.2 q
            rw [if_neg q, q1, q2]
            have k : v4 = 0 ∨ v4 = 1 ∨ v4 = 2 := by omega
            rcases k with rfl | rfl | rfl
            · rw [if_pos rfl, if_neg (by omega), if_pos rfl]
              exact ⟨_, rfl, rfl⟩
            · rw [if_neg (by omega), if_pos rfl, if_neg (by omega), if_neg (by omega)]
              exact ⟨_, rfl, rfl⟩
            · rw [if_neg (by omega), if_neg (by omega), if_pos rfl, if_pos (Int.le_refl 2), if_pos rfl]
              exact ⟨_, rfl, rfl⟩
        · refine ⟨-1000000, ?_, ?_⟩
          · by_cases e : v4 < 0
            · rw [if_pos e]
            · rw [if_neg e, if_neg (by omega)]
          · rw [R_isIn_n d4, Option.bind_some, if_pos rfl]
      · refine ⟨-1000000, ?_, ?_⟩
        · rw [if_pos]
          by_cases e : v3 < 1
          · rw [if_pos e]
          · rw [if_neg e, if_pos (by omega)]
        · rw [R_isIn_n d3, Option.bind_some, if_pos rfl]
    · refine ⟨-1000000, ?_, ?_⟩
      · rw [if_pos]
        by_cases e : v2 < 1
        · rw [if_pos e]
        · rw [if_neg e, if_pos (by omega)]
      · rw [R_isIn_n d2, Option.bind_some, if_pos rfl]
  · rw [C_hasCluster_n hC d1, R_isCluster_n b1 d1, Option.bind_some, Option.bind_some, if_pos rfl, if_pos rfl]
    exact ⟨_, rfl, rfl⟩
end S_Q4
