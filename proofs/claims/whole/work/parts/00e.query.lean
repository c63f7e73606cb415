-- questions to a chip and a state, on both sides
section S_Q0
variable {σ K : Nat → Nat → Int} {a b : Nat} {w : Nat → Int} {tr th : Int}
theorem R_isIn_y {v x y : Int} (h1 : x ≤ v) (h2 : v ≤ y) : f_X12_isIn v x y σ = some 1 := by
  unfold f_X12_isIn z_cmp
  repeat' split
  all_goals first | rfl | (exfalso; omega)
theorem R_isIn_n {v x y : Int} (h : ¬ (x ≤ v ∧ v ≤ y)) : f_X12_isIn v x y σ = some 0 := by
  unfold f_X12_isIn z_cmp
  repeat' split
  all_goals first | rfl | (exfalso; omega)
theorem C_hasCluster_y (hC : RC σ a K) {v : Int} (h1 : 0 ≤ v) (h2 : v < K 0 0) : f_X1_hasCluster a v σ = some 1 := by
  unfold f_X1_hasCluster
  simp (disch := first | assumption | omega) only [if_true, if_false, zid, zlid, if_pos, if_neg, u2_e, u2_c, u2_i, u1_e, u1_i, Option.bind_some, hC.n0]
theorem C_hasCluster_n (hC : RC σ a K) {v : Int} (h : ¬ (0 ≤ v ∧ v < K 0 0)) : f_X1_hasCluster a v σ = some 0 := by
  unfold f_X1_hasCluster
  rw [hC.n0]
  repeat' split
  all_goals first | rfl | (exfalso; omega)
theorem C_hasTask_y (hC : RC σ a K) {v : Int} (h1 : 0 ≤ v) (h2 : v < K 0 1) : f_X1_hasTask a v σ = some 1 := by
  unfold f_X1_hasTask
  simp (disch := first | assumption | omega) only [if_true, if_false, zid, zlid, if_pos, if_neg, u2_e, u2_c, u2_i, u1_e, u1_i, Option.bind_some, hC.n1]
theorem C_hasTask_n (hC : RC σ a K) {v : Int} (h : ¬ (0 ≤ v ∧ v < K 0 1)) : f_X1_hasTask a v σ = some 0 := by
  unfold f_X1_hasTask
  rw [hC.n1]
  repeat' split
  all_goals first | rfl | (exfalso; omega)
theorem C_hasCore_y (hC : RC σ a K) {v : Int} (h1 : 0 ≤ v) (h2 : v < K 0 2) : f_X1_hasCore a v σ = some 1 := by
  unfold f_X1_hasCore
  simp (disch := first | assumption | omega) only [if_true, if_false, zid, zlid, if_pos, if_neg, u2_e, u2_c, u2_i, u1_e, u1_i, Option.bind_some, hC.n2]
theorem C_hasCore_n (hC : RC σ a K) {v : Int} (h : ¬ (0 ≤ v ∧ v < K 0 2)) : f_X1_hasCore a v σ = some 0 := by
  unfold f_X1_hasCore
  rw [hC.n2]
  repeat' split
  all_goals first | rfl | (exfalso; omega)
theorem C_isTold_y (hC : RC σ a K) (h : 1 ≤ K 0 0) : f_X1_isTold a σ = some 1 := by
  unfold f_X1_isTold
  simp (disch := first | assumption | omega) only [if_true, if_false, zid, zlid, if_pos, if_neg, u2_e, u2_c, u2_i, u1_e, u1_i, Option.bind_some, hC.n0]
theorem R_isCluster_y (hM : RM σ K) {v : Int} (h1 : 0 ≤ v) (h2 : v < K 0 0) : f_X12_isCluster v σ = some 1 := by
  unfold f_X12_isCluster
  simp (disch := first | assumption | omega) only [if_true, if_false, zid, zlid, if_pos, if_neg, u2_e, u2_c, u2_i, u1_e, u1_i, Option.bind_some, hM.n0]
theorem R_isCluster_n (hM : RM σ K) {v : Int} (h : ¬ (0 ≤ v ∧ v < K 0 0)) : f_X12_isCluster v σ = some 0 := by
  unfold f_X12_isCluster
  rw [hM.n0]
  repeat' split
  all_goals first | rfl | (exfalso; omega)
theorem R_isTask_y (hM : RM σ K) {v : Int} (h1 : 0 ≤ v) (h2 : v < K 0 1) : f_X12_isTask v σ = some 1 := by
  unfold f_X12_isTask
  simp (disch := first | assumption | omega) only [if_true, if_false, zid, zlid, if_pos, if_neg, u2_e, u2_c, u2_i, u1_e, u1_i, Option.bind_some, hM.n1]
theorem R_isTask_n (hM : RM σ K) {v : Int} (h : ¬ (0 ≤ v ∧ v < K 0 1)) : f_X12_isTask v σ = some 0 := by
  unfold f_X12_isTask
  rw [hM.n1]
  repeat' split
  all_goals first | rfl | (exfalso; omega)
theorem R_isCore_y (hM : RM σ K) (hK : WK K) {v : Int} (h1 : 0 ≤ v) (h2 : v < K 0 2) : f_X12_isCore v σ = some 1 := by
  have hn := hK.n
  unfold f_X12_isCore
  rw [hM.n0, hM.n2]
  simp (disch := first | assumption | omega) only [if_true, if_false, zid, zlid, if_pos, if_neg, u2_e, u2_c, u2_i, u1_e, u1_i, Option.bind_some, R_isIn_y]
theorem R_isCore_n (hM : RM σ K) (hK : WK K) {v : Int} (h : ¬ (0 ≤ v ∧ v < K 0 2)) : f_X12_isCore v σ = some 0 := by
  have hn := hK.n
  unfold f_X12_isCore
  rw [hM.n0, hM.n2]
  simp (disch := first | assumption | omega) only [if_true, if_false, zid, zlid, if_pos, if_neg, u2_e, u2_c, u2_i, u1_e, u1_i, Option.bind_some, R_isIn_n]
theorem C_hasPoint_y (hC : RC σ a K) (hK : K 0 0 ≤ 3) {c p : Int} (h1 : 0 ≤ c) (h2 : c < K 0 0) (h3 : 0 ≤ p) (h4 : p < K 4 c.toNat) : f_X1_hasPoint a c p σ = some 1 := by
  rw [f_X1_hasPoint_e]
  simp (disch := first | assumption | omega) only [if_true, if_false, zid, zlid, if_pos, if_neg, u2_e, u2_c, u2_i, u1_e, u1_i, Option.bind_some, C_hasCluster_y hC, hC.c5]
theorem C_hasPoint_n (hC : RC σ a K) (hK : K 0 0 ≤ 3) {c p : Int} (h : ¬ (0 ≤ c ∧ c < K 0 0 ∧ 0 ≤ p ∧ p < K 4 c.toNat)) : f_X1_hasPoint a c p σ = some 0 := by
  rw [f_X1_hasPoint_e]
  by_cases h1 : 0 ≤ c ∧ c < K 0 0
  · rw [C_hasCluster_y hC h1.1 h1.2]
    by_cases h3 : p < 0
    · simp (disch := first | assumption | omega) only [if_true, if_false, zid, zlid, if_pos, if_neg, u2_e, u2_c, u2_i, u1_e, u1_i, Option.bind_some]
    · simp (disch := first | assumption | omega) only [if_true, if_false, zid, zlid, if_pos, if_neg, u2_e, u2_c, u2_i, u1_e, u1_i, Option.bind_some, hC.c5]
  · rw [C_hasCluster_n hC h1]
    simp (disch := first | assumption | omega) only [if_true, if_false, zid, zlid, if_pos, if_neg, u2_e, u2_c, u2_i, u1_e, u1_i, Option.bind_some]
theorem R_firstCore (hM : RM σ K) (hK : WK K) {c : Int} (h0 : 0 ≤ c) (h1 : c ≤ K 0 0) : f_X12_firstCore c σ = some (m_first K c) := by
  have hn := hK.n
  have h := iter_loop (F := fun k v acc => f_X12_firstCore_4 k c acc v σ) (X := fun v acc => acc + K 1 v.toNat) (hi := c) (fin := some) (fun v acc => 0 ≤ v ∧ acc = m_first K v)
    (fun k v acc hv hp => by
      have hf := hK.first (c := v) hp.1 (by omega)
      have hc := hK.c (c := v) hp.1 (by omega)
      refine ⟨?_, by omega, ?_⟩
      · show f_X12_firstCore_4 (k + 1) c acc v σ = _
        rw [f_X12_firstCore_4]
        simp (disch := first | assumption | omega) only [if_true, if_false, zid, zlid, if_pos, if_neg, u2_e, u2_c, u2_i, u1_e, u1_i, Option.bind_some, hM.c0]
      · rw [m_first_s hp.1 (by omega), hp.2])
    (fun k acc hp => by
      show f_X12_firstCore_4 (k + 1) c acc c σ = _
      rw [f_X12_firstCore_4]
      simp (disch := first | assumption | omega) only [if_true, if_false, zid, zlid, if_pos, if_neg, u2_e, u2_c, u2_i, u1_e, u1_i, Option.bind_some]) c.toNat 100000 0 0 (by omega) (by omega) ⟨by omega, by simp [m_first]⟩
  unfold f_X12_firstCore
  rw [h.1, h.2.2]
theorem R_lastPoint (hM : RM σ K) (hK : WK K) {c : Int} (h0 : 0 ≤ c) (h1 : c < K 0 0) : f_X12_lastPoint c σ = some (K 4 c.toNat - 1) := by
  have hn := hK.n
  have hc := hK.c h0 h1
  unfold f_X12_lastPoint
  simp (disch := first | assumption | omega) only [if_true, if_false, zid, zlid, if_pos, if_neg, u2_e, u2_c, u2_i, u1_e, u1_i, Option.bind_some, hM.c3]
theorem R_speed (hM : RM σ K) {c p : Int} (h0 : 0 ≤ c) (h1 : c < 3) (h2 : 0 ≤ p) (h3 : p < 5) : f_X12_speed c p σ = some (K 5 (5 * c + p).toNat) := by
  unfold f_X12_speed
  simp (disch := first | assumption | omega) only [if_true, if_false, zid, zlid, if_pos, if_neg, u2_e, u2_c, u2_i, u1_e, u1_i, Option.bind_some, hM.p0]
theorem R_cost (hM : RM σ K) {c p : Int} (h0 : 0 ≤ c) (h1 : c < 3) (h2 : 0 ≤ p) (h3 : p < 5) : f_X12_cost c p σ = some (K 6 (5 * c + p).toNat) := by
  unfold f_X12_cost
  simp (disch := first | assumption | omega) only [if_true, if_false, zid, zlid, if_pos, if_neg, u2_e, u2_c, u2_i, u1_e, u1_i, Option.bind_some, hM.p1]
theorem m_first_up (hK : WK K) {c d : Int} (h0 : 0 ≤ c) (h1 : c < d) (h2 : d < K 0 0) : m_first K c + K 1 c.toNat ≤ m_first K d := by
  have hn := hK.n
  have c0 := hK.c (c := 0) (by omega) (by omega)
  have e0 : ((0 : Int)).toNat = 0 := rfl
  have e1 : ((1 : Int)).toNat = 1 := rfl
  rw [e0] at c0
  have n1 : (1 : Int) < K 0 0 → 1 ≤ K 1 1 := fun q => by have := hK.c (c := 1) (by omega) q; rw [e1] at this; omega
  have kc : c = 0 ∨ c = 1 ∨ c = 2 := by omega
  have kd : d = 0 ∨ d = 1 ∨ d = 2 := by omega
  rcases kc with rfl | rfl | rfl <;> rcases kd with rfl | rfl | rfl <;> simp [m_first] <;> omega
theorem R_clusterOf (hM : RM σ K) (hK : WK K) {v : Int} (h0 : 0 ≤ v) (h1 : v < K 0 2) : f_X12_clusterOf v σ = some (K 7 v.toNat) := by
  have hn := hK.n
  obtain ⟨a1, a2, a3, a4⟩ := hK.v h0 h1
  have st : ∀ (n k : Nat) (c : Int), 0 ≤ c → c + n = K 7 v.toNat → n < k → f_X12_clusterOf_2 k v c σ = some (K 7 v.toNat) := by
    intro n
    induction n with
    | zero =>
      intro k c hc hq hk
      obtain ⟨k, rfl⟩ : ∃ j, k = j + 1 := ⟨k - 1, by omega⟩
      have e : c = K 7 v.toNat := by omega
      rw [← e] at a1 a2 a3 a4
      have hf := hK.first (c := c) hc (by omega)
      have hc2 := hK.c (c := c) hc (by omega)
      rw [f_X12_clusterOf_2]
      simp (disch := first | assumption | omega) only [if_true, if_false, zid, zlid, if_pos, if_neg, u2_e, u2_c, u2_i, u1_e, u1_i, Option.bind_some, R_firstCore hM hK, hM.c0]
      rw [e]
    | succ n ih =>
      intro k c hc hq hk
      obtain ⟨k, rfl⟩ : ∃ j, k = j + 1 := ⟨k - 1, by omega⟩
      have hf := hK.first (c := c) hc (by omega)
      have hc2 := hK.c (c := c) hc (by omega)
      have hu := m_first_up hK (c := c) (d := K 7 v.toNat) hc (by omega) (by omega)
      rw [f_X12_clusterOf_2]
      simp (disch := first | assumption | omega) only [if_true, if_false, zid, zlid, if_pos, if_neg, u2_e, u2_c, u2_i, u1_e, u1_i, Option.bind_some, R_firstCore hM hK, hM.c0]
      exact ih k (c + 1) (by omega) (by omega) (by omega)
  unfold f_X12_clusterOf
  exact st (K 7 v.toNat).toNat 100000 0 (by omega) (by omega) (by omega)
/-- how many points, from p on, are too slow -/
def m_pfL (K : Nat → Nat → Int) (c need : Int) : Nat → Int → Int
  | 0, p => p
  | n + 1, p => if K 5 (5 * c + p).toNat < need then m_pfL K c need n (p + 1) else p
def m_pf (K : Nat → Nat → Int) (c need : Int) : Int := m_pfL K c need (K 4 c.toNat).toNat 0
theorem m_pfL_in {c need : Int} : ∀ (n : Nat) (p : Int), p ≤ m_pfL K c need n p ∧ m_pfL K c need n p ≤ p + n ∧ (m_pfL K c need n p < p + n → need ≤ K 5 (5 * c + m_pfL K c need n p).toNat) := by
  intro n
  induction n with
  | zero => intro p; unfold m_pfL; exact ⟨by omega, by omega, by omega⟩
  | succ n ih =>
    intro p
    unfold m_pfL
    split
    · obtain ⟨h1, h2, h3⟩ := ih (p + 1)
      exact ⟨by omega, by omega, fun h => h3 (by omega)⟩
    · refine ⟨by omega, by omega, fun _ => by omega⟩
theorem m_pf_in (hK : WK K) {c need : Int} (h0 : 0 ≤ c) (h1 : c < K 0 0) : 0 ≤ m_pf K c need ∧ m_pf K c need ≤ K 4 c.toNat ∧ (m_pf K c need < K 4 c.toNat → need ≤ K 5 (5 * c + m_pf K c need).toNat) := by
  have hc := hK.c h0 h1
  obtain ⟨h2, h3, h4⟩ := m_pfL_in (K := K) (c := c) (need := need) (K 4 c.toNat).toNat 0
  unfold m_pf
  exact ⟨by omega, by omega, fun h => h4 (by omega)⟩
theorem R_pointFor (hM : RM σ K) (hK : WK K) {c need : Int} (h0 : 0 ≤ c) (h1 : c < K 0 0) : f_X12_pointFor c need σ = some (m_pf K c need) := by
  have hn := hK.n
  have hc := hK.c h0 h1
  have st : ∀ (n k : Nat) (p : Int), 0 ≤ p → p + n = K 4 c.toNat → n < k → f_X12_pointFor_2 k c need p σ = some (m_pfL K c need n p) := by
    intro n
    induction n with
    | zero =>
      intro k p hp hq hk
      obtain ⟨k, rfl⟩ : ∃ j, k = j + 1 := ⟨k - 1, by omega⟩
      unfold f_X12_pointFor_2 m_pfL
      simp (disch := first | assumption | omega) only [if_true, if_false, zid, zlid, if_pos, if_neg, u2_e, u2_c, u2_i, u1_e, u1_i, Option.bind_some, R_lastPoint hM hK]
    | succ n ih =>
      intro k p hp hq hk
      obtain ⟨k, rfl⟩ : ∃ j, k = j + 1 := ⟨k - 1, by omega⟩
      unfold f_X12_pointFor_2 m_pfL
      by_cases h : K 5 (5 * c + p).toNat < need
      · simp (disch := first | assumption | omega) only [if_true, if_false, zid, zlid, if_pos, if_neg, u2_e, u2_c, u2_i, u1_e, u1_i, Option.bind_some, R_lastPoint hM hK, R_speed hM]
        exact ih k (p + 1) (by omega) (by omega) (by omega)
      · simp (disch := first | assumption | omega) only [if_true, if_false, zid, zlid, if_pos, if_neg, u2_e, u2_c, u2_i, u1_e, u1_i, Option.bind_some, R_lastPoint hM hK, R_speed hM]
  unfold f_X12_pointFor m_pf
  exact st (K 4 c.toNat).toNat 100000 0 (by omega) (by omega) (by omega)
theorem C_firstPointFor (hC : RC σ a K) (hK : WK K) {c need : Int} (h0 : 0 ≤ c) (h1 : c < K 0 0) : f_X1_firstPointFor a c need σ = some (if m_pf K c need = K 4 c.toNat then -1 else m_pf K c need) := by
  have hn := hK.n
  have hc := hK.c h0 h1
  have st : ∀ (n k : Nat) (p : Int), 0 ≤ p → p + n = K 4 c.toNat → n < k → f_X1_firstPointFor_26 k a c need (K 4 c.toNat) p σ = some (if m_pfL K c need n p = K 4 c.toNat then -1 else m_pfL K c need n p) := by
    intro n
    induction n with
    | zero =>
      intro k p hp hq hk
      obtain ⟨k, rfl⟩ : ∃ j, k = j + 1 := ⟨k - 1, by omega⟩
      unfold f_X1_firstPointFor_26 m_pfL
      simp (disch := first | assumption | omega) only [if_true, if_false, zid, zlid, if_pos, if_neg, u2_e, u2_c, u2_i, u1_e, u1_i, Option.bind_some]
    | succ n ih =>
      intro k p hp hq hk
      obtain ⟨k, rfl⟩ : ∃ j, k = j + 1 := ⟨k - 1, by omega⟩
      unfold f_X1_firstPointFor_26 m_pfL
      by_cases h : K 5 (5 * c + p).toNat < need
      · simp (disch := first | assumption | omega) only [if_true, if_false, zid, zlid, if_pos, if_neg, u2_e, u2_c, u2_i, u1_e, u1_i, Option.bind_some, hC.p7]
        exact ih k (p + 1) (by omega) (by omega) (by omega)
      · simp (disch := first | assumption | omega) only [if_true, if_false, zid, zlid, if_pos, if_neg, u2_e, u2_c, u2_i, u1_e, u1_i, Option.bind_some, hC.p7]
  rw [f_X1_firstPointFor_e]
  unfold m_pf
  simp (disch := first | assumption | omega) only [if_true, if_false, zid, zlid, if_pos, if_neg, u2_e, u2_c, u2_i, u1_e, u1_i, Option.bind_some, C_hasCluster_y hC, hC.c5]
  exact st (K 4 c.toNat).toNat 100000 0 (by omega) (by omega) (by omega)
end S_Q0
