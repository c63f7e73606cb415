-- low, high, who asks, loads, need and want, on both sides
def m_low (w : Nat → Int) (c : Int) : Int := iter (fun k acc => if w (47 + 5 * k).toNat = c then max acc (w (48 + 5 * k).toNat) else acc) (w 44).toNat 0 0
def m_highL (K : Nat → Nat → Int) (w : Nat → Int) (c : Int) : Int := iter (fun k acc => if w (47 + 5 * k).toNat = c then min acc (w (49 + 5 * k).toNat) else acc) (w 44).toNat 0 (K 4 c.toNat - 1)
def m_high (K : Nat → Nat → Int) (w : Nat → Int) (tr th c : Int) : Int := if c = tr ∧ th < m_highL K w c then th else m_highL K w c
/-- the place of the name, the cluster among the n from k on; none: -1 -/
def m_askL (w : Nat → Int) (nm c : Int) : Nat → Int → Int
  | 0, _ => -1
  | n + 1, k => if m_nm w k = nm ∧ w (47 + 5 * k).toNat = c then k else m_askL w nm c n (k + 1)
def m_ask (w : Nat → Int) (nm c : Int) : Int := m_askL w nm c (w 44).toNat 0
def m_load (K : Nat → Nat → Int) (w : Nat → Int) (v : Int) : Int := iter (fun t acc => if w (21 + t).toNat = v then acc + w (29 + t).toNat else acc) (K 0 1).toNat 0 0
def m_most (K : Nat → Nat → Int) (w : Nat → Int) (c : Int) : Int := iter (fun v acc => max acc (m_load K w v)) (K 1 c.toNat).toNat (m_first K c) 0
def m_need (K : Nat → Nat → Int) (w : Nat → Int) (c : Int) : Int := Int.tdiv (m_most K w c * K 0 3 * (100 + K 10 0) + 102399) 102400
def m_want (K : Nat → Nat → Int) (w : Nat → Int) (c : Int) : Int := if 0 < w (6 + c).toNat ∨ m_pf K c (m_need K w c) = K 4 c.toNat then K 4 c.toNat - 1 else m_pf K c (m_need K w c)
def m_bounded (K : Nat → Nat → Int) (w : Nat → Int) (tr th c p : Int) : Int := min (max p (m_low w c)) (m_high K w tr th c)
section S_Q1
variable {σ K : Nat → Nat → Int} {a b : Nat} {w : Nat → Int} {tr th : Int}
theorem m_low_in (hS : WS K w) {c : Int} (hp : 1 ≤ K 4 c.toNat) : 0 ≤ m_low w c ∧ m_low w c < K 4 c.toNat := by
  have hn := hS.n
  have := iter_inv (X := fun k acc => if w (47 + 5 * k).toNat = c then max acc (w (48 + 5 * k).toNat) else acc) (hi := w 44) (fun k acc => 0 ≤ k ∧ 0 ≤ acc ∧ acc < K 4 c.toNat) (fun k acc hk h => by
    have hx := hS.k h.1 hk
    refine ⟨by omega, ?_⟩
    split
    · rename_i e
      rw [e] at hx
      omega
    · omega) (w 44).toNat 0 0 (by omega) ⟨by omega, by omega, by omega⟩
  exact ⟨this.2.1, this.2.2⟩
theorem m_highL_in (hS : WS K w) {c : Int} (hp : 1 ≤ K 4 c.toNat) : 0 ≤ m_highL K w c ∧ m_highL K w c < K 4 c.toNat := by
  have hn := hS.n
  have := iter_inv (X := fun k acc => if w (47 + 5 * k).toNat = c then min acc (w (49 + 5 * k).toNat) else acc) (hi := w 44) (fun k acc => 0 ≤ k ∧ 0 ≤ acc ∧ acc < K 4 c.toNat) (fun k acc hk h => by
    have hx := hS.k h.1 hk
    refine ⟨by omega, ?_⟩
    split
    · rename_i e
      rw [e] at hx
      omega
    · omega) (w 44).toNat 0 (K 4 c.toNat - 1) (by omega) ⟨by omega, by omega, by omega⟩
  exact ⟨this.2.1, this.2.2⟩
theorem m_high_in (hS : WS K w) {c : Int} (hp : 1 ≤ K 4 c.toNat) (ht : 0 ≤ th) : 0 ≤ m_high K w tr th c ∧ m_high K w tr th c < K 4 c.toNat := by
  have := m_highL_in hS hp
  unfold m_high
  split <;> omega
theorem m_bounded_in (hS : WS K w) {c p : Int} (hp : 1 ≤ K 4 c.toNat) (ht : 0 ≤ th) : 0 ≤ m_bounded K w tr th c p ∧ m_bounded K w tr th c p < K 4 c.toNat := by
  have h1 := m_high_in (tr := tr) hS hp ht
  have h2 := m_low_in hS hp
  unfold m_bounded
  omega
theorem m_askL_in {nm c : Int} : ∀ (n : Nat) (k : Int), m_askL w nm c n k = -1 ∨ (k ≤ m_askL w nm c n k ∧ m_askL w nm c n k < k + n ∧ m_nm w (m_askL w nm c n k) = nm ∧ w (47 + 5 * m_askL w nm c n k).toNat = c) := by
  intro n
  induction n with
  | zero => intro k; unfold m_askL; exact Or.inl rfl
  | succ n ih =>
    intro k
    unfold m_askL
    split
    · rename_i h
      exact Or.inr ⟨by omega, by omega, h.1, h.2⟩
    · rcases ih (k + 1) with h | h
      · exact Or.inl h
      · exact Or.inr ⟨by omega, by omega, h.2.2.1, h.2.2.2⟩
theorem m_ask_in (hS : WS K w) {nm c : Int} : m_ask w nm c = -1 ∨ (0 ≤ m_ask w nm c ∧ m_ask w nm c < w 44 ∧ m_nm w (m_ask w nm c) = nm ∧ w (47 + 5 * m_ask w nm c).toNat = c) := by
  have hn := hS.n
  rcases m_askL_in (w := w) (nm := nm) (c := c) (w 44).toNat 0 with h | h
  · exact Or.inl h
  · refine Or.inr ⟨h.1, ?_, h.2.2⟩
    have := h.2.1
    unfold m_ask
    omega
theorem m_load_in (hS : WS K w) (hK : WK K) {v : Int} : 0 ≤ m_load K w v ∧ m_load K w v ≤ 4096 := by
  have hn := hK.n
  have := iter_inv (X := fun t acc => if w (21 + t).toNat = v then acc + w (29 + t).toNat else acc) (hi := K 0 1) (fun t acc => 0 ≤ t ∧ 0 ≤ acc ∧ acc ≤ 1024 * t) (fun t acc ht h => by
    have hx := hS.t h.1 ht
    refine ⟨by omega, ?_⟩
    split <;> omega) (K 0 1).toNat 0 0 (by omega) ⟨by omega, by omega, by omega⟩
  obtain ⟨h1, h2, h3⟩ := this
  unfold m_load
  exact ⟨h2, by omega⟩
theorem m_most_in (hS : WS K w) (hK : WK K) {c : Int} : 0 ≤ m_most K w c ∧ m_most K w c ≤ 4096 := by
  unfold m_most
  generalize (K 1 c.toNat).toNat = n
  generalize m_first K c = v
  have : ∀ (n : Nat) (v x : Int), 0 ≤ x → x ≤ 4096 → 0 ≤ iter (fun v acc => max acc (m_load K w v)) n v x ∧ iter (fun v acc => max acc (m_load K w v)) n v x ≤ 4096 := by
    intro n
    induction n with
    | zero => intro v x h1 h2; exact ⟨h1, h2⟩
    | succ n ih =>
      intro v x h1 h2
      have hl := m_load_in hS hK (v := v)
      exact ih (v + 1) (max x (m_load K w v)) (by omega) (by omega)
  exact this n v 0 (by omega) (by omega)
theorem m_mul_in (hK : WK K) {x : Int} (h0 : 0 ≤ x) (h1 : x ≤ 4096) : 0 ≤ x * K 0 3 ∧ x * K 0 3 ≤ 405504 ∧ 0 ≤ x * K 0 3 * (100 + K 10 0) ∧ x * K 0 3 * (100 + K 10 0) ≤ 81100800 := by
  have hn := hK.n
  have hr := hK.r
  have h2 : 0 ≤ x * K 0 3 := Int.mul_nonneg h0 (by omega)
  have h3 : x * K 0 3 ≤ 4096 * 99 := Int.mul_le_mul h1 (by omega) (by omega) (by omega)
  have h4 : 0 ≤ x * K 0 3 * (100 + K 10 0) := Int.mul_nonneg h2 (by omega)
  have h5 : x * K 0 3 * (100 + K 10 0) ≤ 405504 * 200 := Int.mul_le_mul (by omega) (by omega) (by omega) (by omega)
  exact ⟨h2, by omega, h4, by omega⟩
theorem m_need_in (hS : WS K w) (hK : WK K) {c : Int} : 0 ≤ m_need K w c ∧ m_need K w c ≤ 793 := by
  have hm := m_most_in hS hK (c := c)
  have h := m_mul_in hK hm.1 hm.2
  unfold m_need
  rw [Int.tdiv_eq_ediv_of_nonneg (by omega)]
  omega
theorem m_want_in (hK : WK K) {c : Int} (h0 : 0 ≤ c) (h1 : c < K 0 0) : 0 ≤ m_want K w c ∧ m_want K w c < K 4 c.toNat := by
  have hc := hK.c h0 h1
  have hp := m_pf_in hK h0 h1 (need := m_need K w c)
  unfold m_want
  split
  · omega
  · rename_i h
    have : m_pf K c (m_need K w c) ≠ K 4 c.toNat := fun e => h (Or.inr e)
    omega
-- the class
theorem C_lowOf (hR : RS σ a K w tr th) (hS : WS K w) (ht : 0 ≤ th) {c : Int} (hp : 1 ≤ K 4 c.toNat) : f_X7_lowOf a c σ = some (m_low w c) := by
  have hn := hS.n
  have st : ∀ k v acc, v < w 44 → (0 ≤ v ∧ 0 ≤ acc) → f_X7_lowOf_4 (k + 1) a c acc v σ = f_X7_lowOf_4 k a c (if w (47 + 5 * v).toNat = c then max acc (w (48 + 5 * v).toNat) else acc) (v + 1) σ ∧ (0 ≤ v + 1 ∧ 0 ≤ (if w (47 + 5 * v).toNat = c then max acc (w (48 + 5 * v).toNat) else acc)) := by
    intro k v acc hv hp
    have hk := hS.k hp.1 hv
    refine ⟨?_, by omega, by split <;> omega⟩
    rw [f_X7_lowOf_4]
    by_cases e : tr = -1 <;> by_cases q : w (47 + 5 * v).toNat = c <;> simp (disch := first | assumption | omega) only [if_true, if_false, zid, zlid, if_pos, if_neg, u2_e, u2_c, u2_i, u1_e, u1_i, Option.bind_some, hR.n4, hR.k10, hR.k11]
  have sp : ∀ k acc, (0 ≤ w 44 ∧ 0 ≤ acc) → f_X7_lowOf_4 (k + 2) a c acc (w 44) σ = some acc := by
    intro k acc hp
    rw [f_X7_lowOf_4]
    by_cases e : tr = -1
    · simp (disch := first | assumption | omega) only [if_true, if_false, zid, zlid, if_pos, if_neg, u2_e, u2_c, u2_i, u1_e, u1_i, Option.bind_some, hR.n4]
    · obtain ⟨x1, x2, x3, x4⟩ := hR.x e
      by_cases q : tr = c <;> simp (disch := first | assumption | omega) only [if_true, if_false, zid, zlid, if_pos, if_neg, u2_e, u2_c, u2_i, u1_e, u1_i, Option.bind_some, f_X7_lowOf_4, hR.n4, x2, x3]
      rw [show max acc 0 = acc from by omega]
  have h := iter_loop (F := fun k v acc => f_X7_lowOf_4 (k + 1) a c acc v σ) (hi := w 44) (fin := some) (fun v acc => 0 ≤ v ∧ 0 ≤ acc) (fun k v acc => st (k + 1) v acc) (fun k acc => sp k acc) (w 44).toNat 99999 0 0 (by omega) (by omega) ⟨by omega, by omega⟩
  unfold f_X7_lowOf m_low
  exact h.1
theorem C_highOf {a1 : Nat} (hR : RS σ a K w tr th) (hC : RC σ a1 K) (hK : WK K) (hS : WS K w) (ht : 0 ≤ th) {c : Int} (h0 : 0 ≤ c) (h1 : c < K 0 0) : f_X7_highOf a a1 c σ = some (m_high K w tr th c) := by
  have hn := hS.n
  have hkn := hK.n
  have hc := hK.c h0 h1
  have st : ∀ k v acc, v < w 44 → 0 ≤ v → f_X7_highOf_24 (k + 1) a c acc v σ = f_X7_highOf_24 k a c (if w (47 + 5 * v).toNat = c then min acc (w (49 + 5 * v).toNat) else acc) (v + 1) σ ∧ (0 ≤ v + 1) := by
    intro k v acc hv hp
    have hk := hS.k hp hv
    refine ⟨?_, by omega⟩
    rw [f_X7_highOf_24]
    by_cases e : tr = -1 <;> by_cases q : w (47 + 5 * v).toNat = c <;> simp (disch := first | assumption | omega) only [if_true, if_false, zid, zlid, if_pos, if_neg, u2_e, u2_c, u2_i, u1_e, u1_i, Option.bind_some, hR.n4, hR.k10, hR.k12]
  have sp : ∀ k acc, 0 ≤ w 44 → f_X7_highOf_24 (k + 2) a c acc (w 44) σ = some (if c = tr ∧ th < acc then th else acc) := by
    intro k acc hp
    rw [f_X7_highOf_24]
    by_cases e : tr = -1
    · simp (disch := first | assumption | omega) only [if_true, if_false, zid, zlid, if_pos, if_neg, u2_e, u2_c, u2_i, u1_e, u1_i, Option.bind_some, hR.n4]
    · obtain ⟨x1, x2, x3, x4⟩ := hR.x e
      by_cases q : tr = c
      · by_cases q2 : th < acc <;> simp (disch := first | assumption | omega) only [if_true, if_false, zid, zlid, if_pos, if_neg, u2_e, u2_c, u2_i, u1_e, u1_i, Option.bind_some, f_X7_highOf_24, hR.n4, x2, x4]
        · rw [show min acc th = th from by omega]
        · rw [show min acc th = acc from by omega]
      · simp (disch := first | assumption | omega) only [if_true, if_false, zid, zlid, if_pos, if_neg, u2_e, u2_c, u2_i, u1_e, u1_i, Option.bind_some, f_X7_highOf_24, hR.n4, x2, x4]
  have h := iter_loop (F := fun k v acc => f_X7_highOf_24 (k + 1) a c acc v σ) (hi := w 44) (fin := fun acc => some (if c = tr ∧ th < acc then th else acc)) (fun v acc => 0 ≤ v) (fun k v acc => st (k + 1) v acc) (fun k acc => sp k acc) (w 44).toNat 99999 0 (K 4 c.toNat - 1) (by omega) (by omega) (by omega)
  unfold f_X7_highOf m_high m_highL
  simp (disch := first | assumption | omega) only [if_true, if_false, zid, zlid, if_pos, if_neg, u2_e, u2_c, u2_i, u1_e, u1_i, Option.bind_some, C_hasCluster_y hC, hC.c5]
  exact h.1
theorem C_askOf (hR : RS σ a K w (-1) th) (hS : WS K w) {nm c : Int} : f_X7_askOf a nm c σ = some (m_ask w nm c) := by
  have hn := hS.n
  have st : ∀ (n k : Nat) (v : Int), 0 ≤ v → v + n = w 44 → n < k → f_X7_askOf_3 k a nm c v σ = some (m_askL w nm c n v) := by
    intro n
    induction n with
    | zero =>
      intro k v hp hq hk
      obtain ⟨k, rfl⟩ : ∃ j, k = j + 1 := ⟨k - 1, by omega⟩
      rw [f_X7_askOf_3]
      unfold m_askL
      simp (disch := first | assumption | omega) only [if_true, if_false, zid, zlid, if_pos, if_neg, u2_e, u2_c, u2_i, u1_e, u1_i, Option.bind_some, hR.n4]
    | succ n ih =>
      intro k v hp hq hk
      obtain ⟨k, rfl⟩ : ∃ j, k = j + 1 := ⟨k - 1, by omega⟩
      rw [f_X7_askOf_3]
      unfold m_askL
      by_cases e : m_nm w v = nm <;> by_cases q : w (47 + 5 * v).toNat = c <;> simp (disch := first | assumption | omega) only [if_true, if_false, zid, zlid, if_pos, if_neg, u2_e, u2_c, u2_i, u1_e, u1_i, Option.bind_some, hR.n4, hR.k9, hR.k10, z_cmp_0]
      all_goals exact ih k (v + 1) (by omega) (by omega) (by omega)
  unfold f_X7_askOf m_ask
  exact st (w 44).toNat 100000 0 (by omega) (by omega) (by omega)
/-- the one more that asks is asked for by nobody's name -/
theorem C_askOf_x (hR : RS σ a K w (-1) th) (hS : WS K w) {c : Int} : f_X7_askOf a 0 c σ = some (-1) := by
  rw [C_askOf hR hS]
  rcases m_ask_in hS (nm := 0) (c := c) with h | h
  · rw [h]
  · exact absurd h.2.2.1 (hS.k h.1 h.2.1).2.2.2.2.2.1
theorem C_loadOn {a1 : Nat} (hR : RS σ a K w tr th) (hC : RC σ a1 K) (hK : WK K) (hS : WS K w) {v : Int} : f_X2_loadOn a1 a v σ = some (m_load K w v) := by
  have hkn := hK.n
  have st : ∀ k t acc, t < K 0 1 → (0 ≤ t ∧ 0 ≤ acc ∧ acc ≤ 1024 * t) → f_X2_loadOn_6 (k + 1) a1 a v acc t σ = f_X2_loadOn_6 k a1 a v (if w (21 + t).toNat = v then acc + w (29 + t).toNat else acc) (t + 1) σ ∧ (0 ≤ t + 1 ∧ 0 ≤ (if w (21 + t).toNat = v then acc + w (29 + t).toNat else acc) ∧ (if w (21 + t).toNat = v then acc + w (29 + t).toNat else acc) ≤ 1024 * (t + 1)) := by
    intro k t acc ht hp
    have hx := hS.t hp.1 ht
    refine ⟨?_, by omega, by split <;> omega⟩
    rw [f_X2_loadOn_6]
    by_cases q : w (21 + t).toNat = v <;> simp (disch := first | assumption | omega) only [if_true, if_false, zid, zlid, if_pos, if_neg, u2_e, u2_c, u2_i, u1_e, u1_i, Option.bind_some, hC.n1, hR.t1, hR.t3]
    rw [Int.add_zero]
  have h := iter_loop (F := fun k t acc => f_X2_loadOn_6 k a1 a v acc t σ) (hi := K 0 1) (fin := some) (fun t acc => 0 ≤ t ∧ 0 ≤ acc ∧ acc ≤ 1024 * t) st (fun k acc hp => by
    show f_X2_loadOn_6 (k + 1) a1 a v acc (K 0 1) σ = _
    rw [f_X2_loadOn_6]
    simp (disch := first | assumption | omega) only [if_true, if_false, zid, zlid, if_pos, if_neg, u2_e, u2_c, u2_i, u1_e, u1_i, Option.bind_some, hC.n1]) (K 0 1).toNat 100000 0 0 (by omega) (by omega) ⟨by omega, by omega, by omega⟩
  unfold f_X2_loadOn m_load
  exact h.1
theorem C_needOf {a1 : Nat} (hR : RS σ a K w tr th) (hC : RC σ a1 K) (hK : WK K) (hS : WS K w) {c : Int} (h0 : 0 ≤ c) (h1 : c < K 0 0) : f_X2_needOf a1 a c σ = some (m_need K w c) := by
  have hkn := hK.n
  have hr := hK.r
  have hf := hK.first h0 h1
  have hc := hK.c h0 h1
  have st : ∀ k v acc, v < K 0 2 → (0 ≤ v ∧ 0 ≤ acc ∧ acc ≤ 4096) → f_X2_needOf_6 (k + 1) a1 a c acc v σ = f_X2_needOf_6 k a1 a c (if K 7 v.toNat = c then max acc (m_load K w v) else acc) (v + 1) σ ∧ (0 ≤ v + 1 ∧ 0 ≤ (if K 7 v.toNat = c then max acc (m_load K w v) else acc) ∧ (if K 7 v.toNat = c then max acc (m_load K w v) else acc) ≤ 4096) := by
    intro k v acc hv hp
    have hl := m_load_in hS hK (v := v)
    refine ⟨?_, by omega, by split <;> omega⟩
    rw [f_X2_needOf_6_e]
    by_cases q : K 7 v.toNat = c <;> simp (disch := first | assumption | omega) only [if_true, if_false, zid, zlid, if_pos, if_neg, u2_e, u2_c, u2_i, u1_e, u1_i, Option.bind_some, hC.n2, hC.v14, C_loadOn hR hC hK hS]
  have h := iter_loop (F := fun k v acc => f_X2_needOf_6 k a1 a c acc v σ) (hi := K 0 2) (fin := fun acc => some (Int.tdiv (acc * K 0 3 * (100 + K 10 0) + 102399) 102400)) (fun v acc => 0 ≤ v ∧ 0 ≤ acc ∧ acc ≤ 4096) st (fun k acc hp => by
    show f_X2_needOf_6 (k + 1) a1 a c acc (K 0 2) σ = _
    have hm := m_mul_in hK hp.2.1 hp.2.2
    rw [f_X2_needOf_6_e]
    unfold f_X11_roundedUp
    simp (disch := first | assumption | omega) only [if_true, if_false, zid, zlid, if_pos, if_neg, u2_e, u2_c, u2_i, u1_e, u1_i, Option.bind_some, hC.n2, hC.n3, hC.r0]
    rw [show acc * K 0 3 * (100 + K 10 0) + 102400 - 1 = acc * K 0 3 * (100 + K 10 0) + 102399 from by omega]
    rw [zid]
    · rw [Int.tdiv_eq_ediv_of_nonneg (by omega)]
      omega
    · rw [Int.tdiv_eq_ediv_of_nonneg (by omega)]
      omega) (K 0 2).toNat 100000 0 0 (by omega) (by omega) ⟨by omega, by omega, by omega⟩
  unfold f_X2_needOf
  rw [h.1]
  unfold m_need m_most
  rw [iter_guard (X := fun v acc => max acc (m_load K w v)) (m_first K c) (K 1 c.toNat).toNat (K 0 2).toNat hf.1 (by omega) (fun v acc h2 h3 => if_pos ((hK.of h0 h1 (by omega) (by omega)).mpr ⟨h2, by omega⟩)) (fun v acc h2 h3 h4 => if_neg (fun e => by
    have := (hK.of h0 h1 h2 (by omega)).mp e
    omega))]
theorem C_wantOf {a1 : Nat} (hR : RS σ a K w tr th) (hC : RC σ a1 K) (hK : WK K) (hS : WS K w) {c : Int} (h0 : 0 ≤ c) (h1 : c < K 0 0) : f_X2_wantOf a1 a c σ = some (m_want K w c) := by
  have hkn := hK.n
  have hc := hK.c h0 h1
  have hp := m_pf_in hK h0 h1 (need := m_need K w c)
  unfold f_X2_wantOf f_X2_wantOf_39 m_want
  simp (disch := first | assumption | omega) only [if_true, if_false, zid, zlid, if_pos, if_neg, u2_e, u2_c, u2_i, u1_e, u1_i, Option.bind_some, C_hasCluster_y hC, C_needOf hR hC hK hS, C_firstPointFor hC hK, hC.c5, hR.c7]
  by_cases e : m_pf K c (m_need K w c) = K 4 c.toNat
  · simp (disch := first | assumption | omega) only [if_true, if_false, zid, zlid, if_pos, if_neg, u2_e, u2_c, u2_i, u1_e, u1_i, Option.bind_some]
  · by_cases q : 0 < w (6 + c).toNat <;> simp (disch := first | assumption | omega) only [if_true, if_false, zid, zlid, if_pos, if_neg, u2_e, u2_c, u2_i, u1_e, u1_i, Option.bind_some]
theorem C_bit5 (hR : RS σ a K w tr th) (hK : WK K) {t : Int} (h0 : 0 ≤ t) (h1 : t < K 0 1) : f_X11_bitOf (σ a 5) t σ = some (w (37 + t).toNat) := by
  have hkn := hK.n
  unfold f_X11_bitOf
  simp (disch := first | assumption | omega) only [if_true, if_false, zid, zlid, if_pos, if_neg, u2_e, u2_c, u2_i, u1_e, u1_i, Option.bind_some]
  rw [hR.b5.bit (by omega) h0 h1, show 37 + t.toNat = (37 + t).toNat from by omega]
theorem C_bit6 (hR : RS σ a K w tr th) (hK : WK K) {v : Int} (h0 : 0 ≤ v) (h1 : v < K 0 2) : f_X11_bitOf (σ a 6) v σ = some (w (9 + v).toNat) := by
  have hkn := hK.n
  unfold f_X11_bitOf
  simp (disch := first | assumption | omega) only [if_true, if_false, zid, zlid, if_pos, if_neg, u2_e, u2_c, u2_i, u1_e, u1_i, Option.bind_some]
  rw [hR.b6.bit (by omega) h0 h1, show 9 + v.toNat = (9 + v).toNat from by omega]
theorem C_isStopped (hR : RS σ a K w tr th) (hK : WK K) (hS : WS K w) {t : Int} (h0 : 0 ≤ t) (h1 : t < K 0 1) : f_X7_isStopped a t σ = some (w (37 + t).toNat) := by
  have hx := hS.t h0 h1
  unfold f_X7_isStopped
  rw [C_bit5 hR hK h0 h1]
  rcases hx.2.2.2.2.2.2.2.2 with e | e <;> rw [e] <;> rfl
theorem C_isAsleep (hR : RS σ a K w tr th) (hK : WK K) (hS : WS K w) {v : Int} (h0 : 0 ≤ v) (h1 : v < K 0 2) : f_X7_isAsleep a v σ = some (w (9 + v).toNat) := by
  have hx := hS.v h0 h1
  unfold f_X7_isAsleep
  rw [C_bit6 hR hK h0 h1]
  rcases hx with e | e <;> rw [e] <;> rfl
end S_Q1
