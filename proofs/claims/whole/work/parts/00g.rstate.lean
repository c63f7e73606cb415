-- the same questions put to the reference; a row of memory laid anew
def setR (σ : Nat → Nat → Int) (b : Nat) (w : Nat → Int) : Nat → Nat → Int := fun c => if c = b then w else σ c
theorem setR_s {σ : Nat → Nat → Int} {b : Nat} {w : Nat → Int} : setR σ b w b = w := if_pos rfl
theorem setR_n {σ : Nat → Nat → Int} {b c : Nat} {w : Nat → Int} (h : c ≠ b) : setR σ b w c = σ c := if_neg h
theorem setR_si {σ : Nat → Nat → Int} {b i : Nat} {w : Nat → Int} : setR σ b w b i = w i := by rw [setR_s]
theorem setR_ni {σ : Nat → Nat → Int} {b c i : Nat} {w : Nat → Int} (h : c ≠ b) : setR σ b w c i = σ c i := by rw [setR_n h]
theorem setR_u {σ : Nat → Nat → Int} {b i : Nat} {w : Nat → Int} {v : Int} : u2 (setR σ b w) b i v = setR σ b (u1 w i v) := by
  funext c j
  unfold u2 setR u1
  by_cases h : c = b <;> by_cases h2 : j = i <;> simp [h, h2]
theorem setR_un {σ : Nat → Nat → Int} {b c i : Nat} {w : Nat → Int} {v : Int} (h : c ≠ b) : u2 (setR σ b w) c i v = setR (u2 σ c i v) b w := by
  funext d j
  unfold u2 setR
  by_cases h2 : d = b
  · subst h2
    rw [if_neg (fun q => h q.1.symm), if_pos rfl, if_pos rfl]
  · simp [h2]
theorem setR_id {σ : Nat → Nat → Int} {b : Nat} : setR σ b (σ b) = σ := by
  funext c
  unfold setR
  by_cases h : c = b
  · rw [if_pos h, h]
  · rw [if_neg h]
theorem u2_setR {σ : Nat → Nat → Int} {b i : Nat} {v : Int} : u2 σ b i v = setR σ b (u1 (σ b) i v) := by
  rw [← setR_u, setR_id]
theorem setR_2 {σ : Nat → Nat → Int} {b : Nat} {w w' : Nat → Int} : setR (setR σ b w) b w' = setR σ b w' := by
  funext c
  unfold setR
  by_cases h : c = b <;> simp [h]
theorem setR_c {σ : Nat → Nat → Int} {b c : Nat} {w d : Nat → Int} (h : b ≠ c) : setR (setR σ b w) c d = setR (setR σ c d) b w := by
  funext e
  unfold setR
  by_cases h1 : e = c <;> by_cases h2 : e = b
  · exact absurd (h2.symm.trans h1) h
  · simp [h1, Ne.symm h]
  · simp [h2, h]
  · simp [h1, h2]
theorem u1_2 {w : Nat → Int} {i : Nat} {v v' : Int} : u1 (u1 w i v) i v' = u1 w i v' := by
  funext j
  unfold u1
  by_cases h : j = i <;> simp [h]
theorem RM.set {σ K : Nat → Nat → Int} {b : Nat} {w : Nat → Int} (h : RM σ K) (hb : 773 ≤ b) : RM (setR σ b w) K := h.frame (fun c hc => setR_n (by omega)) (fun j _ => setR_ni (by omega))
section S_Q2
variable {σ K : Nat → Nat → Int} {a b : Nat} {w : Nat → Int} {tr th : Int}
theorem R_lowOf (hS : WS K (σ b)) {c : Int} (hp : 1 ≤ K 4 c.toNat) : f_X12_lowOf b c σ = some (m_low (σ b) c) := by
  have hn := hS.n
  have st : ∀ k v acc, v < σ b 44 → (0 ≤ v ∧ 0 ≤ acc) → f_X12_lowOf_5 (k + 1) b c acc v σ = f_X12_lowOf_5 k b c (if σ b (47 + 5 * v).toNat = c then max acc (σ b (48 + 5 * v).toNat) else acc) (v + 1) σ ∧ (0 ≤ v + 1 ∧ 0 ≤ (if σ b (47 + 5 * v).toNat = c then max acc (σ b (48 + 5 * v).toNat) else acc)) := by
    intro k v acc hv hp
    have hk := hS.k hp.1 hv
    refine ⟨?_, by omega, by split <;> omega⟩
    rw [f_X12_lowOf_5]
    by_cases q : σ b (47 + 5 * v).toNat = c <;> by_cases q2 : σ b (48 + 5 * v).toNat ≤ acc <;> simp (disch := first | assumption | omega) only [if_true, if_false, zid, zlid, if_pos, if_neg, u2_e, u2_c, u2_i, u1_e, u1_i, Option.bind_some]
    · rw [show max acc (σ b (48 + 5 * v).toNat) = acc from by omega]
    · rw [show max acc (σ b (48 + 5 * v).toNat) = σ b (48 + 5 * v).toNat from by omega]
  have h := iter_loop (F := fun k v acc => f_X12_lowOf_5 k b c acc v σ) (hi := σ b 44) (fin := some) (fun v acc => 0 ≤ v ∧ 0 ≤ acc) st (fun k acc hp => by
    show f_X12_lowOf_5 (k + 1) b c acc (σ b 44) σ = _
    rw [f_X12_lowOf_5]
    simp (disch := first | assumption | omega) only [if_true, if_false, zid, zlid, if_pos, if_neg, u2_e, u2_c, u2_i, u1_e, u1_i, Option.bind_some]) (σ b 44).toNat 100000 0 0 (by omega) (by omega) ⟨by omega, by omega⟩
  unfold f_X12_lowOf m_low
  exact h.1
theorem R_highOf (hM : RM σ K) (hK : WK K) (hS : WS K (σ b)) (h38 : σ 758 38 = tr) (h39 : σ 758 39 = th) {c : Int} (h0 : 0 ≤ c) (h1 : c < K 0 0) : f_X12_highOf b c σ = some (m_high K (σ b) tr th c) := by
  have hn := hS.n
  have hkn := hK.n
  have st : ∀ k v acc, v < σ b 44 → (0 ≤ v) → f_X12_highOf_9 (k + 1) b c acc v σ = f_X12_highOf_9 k b c (if σ b (47 + 5 * v).toNat = c then min acc (σ b (49 + 5 * v).toNat) else acc) (v + 1) σ ∧ (0 ≤ v + 1) := by
    intro k v acc hv hp
    have hk := hS.k hp hv
    refine ⟨?_, by omega⟩
    rw [f_X12_highOf_9]
    by_cases q : σ b (47 + 5 * v).toNat = c <;> by_cases q2 : acc ≤ σ b (49 + 5 * v).toNat <;> simp (disch := first | assumption | omega) only [if_true, if_false, zid, zlid, if_pos, if_neg, u2_e, u2_c, u2_i, u1_e, u1_i, Option.bind_some]
    · rw [show min acc (σ b (49 + 5 * v).toNat) = acc from by omega]
    · rw [show min acc (σ b (49 + 5 * v).toNat) = σ b (49 + 5 * v).toNat from by omega]
  have h := iter_loop (F := fun k v acc => f_X12_highOf_9 k b c acc v σ) (hi := σ b 44) (fin := fun acc => some (if c = tr ∧ th < acc then th else acc)) (fun v acc => 0 ≤ v) st (fun k acc hp => by
    show f_X12_highOf_9 (k + 1) b c acc (σ b 44) σ = _
    rw [f_X12_highOf_9, h38, h39]
    by_cases q : c = tr <;> by_cases q2 : acc ≤ th <;> simp (disch := first | assumption | omega) only [if_true, if_false, zid, zlid, if_pos, if_neg, u2_e, u2_c, u2_i, u1_e, u1_i, Option.bind_some]) (σ b 44).toNat 100000 0 (K 4 c.toNat - 1) (by omega) (by omega) (by omega)
  unfold f_X12_highOf m_high m_highL
  rw [R_lastPoint hM hK h0 h1]
  exact h.1
theorem R_bounded (hM : RM σ K) (hK : WK K) (hS : WS K (σ b)) (h38 : σ 758 38 = tr) (h39 : σ 758 39 = th) {c p : Int} (h0 : 0 ≤ c) (h1 : c < K 0 0) : f_X12_bounded b c p σ = some (m_bounded K (σ b) tr th c p) := by
  have hc := hK.c h0 h1
  unfold f_X12_bounded f_X12_bounded_20 m_bounded
  simp (disch := first | assumption | omega) only [if_true, if_false, zid, zlid, if_pos, if_neg, u2_e, u2_c, u2_i, u1_e, u1_i, Option.bind_some, R_lowOf hS, R_highOf hM hK hS h38 h39]
  by_cases q : m_low (σ b) c ≤ p
  · by_cases q2 : p ≤ m_high K (σ b) tr th c <;> simp (disch := first | assumption | omega) only [if_true, if_false, zid, zlid, if_pos, if_neg, u2_e, u2_c, u2_i, u1_e, u1_i, Option.bind_some]
    · rw [show min (max p (m_low (σ b) c)) (m_high K (σ b) tr th c) = p from by omega]
    · rw [show min (max p (m_low (σ b) c)) (m_high K (σ b) tr th c) = m_high K (σ b) tr th c from by omega]
  · by_cases q2 : m_low (σ b) c ≤ m_high K (σ b) tr th c <;> simp (disch := first | assumption | omega) only [if_true, if_false, zid, zlid, if_pos, if_neg, u2_e, u2_c, u2_i, u1_e, u1_i, Option.bind_some]
    · rw [show min (max p (m_low (σ b) c)) (m_high K (σ b) tr th c) = m_low (σ b) c from by omega]
    · rw [show min (max p (m_low (σ b) c)) (m_high K (σ b) tr th c) = m_high K (σ b) tr th c from by omega]
theorem R_nameOf {k : Int} (h0 : 0 ≤ k) (h1 : k < 40) : f_X12_nameOf b k σ = some (m_nm (σ b) k) := by
  unfold f_X12_nameOf m_nm
  simp (disch := first | assumption | omega) only [if_true, if_false, zid, zlid, if_pos, if_neg, u2_e, u2_c, u2_i, u1_e, u1_i, Option.bind_some]
theorem R_askOf (hS : WS K (σ b)) {nm c : Int} : f_X12_askOf b nm c σ = some (m_ask (σ b) nm c) := by
  have hn := hS.n
  have st : ∀ (n k : Nat) (v : Int), 0 ≤ v → v + n = σ b 44 → n < k → f_X12_askOf_3 k b nm c v σ = some (m_askL (σ b) nm c n v) := by
    intro n
    induction n with
    | zero =>
      intro k v hp hq hk
      obtain ⟨k, rfl⟩ : ∃ j, k = j + 1 := ⟨k - 1, by omega⟩
      rw [f_X12_askOf_3]
      unfold m_askL
      simp (disch := first | assumption | omega) only [if_true, if_false, zid, zlid, if_pos, if_neg, u2_e, u2_c, u2_i, u1_e, u1_i, Option.bind_some]
    | succ n ih =>
      intro k v hp hq hk
      obtain ⟨k, rfl⟩ : ∃ j, k = j + 1 := ⟨k - 1, by omega⟩
      rw [f_X12_askOf_3]
      unfold m_askL
      by_cases e : m_nm (σ b) v = nm <;> by_cases q : σ b (47 + 5 * v).toNat = c <;> simp (disch := first | assumption | omega) only [if_true, if_false, zid, zlid, if_pos, if_neg, u2_e, u2_c, u2_i, u1_e, u1_i, Option.bind_some, R_nameOf, z_cmp_0]
      all_goals exact ih k (v + 1) (by omega) (by omega) (by omega)
  unfold f_X12_askOf m_ask
  exact st (σ b 44).toNat 100000 0 (by omega) (by omega) (by omega)
theorem R_loadOn (hM : RM σ K) (hK : WK K) (hS : WS K (σ b)) {v : Int} : f_X12_loadOn b v σ = some (m_load K (σ b) v) := by
  have hkn := hK.n
  have st : ∀ k t acc, t < K 0 1 → (0 ≤ t ∧ 0 ≤ acc ∧ acc ≤ 1024 * t) → f_X12_loadOn_5 (k + 1) b v acc t σ = f_X12_loadOn_5 k b v (if σ b (21 + t).toNat = v then acc + σ b (29 + t).toNat else acc) (t + 1) σ ∧ (0 ≤ t + 1 ∧ 0 ≤ (if σ b (21 + t).toNat = v then acc + σ b (29 + t).toNat else acc) ∧ (if σ b (21 + t).toNat = v then acc + σ b (29 + t).toNat else acc) ≤ 1024 * (t + 1)) := by
    intro k t acc ht hp
    have hx := hS.t hp.1 ht
    refine ⟨?_, by omega, by split <;> omega⟩
    rw [f_X12_loadOn_5]
    by_cases q : σ b (21 + t).toNat = v <;> simp (disch := first | assumption | omega) only [if_true, if_false, zid, zlid, if_pos, if_neg, u2_e, u2_c, u2_i, u1_e, u1_i, Option.bind_some, hM.n1]
    rw [Int.add_zero]
  have h := iter_loop (F := fun k t acc => f_X12_loadOn_5 k b v acc t σ) (hi := K 0 1) (fin := some) (fun t acc => 0 ≤ t ∧ 0 ≤ acc ∧ acc ≤ 1024 * t) st (fun k acc hp => by
    show f_X12_loadOn_5 (k + 1) b v acc (K 0 1) σ = _
    rw [f_X12_loadOn_5]
    simp (disch := first | assumption | omega) only [if_true, if_false, zid, zlid, if_pos, if_neg, u2_e, u2_c, u2_i, u1_e, u1_i, Option.bind_some, hM.n1]) (K 0 1).toNat 100000 0 0 (by omega) (by omega) ⟨by omega, by omega, by omega⟩
  unfold f_X12_loadOn m_load
  exact h.1
theorem R_needOf (hM : RM σ K) (hK : WK K) (hS : WS K (σ b)) {c : Int} (h0 : 0 ≤ c) (h1 : c < K 0 0) : f_X12_needOf b c σ = some (m_need K (σ b) c) := by
  have hkn := hK.n
  have hr := hK.r
  have hf := hK.first h0 h1
  have hc := hK.c h0 h1
  have st : ∀ k v acc, v < m_first K c + K 1 c.toNat → (0 ≤ v ∧ 0 ≤ acc ∧ acc ≤ 4096) → f_X12_needOf_9 (k + 1) b c acc v σ = f_X12_needOf_9 k b c (max acc (m_load K (σ b) v)) (v + 1) σ ∧ (0 ≤ v + 1 ∧ 0 ≤ max acc (m_load K (σ b) v) ∧ max acc (m_load K (σ b) v) ≤ 4096) := by
    intro k v acc hv hp
    have hl := m_load_in hS hK (v := v)
    refine ⟨?_, by omega, by omega, by omega⟩
    rw [f_X12_needOf_9]
    by_cases q : m_load K (σ b) v ≤ acc <;> simp (disch := first | assumption | omega) only [if_true, if_false, zid, zlid, if_pos, if_neg, u2_e, u2_c, u2_i, u1_e, u1_i, Option.bind_some, R_firstCore hM hK, hM.c0, R_loadOn hM hK hS]
    · rw [show max acc (m_load K (σ b) v) = acc from by omega]
    · rw [show max acc (m_load K (σ b) v) = m_load K (σ b) v from by omega]
  have h := iter_loop (F := fun k v acc => f_X12_needOf_9 k b c acc v σ) (hi := m_first K c + K 1 c.toNat) (fin := fun acc => some (Int.tdiv (acc * K 0 3 * (100 + K 10 0) + 102399) 102400)) (fun v acc => 0 ≤ v ∧ 0 ≤ acc ∧ acc ≤ 4096) st (fun k acc hp => by
    show f_X12_needOf_9 (k + 1) b c acc (m_first K c + K 1 c.toNat) σ = _
    have hm := m_mul_in hK hp.2.1 hp.2.2
    have ht : Int.tdiv (acc * K 0 3 * (100 + K 10 0) + 102399) 102400 = (acc * K 0 3 * (100 + K 10 0) + 102399) / 102400 := Int.tdiv_eq_ediv_of_nonneg (by omega)
    rw [f_X12_needOf_9]
    simp (disch := first | assumption | omega) only [if_true, if_false, zid, zlid, if_pos, if_neg, u2_e, u2_c, u2_i, u1_e, u1_i, Option.bind_some, R_firstCore hM hK, hM.c0, hM.n3, hM.r0]) (K 1 c.toNat).toNat 100000 (m_first K c) 0 (by omega) (by omega) ⟨by omega, by omega, by omega⟩
  unfold f_X12_needOf
  rw [R_firstCore hM hK h0 (by omega)]
  exact h.1
theorem R_wantOf (hM : RM σ K) (hK : WK K) (hS : WS K (σ b)) {c : Int} (h0 : 0 ≤ c) (h1 : c < K 0 0) : f_X12_wantOf b c σ = some (m_want K (σ b) c) := by
  have hkn := hK.n
  have hc := hK.c h0 h1
  have hp := m_pf_in hK h0 h1 (need := m_need K (σ b) c)
  unfold f_X12_wantOf f_X12_wantOf_30 m_want
  by_cases q : 0 < σ b (6 + c).toNat
  · simp (disch := first | assumption | omega) only [if_true, if_false, zid, zlid, if_pos, if_neg, u2_e, u2_c, u2_i, u1_e, u1_i, Option.bind_some, R_needOf hM hK hS, R_pointFor hM hK, R_lastPoint hM hK]
  · by_cases e : m_pf K c (m_need K (σ b) c) = K 4 c.toNat
    · simp (disch := first | assumption | omega) only [if_true, if_false, zid, zlid, if_pos, if_neg, u2_e, u2_c, u2_i, u1_e, u1_i, Option.bind_some, R_needOf hM hK hS, R_pointFor hM hK, R_lastPoint hM hK]
    · simp (disch := first | assumption | omega) only [if_true, if_false, zid, zlid, if_pos, if_neg, u2_e, u2_c, u2_i, u1_e, u1_i, Option.bind_some, R_needOf hM hK hS, R_pointFor hM hK, R_lastPoint hM hK]
end S_Q2
