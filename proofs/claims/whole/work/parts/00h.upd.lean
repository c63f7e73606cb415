-- a state with one number changed
section S_U
variable {σ K : Nat → Nat → Int} {a : Nat} {w : Nat → Int} {tr th : Int}
theorem m_nm_u1 {i : Nat} {v k : Int} (hi : i < 45) (hk : 0 ≤ k) : m_nm (u1 w i v) k = m_nm w k := by
  unfold m_nm
  rw [u1_i (by omega), u1_i (by omega)]
theorem m_low_c {w' : Nat → Int} (h : ∀ i, 44 ≤ i → w' i = w i) {c : Int} : m_low w' c = m_low w c := by
  unfold m_low
  rw [h 44 (by omega)]
  have : ∀ (n : Nat) (v x : Int), 0 ≤ v → iter (fun k acc => if w' (47 + 5 * k).toNat = c then max acc (w' (48 + 5 * k).toNat) else acc) n v x = iter (fun k acc => if w (47 + 5 * k).toNat = c then max acc (w (48 + 5 * k).toNat) else acc) n v x := by
    intro n
    induction n with
    | zero => intro v x _; rfl
    | succ n ih =>
      intro v x hv
      show iter _ n (v + 1) (if w' (47 + 5 * v).toNat = c then max x (w' (48 + 5 * v).toNat) else x) = iter _ n (v + 1) (if w (47 + 5 * v).toNat = c then max x (w (48 + 5 * v).toNat) else x)
      rw [h (47 + 5 * v).toNat (by omega), h (48 + 5 * v).toNat (by omega)]
      exact ih (v + 1) _ (by omega)
  exact this _ 0 0 (by omega)
theorem m_highL_c {w' : Nat → Int} (h : ∀ i, 44 ≤ i → w' i = w i) {c : Int} : m_highL K w' c = m_highL K w c := by
  unfold m_highL
  rw [h 44 (by omega)]
  have : ∀ (n : Nat) (v x : Int), 0 ≤ v → iter (fun k acc => if w' (47 + 5 * k).toNat = c then min acc (w' (49 + 5 * k).toNat) else acc) n v x = iter (fun k acc => if w (47 + 5 * k).toNat = c then min acc (w (49 + 5 * k).toNat) else acc) n v x := by
    intro n
    induction n with
    | zero => intro v x _; rfl
    | succ n ih =>
      intro v x hv
      show iter _ n (v + 1) (if w' (47 + 5 * v).toNat = c then min x (w' (49 + 5 * v).toNat) else x) = iter _ n (v + 1) (if w (47 + 5 * v).toNat = c then min x (w (49 + 5 * v).toNat) else x)
      rw [h (47 + 5 * v).toNat (by omega), h (49 + 5 * v).toNat (by omega)]
      exact ih (v + 1) _ (by omega)
  exact this _ 0 _ (by omega)
theorem m_high_c {w' : Nat → Int} (h : ∀ i, 44 ≤ i → w' i = w i) {c : Int} : m_high K w' tr th c = m_high K w tr th c := by
  unfold m_high
  rw [m_highL_c h]
theorem m_bounded_c {w' : Nat → Int} (h : ∀ i, 44 ≤ i → w' i = w i) {c p : Int} : m_bounded K w' tr th c p = m_bounded K w tr th c p := by
  unfold m_bounded
  rw [m_high_c h, m_low_c h]
theorem m_load_c {w' : Nat → Int} (h : ∀ i, 21 ≤ i → i < 25 → w' i = w i) (h2 : ∀ i, 29 ≤ i → i < 33 → w' i = w i) (hK : WK K) {v : Int} : m_load K w' v = m_load K w v := by
  have hn := hK.n
  unfold m_load
  have : ∀ (n : Nat) (t x : Int), 0 ≤ t → t + n ≤ 4 → iter (fun t acc => if w' (21 + t).toNat = v then acc + w' (29 + t).toNat else acc) n t x = iter (fun t acc => if w (21 + t).toNat = v then acc + w (29 + t).toNat else acc) n t x := by
    intro n
    induction n with
    | zero => intro t x _ _; rfl
    | succ n ih =>
      intro t x ht hb
      show iter _ n (t + 1) (if w' (21 + t).toNat = v then x + w' (29 + t).toNat else x) = iter _ n (t + 1) (if w (21 + t).toNat = v then x + w (29 + t).toNat else x)
      rw [h (21 + t).toNat (by omega) (by omega), h2 (29 + t).toNat (by omega) (by omega)]
      exact ih (t + 1) _ (by omega) (by omega)
  exact this _ 0 0 (by omega) (by omega)
theorem RS.t1_u (h : RS σ a K w tr th) {q : Int} (q0 : 0 ≤ q) (q1 : q < 4) (hK : K 0 1 ≤ 4) (hK0 : K 0 0 ≤ 3) (hK2 : K 0 2 ≤ 6) {x : Int} : RS (u2 σ (a + 1) q.toNat x) a K (u1 w (21 + q).toNat x) tr th := by
  obtain ⟨⟨n0, n1, n2, n4, n3⟩, b5, b6, ht, hc, hv, hk, hx⟩ := h
  refine ⟨⟨?_, ?_, ?_, ?_, ?_⟩, ?_, ?_, fun t h0 h1 => ?_, fun c' h0 h1 => ?_, fun v h0 h1 => ?_, fun k h0 h1 => ?_, fun h0 => ?_⟩
  · first
      | (simp (disch := first | assumption | omega) only [if_true, if_false, zid, zlid, if_pos, if_neg, u2_e, u2_c, u2_i, u1_e, u1_i, Option.bind_some]; exact n0)
      | (simp (disch := first | assumption | omega) only [if_true, if_false, zid, zlid, if_pos, if_neg, u2_e, u2_c, u2_i, u1_e, u1_i, Option.bind_some])
  · first
      | (simp (disch := first | assumption | omega) only [if_true, if_false, zid, zlid, if_pos, if_neg, u2_e, u2_c, u2_i, u1_e, u1_i, Option.bind_some]; exact n1)
      | (simp (disch := first | assumption | omega) only [if_true, if_false, zid, zlid, if_pos, if_neg, u2_e, u2_c, u2_i, u1_e, u1_i, Option.bind_some])
  · first
      | (simp (disch := first | assumption | omega) only [if_true, if_false, zid, zlid, if_pos, if_neg, u2_e, u2_c, u2_i, u1_e, u1_i, Option.bind_some]; exact n2)
      | (simp (disch := first | assumption | omega) only [if_true, if_false, zid, zlid, if_pos, if_neg, u2_e, u2_c, u2_i, u1_e, u1_i, Option.bind_some])
  · first
      | (simp (disch := first | assumption | omega) only [if_true, if_false, zid, zlid, if_pos, if_neg, u2_e, u2_c, u2_i, u1_e, u1_i, Option.bind_some]; exact n4)
      | (simp (disch := first | assumption | omega) only [if_true, if_false, zid, zlid, if_pos, if_neg, u2_e, u2_c, u2_i, u1_e, u1_i, Option.bind_some])
  · first
      | (simp (disch := first | assumption | omega) only [if_true, if_false, zid, zlid, if_pos, if_neg, u2_e, u2_c, u2_i, u1_e, u1_i, Option.bind_some]; exact n3)
      | (simp (disch := first | assumption | omega) only [if_true, if_false, zid, zlid, if_pos, if_neg, u2_e, u2_c, u2_i, u1_e, u1_i, Option.bind_some])
  · first | rw [u2_c (by omega)] | rw [u2_i (by omega)]
    exact b5.congr (fun i i0 i1 => u1_i (by omega))
  · first | rw [u2_c (by omega)] | rw [u2_i (by omega)]
    exact b6.congr (fun i i0 i1 => u1_i (by omega))
  · have hh := ht t h0 h1
    by_cases e : t = q
    · subst e
      first
        | (simp (disch := first | assumption | omega) only [if_true, if_false, zid, zlid, if_pos, if_neg, u2_e, u2_c, u2_i, u1_e, u1_i, Option.bind_some]; simp only [hh, and_self])
        | (simp (disch := first | assumption | omega) only [if_true, if_false, zid, zlid, if_pos, if_neg, u2_e, u2_c, u2_i, u1_e, u1_i, Option.bind_some]; simp only [hh])
        | (simp (disch := first | assumption | omega) only [if_true, if_false, zid, zlid, if_pos, if_neg, u2_e, u2_c, u2_i, u1_e, u1_i, Option.bind_some])
    · simp (disch := first | assumption | omega) only [if_true, if_false, zid, zlid, if_pos, if_neg, u2_e, u2_c, u2_i, u1_e, u1_i, Option.bind_some]
      exact hh
  · simp (disch := first | assumption | omega) only [if_true, if_false, zid, zlid, if_pos, if_neg, u2_e, u2_c, u2_i, u1_e, u1_i, Option.bind_some]
    exact hc c' h0 h1
  · simp (disch := first | assumption | omega) only [if_true, if_false, zid, zlid, if_pos, if_neg, u2_e, u2_c, u2_i, u1_e, u1_i, Option.bind_some]
    exact hv v h0 h1
  · rw [u1_i (by omega)] at h1
    rw [m_nm_u1 (by omega) h0]
    simp (disch := first | assumption | omega) only [if_true, if_false, zid, zlid, if_pos, if_neg, u2_e, u2_c, u2_i, u1_e, u1_i, Option.bind_some]
    exact hk k h0 h1
  · simp (disch := first | assumption | omega) only [if_true, if_false, zid, zlid, if_pos, if_neg, u2_e, u2_c, u2_i, u1_e, u1_i, Option.bind_some]
    exact hx h0
theorem RS.t2_u (h : RS σ a K w tr th) {q : Int} (q0 : 0 ≤ q) (q1 : q < 4) (hK : K 0 1 ≤ 4) (hK0 : K 0 0 ≤ 3) (hK2 : K 0 2 ≤ 6) {x : Int} : RS (u2 σ (a + 2) q.toNat x) a K (u1 w (25 + q).toNat x) tr th := by
  obtain ⟨⟨n0, n1, n2, n4, n3⟩, b5, b6, ht, hc, hv, hk, hx⟩ := h
  refine ⟨⟨?_, ?_, ?_, ?_, ?_⟩, ?_, ?_, fun t h0 h1 => ?_, fun c' h0 h1 => ?_, fun v h0 h1 => ?_, fun k h0 h1 => ?_, fun h0 => ?_⟩
  · first
      | (simp (disch := first | assumption | omega) only [if_true, if_false, zid, zlid, if_pos, if_neg, u2_e, u2_c, u2_i, u1_e, u1_i, Option.bind_some]; exact n0)
      | (simp (disch := first | assumption | omega) only [if_true, if_false, zid, zlid, if_pos, if_neg, u2_e, u2_c, u2_i, u1_e, u1_i, Option.bind_some])
  · first
      | (simp (disch := first | assumption | omega) only [if_true, if_false, zid, zlid, if_pos, if_neg, u2_e, u2_c, u2_i, u1_e, u1_i, Option.bind_some]; exact n1)
      | (simp (disch := first | assumption | omega) only [if_true, if_false, zid, zlid, if_pos, if_neg, u2_e, u2_c, u2_i, u1_e, u1_i, Option.bind_some])
  · first
      | (simp (disch := first | assumption | omega) only [if_true, if_false, zid, zlid, if_pos, if_neg, u2_e, u2_c, u2_i, u1_e, u1_i, Option.bind_some]; exact n2)
      | (simp (disch := first | assumption | omega) only [if_true, if_false, zid, zlid, if_pos, if_neg, u2_e, u2_c, u2_i, u1_e, u1_i, Option.bind_some])
  · first
      | (simp (disch := first | assumption | omega) only [if_true, if_false, zid, zlid, if_pos, if_neg, u2_e, u2_c, u2_i, u1_e, u1_i, Option.bind_some]; exact n4)
      | (simp (disch := first | assumption | omega) only [if_true, if_false, zid, zlid, if_pos, if_neg, u2_e, u2_c, u2_i, u1_e, u1_i, Option.bind_some])
  · first
      | (simp (disch := first | assumption | omega) only [if_true, if_false, zid, zlid, if_pos, if_neg, u2_e, u2_c, u2_i, u1_e, u1_i, Option.bind_some]; exact n3)
      | (simp (disch := first | assumption | omega) only [if_true, if_false, zid, zlid, if_pos, if_neg, u2_e, u2_c, u2_i, u1_e, u1_i, Option.bind_some])
  · first | rw [u2_c (by omega)] | rw [u2_i (by omega)]
    exact b5.congr (fun i i0 i1 => u1_i (by omega))
  · first | rw [u2_c (by omega)] | rw [u2_i (by omega)]
    exact b6.congr (fun i i0 i1 => u1_i (by omega))
  · have hh := ht t h0 h1
    by_cases e : t = q
    · subst e
      first
        | (simp (disch := first | assumption | omega) only [if_true, if_false, zid, zlid, if_pos, if_neg, u2_e, u2_c, u2_i, u1_e, u1_i, Option.bind_some]; simp only [hh, and_self])
        | (simp (disch := first | assumption | omega) only [if_true, if_false, zid, zlid, if_pos, if_neg, u2_e, u2_c, u2_i, u1_e, u1_i, Option.bind_some]; simp only [hh])
        | (simp (disch := first | assumption | omega) only [if_true, if_false, zid, zlid, if_pos, if_neg, u2_e, u2_c, u2_i, u1_e, u1_i, Option.bind_some])
    · simp (disch := first | assumption | omega) only [if_true, if_false, zid, zlid, if_pos, if_neg, u2_e, u2_c, u2_i, u1_e, u1_i, Option.bind_some]
      exact hh
  · simp (disch := first | assumption | omega) only [if_true, if_false, zid, zlid, if_pos, if_neg, u2_e, u2_c, u2_i, u1_e, u1_i, Option.bind_some]
    exact hc c' h0 h1
  · simp (disch := first | assumption | omega) only [if_true, if_false, zid, zlid, if_pos, if_neg, u2_e, u2_c, u2_i, u1_e, u1_i, Option.bind_some]
    exact hv v h0 h1
  · rw [u1_i (by omega)] at h1
    rw [m_nm_u1 (by omega) h0]
    simp (disch := first | assumption | omega) only [if_true, if_false, zid, zlid, if_pos, if_neg, u2_e, u2_c, u2_i, u1_e, u1_i, Option.bind_some]
    exact hk k h0 h1
  · simp (disch := first | assumption | omega) only [if_true, if_false, zid, zlid, if_pos, if_neg, u2_e, u2_c, u2_i, u1_e, u1_i, Option.bind_some]
    exact hx h0
theorem RS.t3_u (h : RS σ a K w tr th) {q : Int} (q0 : 0 ≤ q) (q1 : q < 4) (hK : K 0 1 ≤ 4) (hK0 : K 0 0 ≤ 3) (hK2 : K 0 2 ≤ 6) {x : Int} : RS (u2 σ (a + 3) q.toNat x) a K (u1 w (29 + q).toNat x) tr th := by
  obtain ⟨⟨n0, n1, n2, n4, n3⟩, b5, b6, ht, hc, hv, hk, hx⟩ := h
  refine ⟨⟨?_, ?_, ?_, ?_, ?_⟩, ?_, ?_, fun t h0 h1 => ?_, fun c' h0 h1 => ?_, fun v h0 h1 => ?_, fun k h0 h1 => ?_, fun h0 => ?_⟩
  · first
      | (simp (disch := first | assumption | omega) only [if_true, if_false, zid, zlid, if_pos, if_neg, u2_e, u2_c, u2_i, u1_e, u1_i, Option.bind_some]; exact n0)
      | (simp (disch := first | assumption | omega) only [if_true, if_false, zid, zlid, if_pos, if_neg, u2_e, u2_c, u2_i, u1_e, u1_i, Option.bind_some])
  · first
      | (simp (disch := first | assumption | omega) only [if_true, if_false, zid, zlid, if_pos, if_neg, u2_e, u2_c, u2_i, u1_e, u1_i, Option.bind_some]; exact n1)
      | (simp (disch := first | assumption | omega) only [if_true, if_false, zid, zlid, if_pos, if_neg, u2_e, u2_c, u2_i, u1_e, u1_i, Option.bind_some])
  · first
      | (simp (disch := first | assumption | omega) only [if_true, if_false, zid, zlid, if_pos, if_neg, u2_e, u2_c, u2_i, u1_e, u1_i, Option.bind_some]; exact n2)
      | (simp (disch := first | assumption | omega) only [if_true, if_false, zid, zlid, if_pos, if_neg, u2_e, u2_c, u2_i, u1_e, u1_i, Option.bind_some])
  · first
      | (simp (disch := first | assumption | omega) only [if_true, if_false, zid, zlid, if_pos, if_neg, u2_e, u2_c, u2_i, u1_e, u1_i, Option.bind_some]; exact n4)
      | (simp (disch := first | assumption | omega) only [if_true, if_false, zid, zlid, if_pos, if_neg, u2_e, u2_c, u2_i, u1_e, u1_i, Option.bind_some])
  · first
      | (simp (disch := first | assumption | omega) only [if_true, if_false, zid, zlid, if_pos, if_neg, u2_e, u2_c, u2_i, u1_e, u1_i, Option.bind_some]; exact n3)
      | (simp (disch := first | assumption | omega) only [if_true, if_false, zid, zlid, if_pos, if_neg, u2_e, u2_c, u2_i, u1_e, u1_i, Option.bind_some])
  · first | rw [u2_c (by omega)] | rw [u2_i (by omega)]
    exact b5.congr (fun i i0 i1 => u1_i (by omega))
  · first | rw [u2_c (by omega)] | rw [u2_i (by omega)]
    exact b6.congr (fun i i0 i1 => u1_i (by omega))
  · have hh := ht t h0 h1
    by_cases e : t = q
    · subst e
      first
        | (simp (disch := first | assumption | omega) only [if_true, if_false, zid, zlid, if_pos, if_neg, u2_e, u2_c, u2_i, u1_e, u1_i, Option.bind_some]; simp only [hh, and_self])
        | (simp (disch := first | assumption | omega) only [if_true, if_false, zid, zlid, if_pos, if_neg, u2_e, u2_c, u2_i, u1_e, u1_i, Option.bind_some]; simp only [hh])
        | (simp (disch := first | assumption | omega) only [if_true, if_false, zid, zlid, if_pos, if_neg, u2_e, u2_c, u2_i, u1_e, u1_i, Option.bind_some])
    · simp (disch := first | assumption | omega) only [if_true, if_false, zid, zlid, if_pos, if_neg, u2_e, u2_c, u2_i, u1_e, u1_i, Option.bind_some]
      exact hh
  · simp (disch := first | assumption | omega) only [if_true, if_false, zid, zlid, if_pos, if_neg, u2_e, u2_c, u2_i, u1_e, u1_i, Option.bind_some]
    exact hc c' h0 h1
  · simp (disch := first | assumption | omega) only [if_true, if_false, zid, zlid, if_pos, if_neg, u2_e, u2_c, u2_i, u1_e, u1_i, Option.bind_some]
    exact hv v h0 h1
  · rw [u1_i (by omega)] at h1
    rw [m_nm_u1 (by omega) h0]
    simp (disch := first | assumption | omega) only [if_true, if_false, zid, zlid, if_pos, if_neg, u2_e, u2_c, u2_i, u1_e, u1_i, Option.bind_some]
    exact hk k h0 h1
  · simp (disch := first | assumption | omega) only [if_true, if_false, zid, zlid, if_pos, if_neg, u2_e, u2_c, u2_i, u1_e, u1_i, Option.bind_some]
    exact hx h0
theorem RS.t4_u (h : RS σ a K w tr th) {q : Int} (q0 : 0 ≤ q) (q1 : q < 4) (hK : K 0 1 ≤ 4) (hK0 : K 0 0 ≤ 3) (hK2 : K 0 2 ≤ 6) {x : Int} : RS (u2 σ (a + 4) q.toNat x) a K (u1 w (33 + q).toNat x) tr th := by
  obtain ⟨⟨n0, n1, n2, n4, n3⟩, b5, b6, ht, hc, hv, hk, hx⟩ := h
  refine ⟨⟨?_, ?_, ?_, ?_, ?_⟩, ?_, ?_, fun t h0 h1 => ?_, fun c' h0 h1 => ?_, fun v h0 h1 => ?_, fun k h0 h1 => ?_, fun h0 => ?_⟩
  · first
      | (simp (disch := first | assumption | omega) only [if_true, if_false, zid, zlid, if_pos, if_neg, u2_e, u2_c, u2_i, u1_e, u1_i, Option.bind_some]; exact n0)
      | (simp (disch := first | assumption | omega) only [if_true, if_false, zid, zlid, if_pos, if_neg, u2_e, u2_c, u2_i, u1_e, u1_i, Option.bind_some])
  · first
      | (simp (disch := first | assumption | omega) only [if_true, if_false, zid, zlid, if_pos, if_neg, u2_e, u2_c, u2_i, u1_e, u1_i, Option.bind_some]; exact n1)
      | (simp (disch := first | assumption | omega) only [if_true, if_false, zid, zlid, if_pos, if_neg, u2_e, u2_c, u2_i, u1_e, u1_i, Option.bind_some])
  · first
      | (simp (disch := first | assumption | omega) only [if_true, if_false, zid, zlid, if_pos, if_neg, u2_e, u2_c, u2_i, u1_e, u1_i, Option.bind_some]; exact n2)
      | (simp (disch := first | assumption | omega) only [if_true, if_false, zid, zlid, if_pos, if_neg, u2_e, u2_c, u2_i, u1_e, u1_i, Option.bind_some])
  · first
      | (simp (disch := first | assumption | omega) only [if_true, if_false, zid, zlid, if_pos, if_neg, u2_e, u2_c, u2_i, u1_e, u1_i, Option.bind_some]; exact n4)
      | (simp (disch := first | assumption | omega) only [if_true, if_false, zid, zlid, if_pos, if_neg, u2_e, u2_c, u2_i, u1_e, u1_i, Option.bind_some])
  · first
      | (simp (disch := first | assumption | omega) only [if_true, if_false, zid, zlid, if_pos, if_neg, u2_e, u2_c, u2_i, u1_e, u1_i, Option.bind_some]; exact n3)
      | (simp (disch := first | assumption | omega) only [if_true, if_false, zid, zlid, if_pos, if_neg, u2_e, u2_c, u2_i, u1_e, u1_i, Option.bind_some])
  · first | rw [u2_c (by omega)] | rw [u2_i (by omega)]
    exact b5.congr (fun i i0 i1 => u1_i (by omega))
  · first | rw [u2_c (by omega)] | rw [u2_i (by omega)]
    exact b6.congr (fun i i0 i1 => u1_i (by omega))
  · have hh := ht t h0 h1
    by_cases e : t = q
    · subst e
      first
        | (simp (disch := first | assumption | omega) only [if_true, if_false, zid, zlid, if_pos, if_neg, u2_e, u2_c, u2_i, u1_e, u1_i, Option.bind_some]; simp only [hh, and_self])
        | (simp (disch := first | assumption | omega) only [if_true, if_false, zid, zlid, if_pos, if_neg, u2_e, u2_c, u2_i, u1_e, u1_i, Option.bind_some]; simp only [hh])
        | (simp (disch := first | assumption | omega) only [if_true, if_false, zid, zlid, if_pos, if_neg, u2_e, u2_c, u2_i, u1_e, u1_i, Option.bind_some])
    · simp (disch := first | assumption | omega) only [if_true, if_false, zid, zlid, if_pos, if_neg, u2_e, u2_c, u2_i, u1_e, u1_i, Option.bind_some]
      exact hh
  · simp (disch := first | assumption | omega) only [if_true, if_false, zid, zlid, if_pos, if_neg, u2_e, u2_c, u2_i, u1_e, u1_i, Option.bind_some]
    exact hc c' h0 h1
  · simp (disch := first | assumption | omega) only [if_true, if_false, zid, zlid, if_pos, if_neg, u2_e, u2_c, u2_i, u1_e, u1_i, Option.bind_some]
    exact hv v h0 h1
  · rw [u1_i (by omega)] at h1
    rw [m_nm_u1 (by omega) h0]
    simp (disch := first | assumption | omega) only [if_true, if_false, zid, zlid, if_pos, if_neg, u2_e, u2_c, u2_i, u1_e, u1_i, Option.bind_some]
    exact hk k h0 h1
  · simp (disch := first | assumption | omega) only [if_true, if_false, zid, zlid, if_pos, if_neg, u2_e, u2_c, u2_i, u1_e, u1_i, Option.bind_some]
    exact hx h0
theorem RS.c5_u (h : RS σ a K w tr th) {q : Int} (q0 : 0 ≤ q) (q1 : q < 3) (hK : K 0 1 ≤ 4) (hK0 : K 0 0 ≤ 3) (hK2 : K 0 2 ≤ 6) {x : Int} : RS (u2 σ (a + 5) q.toNat x) a K (u1 w q.toNat x) tr th := by
  obtain ⟨⟨n0, n1, n2, n4, n3⟩, b5, b6, ht, hc, hv, hk, hx⟩ := h
  refine ⟨⟨?_, ?_, ?_, ?_, ?_⟩, ?_, ?_, fun t h0 h1 => ?_, fun c' h0 h1 => ?_, fun v h0 h1 => ?_, fun k h0 h1 => ?_, fun h0 => ?_⟩
  · first
      | (simp (disch := first | assumption | omega) only [if_true, if_false, zid, zlid, if_pos, if_neg, u2_e, u2_c, u2_i, u1_e, u1_i, Option.bind_some]; exact n0)
      | (simp (disch := first | assumption | omega) only [if_true, if_false, zid, zlid, if_pos, if_neg, u2_e, u2_c, u2_i, u1_e, u1_i, Option.bind_some])
  · first
      | (simp (disch := first | assumption | omega) only [if_true, if_false, zid, zlid, if_pos, if_neg, u2_e, u2_c, u2_i, u1_e, u1_i, Option.bind_some]; exact n1)
      | (simp (disch := first | assumption | omega) only [if_true, if_false, zid, zlid, if_pos, if_neg, u2_e, u2_c, u2_i, u1_e, u1_i, Option.bind_some])
  · first
      | (simp (disch := first | assumption | omega) only [if_true, if_false, zid, zlid, if_pos, if_neg, u2_e, u2_c, u2_i, u1_e, u1_i, Option.bind_some]; exact n2)
      | (simp (disch := first | assumption | omega) only [if_true, if_false, zid, zlid, if_pos, if_neg, u2_e, u2_c, u2_i, u1_e, u1_i, Option.bind_some])
  · first
      | (simp (disch := first | assumption | omega) only [if_true, if_false, zid, zlid, if_pos, if_neg, u2_e, u2_c, u2_i, u1_e, u1_i, Option.bind_some]; exact n4)
      | (simp (disch := first | assumption | omega) only [if_true, if_false, zid, zlid, if_pos, if_neg, u2_e, u2_c, u2_i, u1_e, u1_i, Option.bind_some])
  · first
      | (simp (disch := first | assumption | omega) only [if_true, if_false, zid, zlid, if_pos, if_neg, u2_e, u2_c, u2_i, u1_e, u1_i, Option.bind_some]; exact n3)
      | (simp (disch := first | assumption | omega) only [if_true, if_false, zid, zlid, if_pos, if_neg, u2_e, u2_c, u2_i, u1_e, u1_i, Option.bind_some])
  · first | rw [u2_c (by omega)] | rw [u2_i (by omega)]
    exact b5.congr (fun i i0 i1 => u1_i (by omega))
  · first | rw [u2_c (by omega)] | rw [u2_i (by omega)]
    exact b6.congr (fun i i0 i1 => u1_i (by omega))
  · simp (disch := first | assumption | omega) only [if_true, if_false, zid, zlid, if_pos, if_neg, u2_e, u2_c, u2_i, u1_e, u1_i, Option.bind_some]
    exact ht t h0 h1
  · have hh := hc c' h0 h1
    by_cases e : c' = q
    · subst e
      first
        | (simp (disch := first | assumption | omega) only [if_true, if_false, zid, zlid, if_pos, if_neg, u2_e, u2_c, u2_i, u1_e, u1_i, Option.bind_some]; simp only [hh, and_self])
        | (simp (disch := first | assumption | omega) only [if_true, if_false, zid, zlid, if_pos, if_neg, u2_e, u2_c, u2_i, u1_e, u1_i, Option.bind_some]; simp only [hh])
        | (simp (disch := first | assumption | omega) only [if_true, if_false, zid, zlid, if_pos, if_neg, u2_e, u2_c, u2_i, u1_e, u1_i, Option.bind_some])
    · simp (disch := first | assumption | omega) only [if_true, if_false, zid, zlid, if_pos, if_neg, u2_e, u2_c, u2_i, u1_e, u1_i, Option.bind_some]
      exact hh
  · simp (disch := first | assumption | omega) only [if_true, if_false, zid, zlid, if_pos, if_neg, u2_e, u2_c, u2_i, u1_e, u1_i, Option.bind_some]
    exact hv v h0 h1
  · rw [u1_i (by omega)] at h1
    rw [m_nm_u1 (by omega) h0]
    simp (disch := first | assumption | omega) only [if_true, if_false, zid, zlid, if_pos, if_neg, u2_e, u2_c, u2_i, u1_e, u1_i, Option.bind_some]
    exact hk k h0 h1
  · simp (disch := first | assumption | omega) only [if_true, if_false, zid, zlid, if_pos, if_neg, u2_e, u2_c, u2_i, u1_e, u1_i, Option.bind_some]
    exact hx h0
theorem RS.c6_u (h : RS σ a K w tr th) {q : Int} (q0 : 0 ≤ q) (q1 : q < 3) (hK : K 0 1 ≤ 4) (hK0 : K 0 0 ≤ 3) (hK2 : K 0 2 ≤ 6) {x : Int} : RS (u2 σ (a + 6) q.toNat x) a K (u1 w (3 + q).toNat x) tr th := by
  obtain ⟨⟨n0, n1, n2, n4, n3⟩, b5, b6, ht, hc, hv, hk, hx⟩ := h
  refine ⟨⟨?_, ?_, ?_, ?_, ?_⟩, ?_, ?_, fun t h0 h1 => ?_, fun c' h0 h1 => ?_, fun v h0 h1 => ?_, fun k h0 h1 => ?_, fun h0 => ?_⟩
  · first
      | (simp (disch := first | assumption | omega) only [if_true, if_false, zid, zlid, if_pos, if_neg, u2_e, u2_c, u2_i, u1_e, u1_i, Option.bind_some]; exact n0)
      | (simp (disch := first | assumption | omega) only [if_true, if_false, zid, zlid, if_pos, if_neg, u2_e, u2_c, u2_i, u1_e, u1_i, Option.bind_some])
  · first
      | (simp (disch := first | assumption | omega) only [if_true, if_false, zid, zlid, if_pos, if_neg, u2_e, u2_c, u2_i, u1_e, u1_i, Option.bind_some]; exact n1)
      | (simp (disch := first | assumption | omega) only [if_true, if_false, zid, zlid, if_pos, if_neg, u2_e, u2_c, u2_i, u1_e, u1_i, Option.bind_some])
  · first
      | (simp (disch := first | assumption | omega) only [if_true, if_false, zid, zlid, if_pos, if_neg, u2_e, u2_c, u2_i, u1_e, u1_i, Option.bind_some]; exact n2)
      | (simp (disch := first | assumption | omega) only [if_true, if_false, zid, zlid, if_pos, if_neg, u2_e, u2_c, u2_i, u1_e, u1_i, Option.bind_some])
  · first
      | (simp (disch := first | assumption | omega) only [if_true, if_false, zid, zlid, if_pos, if_neg, u2_e, u2_c, u2_i, u1_e, u1_i, Option.bind_some]; exact n4)
      | (simp (disch := first | assumption | omega) only [if_true, if_false, zid, zlid, if_pos, if_neg, u2_e, u2_c, u2_i, u1_e, u1_i, Option.bind_some])
  · first
      | (simp (disch := first | assumption | omega) only [if_true, if_false, zid, zlid, if_pos, if_neg, u2_e, u2_c, u2_i, u1_e, u1_i, Option.bind_some]; exact n3)
      | (simp (disch := first | assumption | omega) only [if_true, if_false, zid, zlid, if_pos, if_neg, u2_e, u2_c, u2_i, u1_e, u1_i, Option.bind_some])
  · first | rw [u2_c (by omega)] | rw [u2_i (by omega)]
    exact b5.congr (fun i i0 i1 => u1_i (by omega))
  · first | rw [u2_c (by omega)] | rw [u2_i (by omega)]
    exact b6.congr (fun i i0 i1 => u1_i (by omega))
  · simp (disch := first | assumption | omega) only [if_true, if_false, zid, zlid, if_pos, if_neg, u2_e, u2_c, u2_i, u1_e, u1_i, Option.bind_some]
    exact ht t h0 h1
  · have hh := hc c' h0 h1
    by_cases e : c' = q
    · subst e
      first
        | (simp (disch := first | assumption | omega) only [if_true, if_false, zid, zlid, if_pos, if_neg, u2_e, u2_c, u2_i, u1_e, u1_i, Option.bind_some]; simp only [hh, and_self])
        | (simp (disch := first | assumption | omega) only [if_true, if_false, zid, zlid, if_pos, if_neg, u2_e, u2_c, u2_i, u1_e, u1_i, Option.bind_some]; simp only [hh])
        | (simp (disch := first | assumption | omega) only [if_true, if_false, zid, zlid, if_pos, if_neg, u2_e, u2_c, u2_i, u1_e, u1_i, Option.bind_some])
    · simp (disch := first | assumption | omega) only [if_true, if_false, zid, zlid, if_pos, if_neg, u2_e, u2_c, u2_i, u1_e, u1_i, Option.bind_some]
      exact hh
  · simp (disch := first | assumption | omega) only [if_true, if_false, zid, zlid, if_pos, if_neg, u2_e, u2_c, u2_i, u1_e, u1_i, Option.bind_some]
    exact hv v h0 h1
  · rw [u1_i (by omega)] at h1
    rw [m_nm_u1 (by omega) h0]
    simp (disch := first | assumption | omega) only [if_true, if_false, zid, zlid, if_pos, if_neg, u2_e, u2_c, u2_i, u1_e, u1_i, Option.bind_some]
    exact hk k h0 h1
  · simp (disch := first | assumption | omega) only [if_true, if_false, zid, zlid, if_pos, if_neg, u2_e, u2_c, u2_i, u1_e, u1_i, Option.bind_some]
    exact hx h0
theorem RS.c7_u (h : RS σ a K w tr th) {q : Int} (q0 : 0 ≤ q) (q1 : q < 3) (hK : K 0 1 ≤ 4) (hK0 : K 0 0 ≤ 3) (hK2 : K 0 2 ≤ 6) {x : Int} : RS (u2 σ (a + 7) q.toNat x) a K (u1 w (6 + q).toNat x) tr th := by
  obtain ⟨⟨n0, n1, n2, n4, n3⟩, b5, b6, ht, hc, hv, hk, hx⟩ := h
  refine ⟨⟨?_, ?_, ?_, ?_, ?_⟩, ?_, ?_, fun t h0 h1 => ?_, fun c' h0 h1 => ?_, fun v h0 h1 => ?_, fun k h0 h1 => ?_, fun h0 => ?_⟩
  · first
      | (simp (disch := first | assumption | omega) only [if_true, if_false, zid, zlid, if_pos, if_neg, u2_e, u2_c, u2_i, u1_e, u1_i, Option.bind_some]; exact n0)
      | (simp (disch := first | assumption | omega) only [if_true, if_false, zid, zlid, if_pos, if_neg, u2_e, u2_c, u2_i, u1_e, u1_i, Option.bind_some])
  · first
      | (simp (disch := first | assumption | omega) only [if_true, if_false, zid, zlid, if_pos, if_neg, u2_e, u2_c, u2_i, u1_e, u1_i, Option.bind_some]; exact n1)
      | (simp (disch := first | assumption | omega) only [if_true, if_false, zid, zlid, if_pos, if_neg, u2_e, u2_c, u2_i, u1_e, u1_i, Option.bind_some])
  · first
      | (simp (disch := first | assumption | omega) only [if_true, if_false, zid, zlid, if_pos, if_neg, u2_e, u2_c, u2_i, u1_e, u1_i, Option.bind_some]; exact n2)
      | (simp (disch := first | assumption | omega) only [if_true, if_false, zid, zlid, if_pos, if_neg, u2_e, u2_c, u2_i, u1_e, u1_i, Option.bind_some])
  · first
      | (simp (disch := first | assumption | omega) only [if_true, if_false, zid, zlid, if_pos, if_neg, u2_e, u2_c, u2_i, u1_e, u1_i, Option.bind_some]; exact n4)
      | (simp (disch := first | assumption | omega) only [if_true, if_false, zid, zlid, if_pos, if_neg, u2_e, u2_c, u2_i, u1_e, u1_i, Option.bind_some])
  · first
      | (simp (disch := first | assumption | omega) only [if_true, if_false, zid, zlid, if_pos, if_neg, u2_e, u2_c, u2_i, u1_e, u1_i, Option.bind_some]; exact n3)
      | (simp (disch := first | assumption | omega) only [if_true, if_false, zid, zlid, if_pos, if_neg, u2_e, u2_c, u2_i, u1_e, u1_i, Option.bind_some])
  · first | rw [u2_c (by omega)] | rw [u2_i (by omega)]
    exact b5.congr (fun i i0 i1 => u1_i (by omega))
  · first | rw [u2_c (by omega)] | rw [u2_i (by omega)]
    exact b6.congr (fun i i0 i1 => u1_i (by omega))
  · simp (disch := first | assumption | omega) only [if_true, if_false, zid, zlid, if_pos, if_neg, u2_e, u2_c, u2_i, u1_e, u1_i, Option.bind_some]
    exact ht t h0 h1
  · have hh := hc c' h0 h1
    by_cases e : c' = q
    · subst e
      first
        | (simp (disch := first | assumption | omega) only [if_true, if_false, zid, zlid, if_pos, if_neg, u2_e, u2_c, u2_i, u1_e, u1_i, Option.bind_some]; simp only [hh, and_self])
        | (simp (disch := first | assumption | omega) only [if_true, if_false, zid, zlid, if_pos, if_neg, u2_e, u2_c, u2_i, u1_e, u1_i, Option.bind_some]; simp only [hh])
        | (simp (disch := first | assumption | omega) only [if_true, if_false, zid, zlid, if_pos, if_neg, u2_e, u2_c, u2_i, u1_e, u1_i, Option.bind_some])
    · simp (disch := first | assumption | omega) only [if_true, if_false, zid, zlid, if_pos, if_neg, u2_e, u2_c, u2_i, u1_e, u1_i, Option.bind_some]
      exact hh
  · simp (disch := first | assumption | omega) only [if_true, if_false, zid, zlid, if_pos, if_neg, u2_e, u2_c, u2_i, u1_e, u1_i, Option.bind_some]
    exact hv v h0 h1
  · rw [u1_i (by omega)] at h1
    rw [m_nm_u1 (by omega) h0]
    simp (disch := first | assumption | omega) only [if_true, if_false, zid, zlid, if_pos, if_neg, u2_e, u2_c, u2_i, u1_e, u1_i, Option.bind_some]
    exact hk k h0 h1
  · simp (disch := first | assumption | omega) only [if_true, if_false, zid, zlid, if_pos, if_neg, u2_e, u2_c, u2_i, u1_e, u1_i, Option.bind_some]
    exact hx h0
theorem RS.v8_u (h : RS σ a K w tr th) {q : Int} (q0 : 0 ≤ q) (q1 : q < 6) (hK : K 0 1 ≤ 4) (hK0 : K 0 0 ≤ 3) (hK2 : K 0 2 ≤ 6) {x : Int} : RS (u2 σ (a + 8) q.toNat x) a K (u1 w (15 + q).toNat x) tr th := by
  obtain ⟨⟨n0, n1, n2, n4, n3⟩, b5, b6, ht, hc, hv, hk, hx⟩ := h
  refine ⟨⟨?_, ?_, ?_, ?_, ?_⟩, ?_, ?_, fun t h0 h1 => ?_, fun c' h0 h1 => ?_, fun v h0 h1 => ?_, fun k h0 h1 => ?_, fun h0 => ?_⟩
  · first
      | (simp (disch := first | assumption | omega) only [if_true, if_false, zid, zlid, if_pos, if_neg, u2_e, u2_c, u2_i, u1_e, u1_i, Option.bind_some]; exact n0)
      | (simp (disch := first | assumption | omega) only [if_true, if_false, zid, zlid, if_pos, if_neg, u2_e, u2_c, u2_i, u1_e, u1_i, Option.bind_some])
  · first
      | (simp (disch := first | assumption | omega) only [if_true, if_false, zid, zlid, if_pos, if_neg, u2_e, u2_c, u2_i, u1_e, u1_i, Option.bind_some]; exact n1)
      | (simp (disch := first | assumption | omega) only [if_true, if_false, zid, zlid, if_pos, if_neg, u2_e, u2_c, u2_i, u1_e, u1_i, Option.bind_some])
  · first
      | (simp (disch := first | assumption | omega) only [if_true, if_false, zid, zlid, if_pos, if_neg, u2_e, u2_c, u2_i, u1_e, u1_i, Option.bind_some]; exact n2)
      | (simp (disch := first | assumption | omega) only [if_true, if_false, zid, zlid, if_pos, if_neg, u2_e, u2_c, u2_i, u1_e, u1_i, Option.bind_some])
  · first
      | (simp (disch := first | assumption | omega) only [if_true, if_false, zid, zlid, if_pos, if_neg, u2_e, u2_c, u2_i, u1_e, u1_i, Option.bind_some]; exact n4)
      | (simp (disch := first | assumption | omega) only [if_true, if_false, zid, zlid, if_pos, if_neg, u2_e, u2_c, u2_i, u1_e, u1_i, Option.bind_some])
  · first
      | (simp (disch := first | assumption | omega) only [if_true, if_false, zid, zlid, if_pos, if_neg, u2_e, u2_c, u2_i, u1_e, u1_i, Option.bind_some]; exact n3)
      | (simp (disch := first | assumption | omega) only [if_true, if_false, zid, zlid, if_pos, if_neg, u2_e, u2_c, u2_i, u1_e, u1_i, Option.bind_some])
  · first | rw [u2_c (by omega)] | rw [u2_i (by omega)]
    exact b5.congr (fun i i0 i1 => u1_i (by omega))
  · first | rw [u2_c (by omega)] | rw [u2_i (by omega)]
    exact b6.congr (fun i i0 i1 => u1_i (by omega))
  · simp (disch := first | assumption | omega) only [if_true, if_false, zid, zlid, if_pos, if_neg, u2_e, u2_c, u2_i, u1_e, u1_i, Option.bind_some]
    exact ht t h0 h1
  · simp (disch := first | assumption | omega) only [if_true, if_false, zid, zlid, if_pos, if_neg, u2_e, u2_c, u2_i, u1_e, u1_i, Option.bind_some]
    exact hc c' h0 h1
  · have hh := hv v h0 h1
    by_cases e : v = q
    · subst e
      first
        | (simp (disch := first | assumption | omega) only [if_true, if_false, zid, zlid, if_pos, if_neg, u2_e, u2_c, u2_i, u1_e, u1_i, Option.bind_some]; simp only [hh, and_self])
        | (simp (disch := first | assumption | omega) only [if_true, if_false, zid, zlid, if_pos, if_neg, u2_e, u2_c, u2_i, u1_e, u1_i, Option.bind_some]; simp only [hh])
        | (simp (disch := first | assumption | omega) only [if_true, if_false, zid, zlid, if_pos, if_neg, u2_e, u2_c, u2_i, u1_e, u1_i, Option.bind_some])
    · simp (disch := first | assumption | omega) only [if_true, if_false, zid, zlid, if_pos, if_neg, u2_e, u2_c, u2_i, u1_e, u1_i, Option.bind_some]
      exact hh
  · rw [u1_i (by omega)] at h1
    rw [m_nm_u1 (by omega) h0]
    simp (disch := first | assumption | omega) only [if_true, if_false, zid, zlid, if_pos, if_neg, u2_e, u2_c, u2_i, u1_e, u1_i, Option.bind_some]
    exact hk k h0 h1
  · simp (disch := first | assumption | omega) only [if_true, if_false, zid, zlid, if_pos, if_neg, u2_e, u2_c, u2_i, u1_e, u1_i, Option.bind_some]
    exact hx h0
theorem RS.n0_u (h : RS σ a K w tr th) (hK : K 0 1 ≤ 4) (hK0 : K 0 0 ≤ 3) (hK2 : K 0 2 ≤ 6) {x : Int} : RS (u2 σ a 0 x) a K (u1 w 41 x) tr th := by
  obtain ⟨⟨n0, n1, n2, n4, n3⟩, b5, b6, ht, hc, hv, hk, hx⟩ := h
  refine ⟨⟨?_, ?_, ?_, ?_, ?_⟩, ?_, ?_, fun t h0 h1 => ?_, fun c' h0 h1 => ?_, fun v h0 h1 => ?_, fun k h0 h1 => ?_, fun h0 => ?_⟩
  · first
      | (simp (disch := first | assumption | omega) only [if_true, if_false, zid, zlid, if_pos, if_neg, u2_e, u2_c, u2_i, u1_e, u1_i, Option.bind_some]; exact n0)
      | (simp (disch := first | assumption | omega) only [if_true, if_false, zid, zlid, if_pos, if_neg, u2_e, u2_c, u2_i, u1_e, u1_i, Option.bind_some])
  · first
      | (simp (disch := first | assumption | omega) only [if_true, if_false, zid, zlid, if_pos, if_neg, u2_e, u2_c, u2_i, u1_e, u1_i, Option.bind_some]; exact n1)
      | (simp (disch := first | assumption | omega) only [if_true, if_false, zid, zlid, if_pos, if_neg, u2_e, u2_c, u2_i, u1_e, u1_i, Option.bind_some])
  · first
      | (simp (disch := first | assumption | omega) only [if_true, if_false, zid, zlid, if_pos, if_neg, u2_e, u2_c, u2_i, u1_e, u1_i, Option.bind_some]; exact n2)
      | (simp (disch := first | assumption | omega) only [if_true, if_false, zid, zlid, if_pos, if_neg, u2_e, u2_c, u2_i, u1_e, u1_i, Option.bind_some])
  · first
      | (simp (disch := first | assumption | omega) only [if_true, if_false, zid, zlid, if_pos, if_neg, u2_e, u2_c, u2_i, u1_e, u1_i, Option.bind_some]; exact n4)
      | (simp (disch := first | assumption | omega) only [if_true, if_false, zid, zlid, if_pos, if_neg, u2_e, u2_c, u2_i, u1_e, u1_i, Option.bind_some])
  · first
      | (simp (disch := first | assumption | omega) only [if_true, if_false, zid, zlid, if_pos, if_neg, u2_e, u2_c, u2_i, u1_e, u1_i, Option.bind_some]; exact n3)
      | (simp (disch := first | assumption | omega) only [if_true, if_false, zid, zlid, if_pos, if_neg, u2_e, u2_c, u2_i, u1_e, u1_i, Option.bind_some])
  · first | rw [u2_c (by omega)] | rw [u2_i (by omega)]
    exact b5.congr (fun i i0 i1 => u1_i (by omega))
  · first | rw [u2_c (by omega)] | rw [u2_i (by omega)]
    exact b6.congr (fun i i0 i1 => u1_i (by omega))
  · simp (disch := first | assumption | omega) only [if_true, if_false, zid, zlid, if_pos, if_neg, u2_e, u2_c, u2_i, u1_e, u1_i, Option.bind_some]
    exact ht t h0 h1
  · simp (disch := first | assumption | omega) only [if_true, if_false, zid, zlid, if_pos, if_neg, u2_e, u2_c, u2_i, u1_e, u1_i, Option.bind_some]
    exact hc c' h0 h1
  · simp (disch := first | assumption | omega) only [if_true, if_false, zid, zlid, if_pos, if_neg, u2_e, u2_c, u2_i, u1_e, u1_i, Option.bind_some]
    exact hv v h0 h1
  · rw [u1_i (by omega)] at h1
    rw [m_nm_u1 (by omega) h0]
    simp (disch := first | assumption | omega) only [if_true, if_false, zid, zlid, if_pos, if_neg, u2_e, u2_c, u2_i, u1_e, u1_i, Option.bind_some]
    exact hk k h0 h1
  · simp (disch := first | assumption | omega) only [if_true, if_false, zid, zlid, if_pos, if_neg, u2_e, u2_c, u2_i, u1_e, u1_i, Option.bind_some]
    exact hx h0
theorem RS.n1_u (h : RS σ a K w tr th) (hK : K 0 1 ≤ 4) (hK0 : K 0 0 ≤ 3) (hK2 : K 0 2 ≤ 6) {x : Int} : RS (u2 σ a 1 x) a K (u1 w 42 x) tr th := by
  obtain ⟨⟨n0, n1, n2, n4, n3⟩, b5, b6, ht, hc, hv, hk, hx⟩ := h
  refine ⟨⟨?_, ?_, ?_, ?_, ?_⟩, ?_, ?_, fun t h0 h1 => ?_, fun c' h0 h1 => ?_, fun v h0 h1 => ?_, fun k h0 h1 => ?_, fun h0 => ?_⟩
  · first
      | (simp (disch := first | assumption | omega) only [if_true, if_false, zid, zlid, if_pos, if_neg, u2_e, u2_c, u2_i, u1_e, u1_i, Option.bind_some]; exact n0)
      | (simp (disch := first | assumption | omega) only [if_true, if_false, zid, zlid, if_pos, if_neg, u2_e, u2_c, u2_i, u1_e, u1_i, Option.bind_some])
  · first
      | (simp (disch := first | assumption | omega) only [if_true, if_false, zid, zlid, if_pos, if_neg, u2_e, u2_c, u2_i, u1_e, u1_i, Option.bind_some]; exact n1)
      | (simp (disch := first | assumption | omega) only [if_true, if_false, zid, zlid, if_pos, if_neg, u2_e, u2_c, u2_i, u1_e, u1_i, Option.bind_some])
  · first
      | (simp (disch := first | assumption | omega) only [if_true, if_false, zid, zlid, if_pos, if_neg, u2_e, u2_c, u2_i, u1_e, u1_i, Option.bind_some]; exact n2)
      | (simp (disch := first | assumption | omega) only [if_true, if_false, zid, zlid, if_pos, if_neg, u2_e, u2_c, u2_i, u1_e, u1_i, Option.bind_some])
  · first
      | (simp (disch := first | assumption | omega) only [if_true, if_false, zid, zlid, if_pos, if_neg, u2_e, u2_c, u2_i, u1_e, u1_i, Option.bind_some]; exact n4)
      | (simp (disch := first | assumption | omega) only [if_true, if_false, zid, zlid, if_pos, if_neg, u2_e, u2_c, u2_i, u1_e, u1_i, Option.bind_some])
  · first
      | (simp (disch := first | assumption | omega) only [if_true, if_false, zid, zlid, if_pos, if_neg, u2_e, u2_c, u2_i, u1_e, u1_i, Option.bind_some]; exact n3)
      | (simp (disch := first | assumption | omega) only [if_true, if_false, zid, zlid, if_pos, if_neg, u2_e, u2_c, u2_i, u1_e, u1_i, Option.bind_some])
  · first | rw [u2_c (by omega)] | rw [u2_i (by omega)]
    exact b5.congr (fun i i0 i1 => u1_i (by omega))
  · first | rw [u2_c (by omega)] | rw [u2_i (by omega)]
    exact b6.congr (fun i i0 i1 => u1_i (by omega))
  · simp (disch := first | assumption | omega) only [if_true, if_false, zid, zlid, if_pos, if_neg, u2_e, u2_c, u2_i, u1_e, u1_i, Option.bind_some]
    exact ht t h0 h1
  · simp (disch := first | assumption | omega) only [if_true, if_false, zid, zlid, if_pos, if_neg, u2_e, u2_c, u2_i, u1_e, u1_i, Option.bind_some]
    exact hc c' h0 h1
  · simp (disch := first | assumption | omega) only [if_true, if_false, zid, zlid, if_pos, if_neg, u2_e, u2_c, u2_i, u1_e, u1_i, Option.bind_some]
    exact hv v h0 h1
  · rw [u1_i (by omega)] at h1
    rw [m_nm_u1 (by omega) h0]
    simp (disch := first | assumption | omega) only [if_true, if_false, zid, zlid, if_pos, if_neg, u2_e, u2_c, u2_i, u1_e, u1_i, Option.bind_some]
    exact hk k h0 h1
  · simp (disch := first | assumption | omega) only [if_true, if_false, zid, zlid, if_pos, if_neg, u2_e, u2_c, u2_i, u1_e, u1_i, Option.bind_some]
    exact hx h0
theorem RS.n2_u (h : RS σ a K w tr th) (hK : K 0 1 ≤ 4) (hK0 : K 0 0 ≤ 3) (hK2 : K 0 2 ≤ 6) {x : Int} : RS (u2 σ a 2 x) a K (u1 w 43 x) tr th := by
  obtain ⟨⟨n0, n1, n2, n4, n3⟩, b5, b6, ht, hc, hv, hk, hx⟩ := h
  refine ⟨⟨?_, ?_, ?_, ?_, ?_⟩, ?_, ?_, fun t h0 h1 => ?_, fun c' h0 h1 => ?_, fun v h0 h1 => ?_, fun k h0 h1 => ?_, fun h0 => ?_⟩
  · first
      | (simp (disch := first | assumption | omega) only [if_true, if_false, zid, zlid, if_pos, if_neg, u2_e, u2_c, u2_i, u1_e, u1_i, Option.bind_some]; exact n0)
      | (simp (disch := first | assumption | omega) only [if_true, if_false, zid, zlid, if_pos, if_neg, u2_e, u2_c, u2_i, u1_e, u1_i, Option.bind_some])
  · first
      | (simp (disch := first | assumption | omega) only [if_true, if_false, zid, zlid, if_pos, if_neg, u2_e, u2_c, u2_i, u1_e, u1_i, Option.bind_some]; exact n1)
      | (simp (disch := first | assumption | omega) only [if_true, if_false, zid, zlid, if_pos, if_neg, u2_e, u2_c, u2_i, u1_e, u1_i, Option.bind_some])
  · first
      | (simp (disch := first | assumption | omega) only [if_true, if_false, zid, zlid, if_pos, if_neg, u2_e, u2_c, u2_i, u1_e, u1_i, Option.bind_some]; exact n2)
      | (simp (disch := first | assumption | omega) only [if_true, if_false, zid, zlid, if_pos, if_neg, u2_e, u2_c, u2_i, u1_e, u1_i, Option.bind_some])
  · first
      | (simp (disch := first | assumption | omega) only [if_true, if_false, zid, zlid, if_pos, if_neg, u2_e, u2_c, u2_i, u1_e, u1_i, Option.bind_some]; exact n4)
      | (simp (disch := first | assumption | omega) only [if_true, if_false, zid, zlid, if_pos, if_neg, u2_e, u2_c, u2_i, u1_e, u1_i, Option.bind_some])
  · first
      | (simp (disch := first | assumption | omega) only [if_true, if_false, zid, zlid, if_pos, if_neg, u2_e, u2_c, u2_i, u1_e, u1_i, Option.bind_some]; exact n3)
      | (simp (disch := first | assumption | omega) only [if_true, if_false, zid, zlid, if_pos, if_neg, u2_e, u2_c, u2_i, u1_e, u1_i, Option.bind_some])
  · first | rw [u2_c (by omega)] | rw [u2_i (by omega)]
    exact b5.congr (fun i i0 i1 => u1_i (by omega))
  · first | rw [u2_c (by omega)] | rw [u2_i (by omega)]
    exact b6.congr (fun i i0 i1 => u1_i (by omega))
  · simp (disch := first | assumption | omega) only [if_true, if_false, zid, zlid, if_pos, if_neg, u2_e, u2_c, u2_i, u1_e, u1_i, Option.bind_some]
    exact ht t h0 h1
  · simp (disch := first | assumption | omega) only [if_true, if_false, zid, zlid, if_pos, if_neg, u2_e, u2_c, u2_i, u1_e, u1_i, Option.bind_some]
    exact hc c' h0 h1
  · simp (disch := first | assumption | omega) only [if_true, if_false, zid, zlid, if_pos, if_neg, u2_e, u2_c, u2_i, u1_e, u1_i, Option.bind_some]
    exact hv v h0 h1
  · rw [u1_i (by omega)] at h1
    rw [m_nm_u1 (by omega) h0]
    simp (disch := first | assumption | omega) only [if_true, if_false, zid, zlid, if_pos, if_neg, u2_e, u2_c, u2_i, u1_e, u1_i, Option.bind_some]
    exact hk k h0 h1
  · simp (disch := first | assumption | omega) only [if_true, if_false, zid, zlid, if_pos, if_neg, u2_e, u2_c, u2_i, u1_e, u1_i, Option.bind_some]
    exact hx h0
end S_U
