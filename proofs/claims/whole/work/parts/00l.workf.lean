-- what choosing a point, working, fading keep
section S_WF
variable {K : Nat → Nat → Int} {w d : Nat → Int} {tr th : Int}
theorem m_ch1_in (hK : WK K) (hS : WS K w) {c q : Int} (h0 : 0 ≤ c) (h1 : c < K 0 0) (q0 : 0 ≤ q) (q1 : q < K 4 c.toNat) : WS K (m_ch1 K c q w) := by
  have hx := hS.c h0 h1
  unfold m_ch1
  split
  · exact (hS.u_point hK h0 h1 q0 q1).u_held hK h0 h1
  · split
    · exact (hS.u_point hK h0 h1 (by omega) (by omega)).u_held hK h0 h1
    · exact hS.u_held hK h0 h1
theorem m_ch1_o {c q : Int} (h0 : 0 ≤ c) (h1 : c < 3) {i : Nat} (h : 6 ≤ i) : m_ch1 K c q w i = w i := by
  unfold m_ch1
  split
  · rw [u1_i (by omega), u1_i (by omega)]
  · split
    · rw [u1_i (by omega), u1_i (by omega)]
    · rw [u1_i (by omega)]
theorem m_choose_in (hK : WK K) (hS : WS K w) {c : Int} (h0 : 0 ≤ c) (h1 : c < K 0 0) (ht : 0 ≤ th) : WS K (m_choose K tr th c w) ∧ (∀ i : Nat, 9 ≤ i → m_choose K tr th c w i = w i) := by
  have hkn := hK.n
  have hc := hK.c h0 h1
  have hq := m_want_in (w := w) hK h0 h1
  have s1 := m_ch1_in hK hS h0 h1 hq.1 hq.2
  have o1 : ∀ i : Nat, 6 ≤ i → m_ch1 K c (m_want K w c) w i = w i := fun i hi => m_ch1_o h0 (by omega) hi
  unfold m_choose
  generalize m_ch1 K c (m_want K w c) w = w1 at s1 o1 ⊢
  have hb := m_bounded_in (tr := tr) (p := w1 c.toNat) s1 (c := c) (by omega) ht
  have s2 : WS K (m_ch2 K tr th c w1) := s1.u_point hK h0 h1 hb.1 hb.2
  have o2 : ∀ i : Nat, 6 ≤ i → m_ch2 K tr th c w1 i = w i := fun i hi => by
    unfold m_ch2
    rw [u1_i (by omega)]
    exact o1 i hi
  generalize m_ch2 K tr th c w1 = w2 at s2 o2 ⊢
  have hx := s2.c h0 h1
  have s3 : WS K (m_ch3 K c w2) := by
    unfold m_ch3
    split
    · exact s2.u_point hK h0 h1 (by omega) (by omega)
    · exact s2
  have o3 : ∀ i : Nat, 6 ≤ i → m_ch3 K c w2 i = w i := fun i hi => by
    unfold m_ch3
    split
    · rw [u1_i (by omega)]
      exact o2 i hi
    · exact o2 i hi
  generalize m_ch3 K c w2 = w3 at s3 o3 ⊢
  have hy := s3.c h0 h1
  unfold m_ch4
  split
  · exact ⟨s3.u_boost hK h0 h1 (by omega) (by omega), fun i hi => by rw [u1_i (by omega)]; exact o3 i (by omega)⟩
  · exact ⟨s3, fun i hi => o3 i (by omega)⟩
theorem m_next_in (hK : WK K) {v : Int} : m_next K w v = -1 ∧ (∀ t : Int, 0 ≤ t → t < K 0 1 → w (21 + t).toNat = v → w (25 + t).toNat = 0) ∨ (0 ≤ m_next K w v ∧ m_next K w v < K 0 1 ∧ w (21 + m_next K w v).toNat = v ∧ w (25 + m_next K w v).toNat ≠ 0) := by
  have hkn := hK.n
  have h := iter_inv (X := m_nextS K w v) (hi := K 0 1) (fun t s => 0 ≤ t ∧ (s.1 = -1 ∧ (∀ u : Int, 0 ≤ u → u < t → w (21 + u).toNat = v → w (25 + u).toNat = 0) ∨ (0 ≤ s.1 ∧ s.1 < t ∧ w (21 + s.1).toNat = v ∧ w (25 + s.1).toNat ≠ 0)))
    (fun t s ht hp => by
      refine ⟨by omega, ?_⟩
      unfold m_nextS
      by_cases c : w (21 + t).toNat = v ∧ w (25 + t).toNat ≠ 0
      · rw [if_pos c]
        split
        · exact Or.inr ⟨hp.1, by dsimp only; omega, c.1, c.2⟩
        · rename_i e
          rcases hp.2 with q | q
          · exact absurd q.1 e
          · split
            · exact Or.inr ⟨hp.1, by dsimp only; omega, c.1, c.2⟩
            · exact Or.inr ⟨q.1, by omega, q.2.2⟩
      · rw [if_neg c]
        rcases hp.2 with q | q
        · refine Or.inl ⟨q.1, fun u u0 u1 u2 => ?_⟩
          by_cases e : u = t
          · subst e
            by_cases e2 : w (25 + u).toNat = 0
            · exact e2
            · exact absurd ⟨u2, e2⟩ c
          · exact q.2 u u0 (by omega) u2
        · exact Or.inr ⟨q.1, by omega, q.2.2⟩) (K 0 1).toNat 0 (-1, 0) (by omega) ⟨by omega, Or.inl ⟨rfl, fun u u0 u1 _ => by omega⟩⟩
  exact h.2
/-- how many of the tasks below n on the core v have rest -/
def m_cnt (w : Nat → Int) (v : Int) : Nat → Int
  | 0 => 0
  | n + 1 => m_cnt w v n + (if w (21 + (n : Int)).toNat = v ∧ w (25 + (n : Int)).toNat ≠ 0 then 1 else 0)
theorem m_cnt_in {v : Int} : ∀ n : Nat, 0 ≤ m_cnt w v n ∧ m_cnt w v n ≤ n ∧ (m_cnt w v n = 0 → ∀ t : Int, 0 ≤ t → t < n → w (21 + t).toNat = v → w (25 + t).toNat = 0) := by
  intro n
  induction n with
  | zero =>
    unfold m_cnt
    exact ⟨by omega, by omega, fun _ t t0 t1 _ => by omega⟩
  | succ n ih =>
    unfold m_cnt
    obtain ⟨a, b, c⟩ := ih
    split
    · exact ⟨by omega, by omega, fun q => by omega⟩
    · rename_i e
      refine ⟨by omega, by omega, fun q t t0 t1 t2 => ?_⟩
      by_cases h : t = (n : Int)
      · subst h
        by_cases e2 : w (25 + (n : Int)).toNat = 0
        · exact e2
        · exact absurd ⟨t2, e2⟩ e
      · exact c (by omega) t t0 (by omega) t2
theorem m_cnt_less {v u : Int} (u0 : 0 ≤ u) (hu : w (21 + u).toNat = v ∧ w (25 + u).toNat ≠ 0) (h4 : u < 4) : ∀ n : Nat, n ≤ 4 → m_cnt (u1 w (25 + u).toNat 0) v n = m_cnt w v n - (if u < n then 1 else 0) := by
  intro n
  induction n with
  | zero =>
    intro _
    rw [if_neg (by omega)]
    rfl
  | succ n ih =>
    intro hn
    unfold m_cnt
    rw [ih (by omega), u1_i (i := (25 + u).toNat) (j := (21 + (n : Int)).toNat) (by omega)]
    by_cases e : u = (n : Int)
    · subst e
      rw [u1_e, if_neg (by omega), if_neg (fun q => q.2 rfl), if_pos hu, if_pos (by omega)]
      omega
    · rw [u1_i (by omega)]
      by_cases e2 : u < n
      · rw [if_pos e2, if_pos (show u < ((n + 1 : Nat) : Int) by omega)]
        omega
      · rw [if_neg e2, if_neg (show ¬ u < ((n + 1 : Nat) : Int) by omega)]
        omega
/-- what n turns of work keep; behind as many as there are tasks nothing is left to do -/
theorem m_workL_in (hK : WK K) {v : Int} : ∀ (n : Nat) (w d : Nat → Int) (left : Int), WS K w → 0 ≤ left → left ≤ 99 →
    WS K (m_workL K v n w d left).1 ∧ 0 ≤ (m_workL K v n w d left).2.2 ∧ (m_workL K v n w d left).2.2 ≤ left ∧
    (∀ i : Nat, ¬ (25 ≤ i ∧ i < 29) → (m_workL K v n w d left).1 i = w i) ∧
    (∀ t : Int, 0 ≤ t → t < K 0 1 → d t.toNat ≤ (m_workL K v n w d left).2.1 t.toNat ∧ (m_workL K v n w d left).2.1 t.toNat ≤ d t.toNat + (left - (m_workL K v n w d left).2.2) ∧ (w (21 + t).toNat ≠ v → (m_workL K v n w d left).2.1 t.toNat = d t.toNat)) ∧
    (m_cnt w v (K 0 1).toNat ≤ n → (m_workL K v n w d left).2.2 ≤ 0 ∨ m_next K (m_workL K v n w d left).1 v = -1) := by
  have hkn := hK.n
  intro n
  induction n with
  | zero =>
    intro w d left hS l0 l1
    unfold m_workL
    refine ⟨hS, l0, Int.le_refl _, fun _ _ => rfl, fun t _ _ => ⟨Int.le_refl _, by dsimp only; omega, fun _ => rfl⟩, fun h => Or.inr ?_⟩
    have hc := m_cnt_in (w := w) (v := v) (K 0 1).toNat
    have hz := hc.2.2 (by omega)
    rcases m_next_in (w := w) (v := v) hK with q | q
    · exact q.1
    · exact absurd (hz _ q.1 (by omega) q.2.2.1) q.2.2.2
  | succ n ih =>
    intro w d left hS l0 l1
    unfold m_workL
    split
    · rename_i c
      refine ⟨hS, l0, Int.le_refl _, fun _ _ => rfl, fun t _ _ => ⟨Int.le_refl _, by dsimp only; omega, fun _ => rfl⟩, fun _ => c⟩
    · rename_i c
      rcases m_next_in (w := w) (v := v) hK with q | q
      · exact absurd (Or.inr q.1) c
      · generalize hu : m_next K w v = u at c q ⊢
        have hx := hS.t q.1 q.2.1
        have hl : ¬ left ≤ 0 := fun z => c (Or.inl z)
        generalize hm : min left (w (25 + u).toNat) = m
        have hS' := hS.u_rest hK q.1 q.2.1 (x := w (25 + u).toNat - m) (by omega) (by omega)
        obtain ⟨b1, b2, b3, b4, b5, b6⟩ := ih (u1 w (25 + u).toNat (w (25 + u).toNat - m)) (u1 d u.toNat (d u.toNat + m)) (left - m) hS' (by omega) (by omega)
        refine ⟨b1, b2, by omega, fun i hi => ?_, fun t t0 t1 => ?_, fun hc => ?_⟩
        · rw [b4 i hi, u1_i (by omega)]
        · obtain ⟨c1, c2, c3⟩ := b5 t t0 t1
          rw [u1_i (i := (25 + u).toNat) (j := (21 + t).toNat) (by omega)] at c3
          by_cases e : t = u
          · subst e
            rw [u1_e] at c1 c2
            exact ⟨by omega, by omega, fun z => absurd q.2.2.1 z⟩
          · rw [u1_i (by omega)] at c1 c2 c3
            exact ⟨by omega, by omega, c3⟩
        · by_cases e : left ≤ w (25 + u).toNat
          · have : left - m = 0 := by omega
            exact Or.inl (by omega)
          · refine b6 ?_
            have e2 : w (25 + u).toNat - m = 0 := by omega
            rw [e2, m_cnt_less q.1 q.2.2 (by omega) _ (by omega), if_pos (by omega)]
            omega
theorem m_workL_d {v : Int} (hK : WK K) : ∀ (n : Nat) (w d d' : Nat → Int) (left : Int), (∀ t : Int, 0 ≤ t → t < K 0 1 → d' t.toNat = d t.toNat) →
    (m_workL K v n w d' left).1 = (m_workL K v n w d left).1 ∧ (m_workL K v n w d' left).2.2 = (m_workL K v n w d left).2.2 ∧ (∀ t : Int, 0 ≤ t → t < K 0 1 → (m_workL K v n w d' left).2.1 t.toNat = (m_workL K v n w d left).2.1 t.toNat) := by
  intro n
  induction n with
  | zero => intro w d d' left h; exact ⟨rfl, rfl, h⟩
  | succ n ih =>
    intro w d d' left h
    unfold m_workL
    split
    · exact ⟨rfl, rfl, h⟩
    · rename_i c
      rcases m_next_in (w := w) (v := v) hK with q | q
      · exact absurd (Or.inr q.1) c
      · refine ih _ _ _ _ (fun t t0 t1 => ?_)
        unfold u1
        rw [h _ q.1 q.2.1, h t t0 t1]
theorem m_spd_in (hK : WK K) (hS : WS K w) {c : Int} (h0 : 0 ≤ c) (h1 : c < K 0 0) : 1 ≤ m_spd K w c ∧ m_spd K w c ≤ K 0 3 ∧ 1 ≤ m_cst K w c ∧ m_cst K w c ≤ 99 := by
  have hx := hS.c h0 h1
  exact hK.p h0 h1 hx.1 hx.2.1
theorem m_idle1_in (hK : WK K) (hS : WS K w) {v u : Int} (h0 : 0 ≤ v) (h1 : v < K 0 2) : WS K (m_idle1 K v u w) ∧ (∀ i : Nat, ¬ (9 ≤ i ∧ i < 21) → m_idle1 K v u w i = w i) := by
  have hkn := hK.n
  unfold m_idle1
  split
  · split
    · exact ⟨(hS.u_idled hK h0 h1).u_sleep hK h0 h1 (Or.inr rfl), fun i hi => by rw [u1_i (by omega), u1_i (by omega)]⟩
    · exact ⟨hS.u_idled hK h0 h1, fun i hi => by rw [u1_i (by omega)]⟩
  · exact ⟨hS.u_idled hK h0 h1, fun i hi => by rw [u1_i (by omega)]⟩
/-- behind the work of the cores below v: what was done is no more than the top speed, of tasks elsewhere nothing yet -/
def WD (K : Nat → Nat → Int) (v : Int) (s : Int × (Nat → Int) × (Nat → Int)) : Prop := WS K s.2.1 ∧ 0 ≤ s.1 ∧ s.1 ≤ 594 + 9900 * v ∧ (∀ t : Int, 0 ≤ t → t < K 0 1 → 0 ≤ s.2.2 t.toNat ∧ s.2.2 t.toNat ≤ K 0 3 ∧ (v ≤ s.2.1 (21 + t).toNat → s.2.2 t.toNat = 0))
theorem m_work_in (hK : WK K) {v : Int} (h0 : 0 ≤ v) (h1 : v < K 0 2) {s : Int × (Nat → Int) × (Nat → Int)} (hD : WD K v s) : WD K (v + 1) (m_work K v s) ∧ (∀ i : Nat, ¬ (9 ≤ i ∧ i < 21) → ¬ (25 ≤ i ∧ i < 29) → (m_work K v s).2.1 i = s.2.1 i) := by
  obtain ⟨hS, u0, u1', hd⟩ := hD
  have hkn := hK.n
  have hv := hK.v h0 h1
  have hc := hK.c hv.1 hv.2.1
  have hsp := m_spd_in hK hS hv.1 hv.2.1
  obtain ⟨b1, b2, b3, b4, b5, b6⟩ := m_workL_in hK (v := v) (K 0 1).toNat s.2.1 s.2.2 (m_spd K s.2.1 (K 7 v.toNat)) hS (by omega) (by omega)
  unfold m_work
  dsimp only
  generalize m_workL K v (K 0 1).toNat s.2.1 s.2.2 (m_spd K s.2.1 (K 7 v.toNat)) = r at b1 b2 b3 b4 b5 b6 ⊢
  have hi := m_idle1_in (u := m_spd K s.2.1 (K 7 v.toNat) - r.2.2) hK b1 h0 h1
  have hm1 : 0 ≤ (m_spd K s.2.1 (K 7 v.toNat) - r.2.2) * m_cst K s.2.1 (K 7 v.toNat) := Int.mul_nonneg (by omega) (by omega)
  have hm2 : (m_spd K s.2.1 (K 7 v.toNat) - r.2.2) * m_cst K s.2.1 (K 7 v.toNat) ≤ 99 * 99 := Int.mul_le_mul (by omega) (by omega) (by omega) (by omega)
  refine ⟨⟨hi.1, ?_, ?_, fun t t0 t1 => ?_⟩, fun i i0 i1 => ?_⟩
  · dsimp only
    split <;> omega
  · dsimp only
    split <;> omega
  · dsimp only
    have hx := hd t t0 t1
    obtain ⟨c1, c2, c3⟩ := b5 t t0 t1
    rw [hi.2 (21 + t).toNat (by omega), b4 (21 + t).toNat (by omega)]
    by_cases e : s.2.1 (21 + t).toNat = v
    · have z := hx.2.2 (by omega)
      exact ⟨by omega, by omega, fun q => by omega⟩
    · rw [c3 e]
      exact ⟨hx.1, hx.2.1, fun q => hx.2.2 (by omega)⟩
  · rw [hi.2 i i0, b4 i i1]
theorem m_fade_in (hK : WK K) (hd : ∀ t : Int, 0 ≤ t → t < K 0 1 → 0 ≤ d t.toNat ∧ d t.toNat ≤ K 0 3) {t : Int} (h0 : 0 ≤ t) (h1 : t < K 0 1) (hS : WS K w) : 0 ≤ Int.tdiv (d t.toNat * 1024) (K 0 3) ∧ Int.tdiv (d t.toNat * 1024) (K 0 3) ≤ 1024 ∧ 0 ≤ Int.tdiv (7 * w (29 + t).toNat + Int.tdiv (d t.toNat * 1024) (K 0 3)) 8 ∧ Int.tdiv (7 * w (29 + t).toNat + Int.tdiv (d t.toNat * 1024) (K 0 3)) 8 ≤ 1024 := by
  have hkn := hK.n
  have hx := hS.t h0 h1
  have h2 := hd t h0 h1
  have e1 : Int.tdiv (d t.toNat * 1024) (K 0 3) = d t.toNat * 1024 / K 0 3 := Int.tdiv_eq_ediv_of_nonneg (by omega)
  have e2 : 0 ≤ d t.toNat * 1024 / K 0 3 := Int.ediv_nonneg (by omega) (by omega)
  have e3 : d t.toNat * 1024 / K 0 3 ≤ 1024 := Int.ediv_le_of_le_mul (by omega) (by have := Int.mul_le_mul_of_nonneg_right h2.2 (show (0:Int) ≤ 1024 by omega); omega)
  have e4 : Int.tdiv (7 * w (29 + t).toNat + Int.tdiv (d t.toNat * 1024) (K 0 3)) 8 = (7 * w (29 + t).toNat + Int.tdiv (d t.toNat * 1024) (K 0 3)) / 8 := Int.tdiv_eq_ediv_of_nonneg (by omega)
  omega
end S_WF
