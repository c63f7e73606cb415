-- a tick of the reference is a tick as numbers
section S_CR
variable {σ K : Nat → Nat → Int} {b : Nat} {w d : Nat → Int} {tr th : Int}
theorem setR_row (σ : Nat → Nat → Int) (b : Nat) (w : Nat → Int) (h : σ b = w) : σ = setR σ b w := by rw [← h, setR_id]
theorem R_begins_2 (hM : RM σ K) (hK : WK K) (hb : 776 ≤ b) {k : Nat} {t : Int} (h0 : 0 ≤ t) (h1 : t < K 0 1) (hS : WS K w) (hl : w (33 + t).toNat ≤ w 41) :
    f_X12_begins_2 (k + 1) b t (setR σ b w) = f_X12_begins_2 k b (t + 1) (setR σ b (m_relS K t w)) := by
  have hkn := hK.n
  have hn := hS.n
  have hk := hK.t h0 h1
  have hx := hS.t h0 h1
  have hle := m_left_in hK hS h0 h1
  have hM' := hM.set (b := b) (w := w) (by omega)
  rw [f_X12_begins_2]
  unfold m_relS
  by_cases c1 : w (37 + t).toNat = 1
  · simp (disch := first | assumption | omega) only [if_true, if_false, zid, zlid, if_pos, if_neg, u2_e, u2_c, u2_i, u1_e, u1_i, Option.bind_some, hM'.n1, setR_s]
  · by_cases c2 : Int.tmod (w 41) (K 9 t.toNat) = 0
    · have e : ¬ (w (37 + t).toNat = 1 ∨ m_left K w t ≠ K 9 t.toNat) := by unfold m_left; omega
      rw [if_neg e]
      by_cases c3 : 0 < w (25 + t).toNat
      · simp (disch := first | assumption | omega) only [if_true, if_false, zid, zlid, if_pos, if_neg, u2_e, u2_c, u2_i, u1_e, u1_i, Option.bind_some, hM'.n1, hM'.t0, hM'.t1, setR_s, f_X12_begins_60, setR_u, setR_n, hM.t0]
      · simp (disch := first | assumption | omega) only [if_true, if_false, zid, zlid, if_pos, if_neg, u2_e, u2_c, u2_i, u1_e, u1_i, Option.bind_some, hM'.n1, hM'.t0, hM'.t1, setR_s, f_X12_begins_60, setR_u]
    · have e : w (37 + t).toNat = 1 ∨ m_left K w t ≠ K 9 t.toNat := by unfold m_left; omega
      rw [if_pos e]
      simp (disch := first | assumption | omega) only [if_true, if_false, zid, zlid, if_pos, if_neg, u2_e, u2_c, u2_i, u1_e, u1_i, Option.bind_some, hM'.n1, hM'.t0, hM'.t1, setR_s]
theorem R_hasRest (hM : RM σ K) (hK : WK K) {v : Int} : f_X12_hasRest b v σ = some (m_hr K (σ b) v) := by
  have hkn := hK.n
  have st : ∀ (n k : Nat) (t : Int), 0 ≤ t → t + n = K 0 1 → n < k → f_X12_hasRest_2 k b v t σ = some (m_hrL (σ b) v n t) := by
    intro n
    induction n with
    | zero =>
      intro k t h0 h1 hk
      obtain ⟨k, rfl⟩ : ∃ j, k = j + 1 := ⟨k - 1, by omega⟩
      rw [f_X12_hasRest_2]
      unfold m_hrL
      simp (disch := first | assumption | omega) only [if_true, if_false, zid, zlid, if_pos, if_neg, u2_e, u2_c, u2_i, u1_e, u1_i, Option.bind_some, hM.n1]
    | succ n ih =>
      intro k t h0 h1 hk
      obtain ⟨k, rfl⟩ : ∃ j, k = j + 1 := ⟨k - 1, by omega⟩
      rw [f_X12_hasRest_2]
      unfold m_hrL
      by_cases c1 : σ b (21 + t).toNat = v <;> by_cases c2 : 0 < σ b (25 + t).toNat <;> simp (disch := first | assumption | omega) only [if_true, if_false, zid, zlid, if_pos, if_neg, u2_e, u2_c, u2_i, u1_e, u1_i, Option.bind_some, hM.n1]
      all_goals exact ih k (t + 1) (by omega) (by omega) (by omega)
  unfold f_X12_hasRest m_hr
  exact st (K 0 1).toNat 100000 0 (by omega) (by omega) (by omega)
theorem R_begins_84 (hM : RM σ K) (hK : WK K) (hb : 776 ≤ b) (hS : WS K w) : f_X12_begins_84 100000 b 0 0 (setR σ b w) = some ((m_wake K w).1, setR σ b (m_wake K w).2) := by
  have hkn := hK.n
  refine sim_loop (F := fun k v (s : Int × (Nat → Int)) => f_X12_begins_84 k b s.1 v (setR σ b s.2)) (X := fun v s => if m_hr K w v = 1 then m_wk K v s else s) (hi := K 0 2)
    (fun v a s => a = s ∧ 0 ≤ v ∧ WS K s.2 ∧ 0 ≤ s.1 ∧ s.1 ≤ 99 * v ∧ (∀ i : Nat, i < 6 ∨ 15 ≤ i → s.2 i = w i)) (fun s r => r = some (s.1, setR σ b s.2)) ?_ ?_ (K 0 2).toNat 100000 0 (0, w) (0, w) (by omega) (by omega) ⟨rfl, by omega, hS, by simp, by simp, fun _ _ => rfl⟩
  · rintro k v a s hv ⟨rfl, p0, p1, p2, p3, p4⟩
    have hM' := hM.set (b := b) (w := a.2) (by omega)
    have hM'' := hM.set (b := b) (w := u1 a.2 (9 + v).toNat 0) (by omega)
    have hx := p1.v p0 hv
    have hkv := hK.v p0 hv
    have hkc := hK.c hkv.1 hkv.2.1
    have hin := m_wk_in hK p0 hv p1
    have ho := fun i hi => m_wk_o hK p0 hv (s := a) (i := i) hi
    have hhr : m_hr K a.2 v = m_hr K w v := m_hr_c hK (fun i _ _ => p4 i (by omega))
    refine ⟨if m_hr K w v = 1 then m_wk K v a else a, ?_, rfl, by omega, ?_⟩
    · rw [f_X12_begins_84]
      unfold m_wk
      rcases (m_hr_in (K := K) (w := w) (v := v)).2 with hz | hz
      · by_cases c1 : a.2 (9 + v).toNat = 0 <;> simp (disch := first | assumption | omega) only [if_true, if_false, zid, zlid, if_pos, if_neg, u2_e, u2_c, u2_i, u1_e, u1_i, Option.bind_some, hM'.n2, setR_s, R_hasRest hM' hK, hhr, hz]
      · by_cases c1 : a.2 (9 + v).toNat = 0 <;> simp (disch := first | assumption | omega) only [if_true, if_false, zid, zlid, if_pos, if_neg, u2_e, u2_c, u2_i, u1_e, u1_i, Option.bind_some, hM'.n2, setR_s, R_hasRest hM' hK, hhr, hz, setR_u, R_clusterOf hM'' hK, hM''.c2, hM''.r3, hM'.c2, hM'.r3]
    · split
      · exact ⟨hin.1, by omega, by omega, fun i hi => (ho i hi).trans (p4 i hi)⟩
      · exact ⟨p1, p2, by omega, p4⟩
  · rintro k a s ⟨rfl, p0, p1, p2, p3, p4⟩
    have hM' := hM.set (b := b) (w := a.2) (by omega)
    rw [f_X12_begins_84]
    simp (disch := first | assumption | omega) only [if_true, if_false, zid, zlid, if_pos, if_neg, u2_e, u2_c, u2_i, u1_e, u1_i, Option.bind_some, hM'.n2]
theorem R_begins (hM : RM σ K) (hK : WK K) (hb : 776 ≤ b) (hS : WS K w) (hL : WL K w) : f_X12_begins b (setR σ b w) = some ((m_wake K (m_rel K w)).1, setR σ b (m_wake K (m_rel K w)).2) := by
  have hkn := hK.n
  unfold f_X12_begins
  refine sim_loop (F := fun k t (s : Nat → Int) => f_X12_begins_2 k b t (setR σ b s)) (X := m_relS K) (hi := K 0 1)
    (fun t a s => a = s ∧ 0 ≤ t ∧ WS K s ∧ s 41 = w 41 ∧ (∀ u : Int, t ≤ u → u < K 0 1 → s (33 + u).toNat = w (33 + u).toNat)) (fun s r => WS K s → r = some ((m_wake K s).1, setR σ b (m_wake K s).2)) ?_ ?_ (K 0 1).toNat 100000 0 w w (by omega) (by omega) ⟨rfl, by omega, hS, rfl, fun _ _ _ => rfl⟩ (m_rel_in hK hS hL).1
  · rintro k t a s ht ⟨rfl, p0, p1, p2, p3⟩
    have hle : a (33 + t).toNat ≤ a 41 := by rw [p3 t (by omega) ht, p2]; exact hL t p0 ht
    obtain ⟨a1, a2, a3⟩ := m_relS_in hK p1 p0 ht hle
    refine ⟨m_relS K t a, R_begins_2 hM hK hb p0 ht p1 hle, rfl, by omega, a1, ?_, fun u u0 u1 => ?_⟩
    · rw [m_relS_o p0 (by omega) (by omega), p2]
    · rw [a2 u (by omega) u1 (by omega), p3 u (by omega) u1]
  · rintro k a s ⟨rfl, p0, p1, p2, p3⟩ hs
    have hM' := hM.set (b := b) (w := a) (by omega)
    rw [f_X12_begins_2]
    simp (disch := first | assumption | omega) only [if_true, if_false, zid, zlid, if_pos, if_neg, u2_e, u2_c, u2_i, u1_e, u1_i, Option.bind_some, hM'.n1]
    exact R_begins_84 hM hK hb hs
theorem R_chooses (hM : RM σ K) (hK : WK K) (hb : 776 ≤ b) (hS : WS K w) (h38 : σ 758 38 = tr) (h39 : σ 758 39 = th) (ht : 0 ≤ th) {c : Int} (h0 : 0 ≤ c) (h1 : c < K 0 0) : f_X12_chooses b c (setR σ b w) = some (setR σ b (m_choose K tr th c w)) := by
  have hkn := hK.n
  have hkc := hK.c h0 h1
  have hx := hS.c h0 h1
  have hq := m_want_in (w := w) hK h0 h1
  have hM' := hM.set (b := b) (w := w) (by omega)
  have q38 : ∀ w', setR σ b w' 758 38 = tr := fun w' => by rw [setR_ni (by omega)]; exact h38
  have q39 : ∀ w', setR σ b w' 758 39 = th := fun w' => by rw [setR_ni (by omega)]; exact h39
  have r1 : ∀ w' r, setR σ b w' 761 r = σ 761 r := fun w' r => setR_ni (by omega)
  -- from ch2 on
  have k127 : ∀ w', WS K w' → f_X12_chooses_127 b c (setR σ b w') = some (setR σ b (m_ch4 c w')) := fun w' hS' => by
    have hy := hS'.c h0 h1
    unfold f_X12_chooses_127 m_ch4
    by_cases e : 0 < w' (6 + c).toNat <;> simp (disch := first | assumption | omega) only [if_true, if_false, zid, zlid, if_pos, if_neg, u2_e, u2_c, u2_i, u1_e, u1_i, Option.bind_some, setR_s, setR_u]
  have k81 : ∀ w', WS K w' → f_X12_chooses_81 b c (setR σ b w') = some (setR σ b (m_ch4 c (m_ch3 K c (m_ch2 K tr th c w')))) := fun w' hS' => by
    have hy := hS'.c h0 h1
    have hM1 := hM.set (b := b) (w := w') (by omega)
    have hS1 : WS K (setR σ b w' b) := by rw [setR_s]; exact hS'
    have hbd := m_bounded_in (tr := tr) (p := w' c.toNat) hS' (c := c) (by omega) ht
    have hS2 : WS K (m_ch2 K tr th c w') := hS'.u_point hK h0 h1 hbd.1 hbd.2
    have hz := hS2.c h0 h1
    have hS3 : WS K (u1 (m_ch2 K tr th c w') c.toNat (m_ch2 K tr th c w' c.toNat - 1)) ∨ m_ch2 K tr th c w' c.toNat ≤ 0 := by
      by_cases e : 0 < m_ch2 K tr th c w' c.toNat
      · exact Or.inl (hS2.u_point hK h0 h1 (by omega) (by omega))
      · exact Or.inr (by omega)
    have e42 : m_ch2 K tr th c w' 42 = w' 42 := by
      unfold m_ch2
      rw [u1_i (by omega)]
    have ec : m_ch2 K tr th c w' c.toNat = m_bounded K w' tr th c (w' c.toNat) := u1_e
    unfold f_X12_chooses_81
    simp (disch := first | assumption | omega) only [if_true, if_false, zid, zlid, if_pos, if_neg, u2_e, u2_c, u2_i, u1_e, u1_i, Option.bind_some, R_bounded hM1 hK hS1 (q38 w') (q39 w'), setR_s, setR_u, Int.zero_add, r1, hM.r4]
    rw [show u1 w' c.toNat (m_bounded K w' tr th c (w' c.toNat)) = m_ch2 K tr th c w' from rfl]
    unfold m_ch3
    rw [ec] at hS3 ⊢
    rw [e42]
    by_cases e1 : K 10 4 < w' 42
    · by_cases e2 : 0 < m_bounded K w' tr th c (w' c.toNat)
      · rcases hS3 with hS3 | hS3
        · simp (disch := first | assumption | omega) only [if_true, if_false, zid, zlid, if_pos, if_neg, u2_e, u2_c, u2_i, u1_e, u1_i, Option.bind_some, setR_s, setR_u, k127]
        · omega
      · simp (disch := first | assumption | omega) only [if_true, if_false, zid, zlid, if_pos, if_neg, u2_e, u2_c, u2_i, u1_e, u1_i, Option.bind_some, setR_s, setR_u, k127]
    · simp (disch := first | assumption | omega) only [if_true, if_false, zid, zlid, if_pos, if_neg, u2_e, u2_c, u2_i, u1_e, u1_i, Option.bind_some, setR_s, setR_u, k127]
  have hSw : WS K (setR σ b w b) := by rw [setR_s]; exact hS
  have hc1 := m_ch1_in hK hS h0 h1 hq.1 hq.2
  unfold f_X12_chooses m_choose
  rw [R_wantOf hM' hK hSw h0 h1, setR_s]
  unfold m_ch1 at hc1 ⊢
  simp (disch := first | assumption | omega) only [if_true, if_false, zid, zlid, if_pos, if_neg, u2_e, u2_c, u2_i, u1_e, u1_i, Option.bind_some, setR_s, setR_u, Int.zero_add, r1, hM.r1]
  by_cases e1 : w c.toNat < m_want K w c
  · rw [if_pos e1] at hc1 ⊢
    simp (disch := first | assumption | omega) only [if_true, if_false, zid, zlid, if_pos, if_neg, u2_e, u2_c, u2_i, u1_e, u1_i, Option.bind_some, k81]
  · rw [if_neg e1] at hc1 ⊢
    by_cases e2 : m_want K w c < w c.toNat ∧ K 10 1 ≤ w (3 + c).toNat
    · rw [if_pos e2] at hc1 ⊢
      simp (disch := first | assumption | omega) only [if_true, if_false, zid, zlid, if_pos, if_neg, u2_e, u2_c, u2_i, u1_e, u1_i, Option.bind_some, k81]
    · rw [if_neg e2] at hc1 ⊢
      by_cases e3 : w c.toNat ≤ m_want K w c
      · simp (disch := first | assumption | omega) only [if_true, if_false, zid, zlid, if_pos, if_neg, u2_e, u2_c, u2_i, u1_e, u1_i, Option.bind_some, f_X12_chooses_72, setR_s, setR_u, k81]
      · simp (disch := first | assumption | omega) only [if_true, if_false, zid, zlid, if_pos, if_neg, u2_e, u2_c, u2_i, u1_e, u1_i, Option.bind_some, f_X12_chooses_72, setR_s, setR_u, k81]
end S_CR
