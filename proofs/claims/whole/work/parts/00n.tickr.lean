-- the reference's tick, its second half
section S_TR
variable {σ K : Nat → Nat → Int} {b : Nat} {w d e : Nat → Int} {tr th : Int}
theorem R_nextOn (hM : RM σ K) (hK : WK K) (hS : WS K (σ b)) {v : Int} : f_X12_nextOn b v σ = some (m_next K (σ b) v) := by
  have hkn := hK.n
  have hn := hS.n
  have h := iter_loop (F := fun k t (s : Int × Int) => f_X12_nextOn_8 k b v s.1 s.2 t σ) (X := m_nextS K (σ b) v) (hi := K 0 1) (fin := fun s => some s.1) (fun t _ => 0 ≤ t)
    (fun k t s ht hp => by
      have hx := hS.t hp ht
      have hk := hK.t hp ht
      have hl := m_left_in hK hS hp ht
      have el : K 9 t.toNat - Int.tmod (σ b 41) (K 9 t.toNat) = m_left K (σ b) t := rfl
      refine ⟨?_, by omega⟩
      show f_X12_nextOn_8 (k + 1) b v s.1 s.2 t σ = _
      rw [f_X12_nextOn_8]
      unfold m_nextS
      by_cases c1 : σ b (21 + t).toNat = v
      · by_cases c2 : σ b (25 + t).toNat = 0
        · simp (disch := first | assumption | omega) only [if_true, if_false, zid, zlid, if_pos, if_neg, u2_e, u2_c, u2_i, u1_e, u1_i, Option.bind_some, hM.n1]
        · by_cases c3 : s.1 = -1
          · simp (disch := first | assumption | omega) only [if_true, if_false, zid, zlid, if_pos, if_neg, u2_e, u2_c, u2_i, u1_e, u1_i, Option.bind_some, hM.n1, hM.t1, el]
          · by_cases c4 : m_left K (σ b) t < s.2 <;> simp (disch := first | assumption | omega) only [if_true, if_false, zid, zlid, if_pos, if_neg, u2_e, u2_c, u2_i, u1_e, u1_i, Option.bind_some, hM.n1, hM.t1, el]
      · simp (disch := first | assumption | omega) only [if_true, if_false, zid, zlid, if_pos, if_neg, u2_e, u2_c, u2_i, u1_e, u1_i, Option.bind_some, hM.n1])
    (fun k s hp => by
      show f_X12_nextOn_8 (k + 1) b v s.1 s.2 (K 0 1) σ = _
      rw [f_X12_nextOn_8]
      simp (disch := first | assumption | omega) only [if_true, if_false, zid, zlid, if_pos, if_neg, u2_e, u2_c, u2_i, u1_e, u1_i, Option.bind_some, hM.n1]) (K 0 1).toNat 100000 0 (-1, 0) (by omega) (by omega) (by omega)
  unfold f_X12_nextOn m_next
  exact h.1
theorem R_works_29 (hM : RM σ K) (hK : WK K) (hb : 776 ≤ b) (hb2 : b < 780) {v c : Int} : ∀ (n k : Nat) (w e : Nat → Int) (left units : Int), WS K w → 0 ≤ left → left ≤ 99 → 0 ≤ units → units + left ≤ 1000 → (∀ t : Int, 0 ≤ t → t < K 0 1 → 0 ≤ e t.toNat ∧ e t.toNat + left ≤ 1000) → m_cnt w v (K 0 1).toNat ≤ n → n < k →
    f_X12_works_29 k b v c left units (m_next K w v) (setR (setR σ b w) 780 e) = f_X12_works_115 b v c (units + (left - (m_workL K v n w e left).2.2)) (setR (setR σ b (m_workL K v n w e left).1) 780 (m_workL K v n w e left).2.1) := by
  have hkn := hK.n
  intro n
  induction n with
  | zero =>
    intro k w e left units hS l0 l1 q0 q1 he hc hk
    obtain ⟨k, rfl⟩ : ∃ j, k = j + 1 := ⟨k - 1, by omega⟩
    have h6 := (m_workL_in hK (v := v) 0 w e left hS l0 l1).2.2.2.2.2 hc
    have e1 : units + (left - (m_workL K v 0 w e left).2.2) = units := by
      show units + (left - left) = units
      omega
    rw [f_X12_works_29, e1]
    unfold m_workL at h6 ⊢
    dsimp only at h6 ⊢
    by_cases c1 : left ≤ 0
    · simp (disch := first | assumption | omega) only [if_true, if_false, zid, zlid, if_pos, if_neg, u2_e, u2_c, u2_i, u1_e, u1_i, Option.bind_some]
    · have c2 : m_next K w v = -1 := by omega
      simp (disch := first | assumption | omega) only [if_true, if_false, zid, zlid, if_pos, if_neg, u2_e, u2_c, u2_i, u1_e, u1_i, Option.bind_some]
  | succ n ih =>
    intro k w e left units hS l0 l1 q0 q1 he hc hk
    obtain ⟨k, rfl⟩ : ∃ j, k = j + 1 := ⟨k - 1, by omega⟩
    rw [f_X12_works_29]
    unfold m_workL
    by_cases c1 : left ≤ 0
    · rw [if_pos (Or.inl c1)]
      simp (disch := first | assumption | omega) only [if_true, if_false, zid, zlid, if_pos, if_neg, u2_e, u2_c, u2_i, u1_e, u1_i, Option.bind_some]
      rw [show units + (left - left) = units from by omega]
    · rcases m_next_in (w := w) (v := v) hK with q | q
      · rw [if_pos (Or.inr q.1)]
        have c2 := q.1
        simp (disch := first | assumption | omega) only [if_true, if_false, zid, zlid, if_pos, if_neg, u2_e, u2_c, u2_i, u1_e, u1_i, Option.bind_some]
        rw [show units + (left - left) = units from by omega]
      · rw [if_neg (show ¬ (left ≤ 0 ∨ m_next K w v = -1) by omega)]
        generalize hu : m_next K w v = u at q ⊢
        have hx := hS.t q.1 q.2.1
        have hd := he u q.1 q.2.1
        generalize hm : min left (w (25 + u).toNat) = m
        have hS' := hS.u_rest hK q.1 q.2.1 (x := w (25 + u).toNat - m) (by omega) (by omega)
        have hS'' : WS K ((setR (setR σ b (u1 w (25 + u).toNat (w (25 + u).toNat - m))) 780 (u1 e u.toNat (e u.toNat + m))) b) := by
          rw [setR_n (by omega), setR_s]
          exact hS'
        have hM' := (hM.set (b := b) (w := u1 w (25 + u).toNat (w (25 + u).toNat - m)) (by omega)).set (b := 780) (w := u1 e u.toNat (e u.toNat + m)) (by omega)
        have hnx : f_X12_nextOn b v (setR (setR σ b (u1 w (25 + u).toNat (w (25 + u).toNat - m))) 780 (u1 e u.toNat (e u.toNat + m))) = some (m_next K (u1 w (25 + u).toNat (w (25 + u).toNat - m)) v) := by
          rw [R_nextOn hM' hK hS'', setR_n (by omega), setR_s]
        have h64 : f_X12_works_64 (f_X12_works_29 k) b v c left units u m (setR (setR σ b w) 780 e) = f_X12_works_29 k b v c (left - m) (units + m) (m_next K (u1 w (25 + u).toNat (w (25 + u).toNat - m)) v) (setR (setR σ b (u1 w (25 + u).toNat (w (25 + u).toNat - m))) 780 (u1 e u.toNat (e u.toNat + m))) := by
          unfold f_X12_works_64
          simp (disch := first | assumption | omega) only [if_true, if_false, zid, zlid, if_pos, if_neg, u2_e, u2_c, u2_i, u1_e, u1_i, Option.bind_some, setR_n, setR_s, setR_un, setR_u, hnx]
        have hcount : left ≤ w (25 + u).toNat ∨ m_cnt (u1 w (25 + u).toNat (w (25 + u).toNat - m)) v (K 0 1).toNat ≤ n := by
          by_cases e1 : left ≤ w (25 + u).toNat
          · exact Or.inl e1
          · have e2 : w (25 + u).toNat - m = 0 := by omega
            rw [e2, m_cnt_less q.1 q.2.2 (by omega) _ (by omega), if_pos (by omega)]
            omega
        have hstep : f_X12_works_29 k b v c (left - m) (units + m) (m_next K (u1 w (25 + u).toNat (w (25 + u).toNat - m)) v) (setR (setR σ b (u1 w (25 + u).toNat (w (25 + u).toNat - m))) 780 (u1 e u.toNat (e u.toNat + m))) = f_X12_works_115 b v c (units + m + (left - m - (m_workL K v n (u1 w (25 + u).toNat (w (25 + u).toNat - m)) (u1 e u.toNat (e u.toNat + m)) (left - m)).2.2)) (setR (setR σ b (m_workL K v n (u1 w (25 + u).toNat (w (25 + u).toNat - m)) (u1 e u.toNat (e u.toNat + m)) (left - m)).1) 780 (m_workL K v n (u1 w (25 + u).toNat (w (25 + u).toNat - m)) (u1 e u.toNat (e u.toNat + m)) (left - m)).2.1) := by
          rcases hcount with hz | hz
          · have e0 : left - m = 0 := by omega
            rw [e0]
            obtain ⟨k, rfl⟩ : ∃ j, k = j + 1 := ⟨k - 1, by omega⟩
            have ew : ∀ (n : Nat) (w e : Nat → Int), m_workL K v n w e 0 = (w, e, 0) := by
              intro n w e
              cases n with
              | zero => rfl
              | succ n =>
                unfold m_workL
                exact if_pos (Or.inl (by omega))
            rw [ew, f_X12_works_29]
            dsimp only
            simp (disch := first | assumption | omega) only [if_true, if_false, zid, zlid, if_pos, if_neg, u2_e, u2_c, u2_i, u1_e, u1_i, Option.bind_some]
            rw [show units + m + (0 - 0) = units + m from by omega]
          · refine ih k _ _ (left - m) (units + m) hS' (by omega) (by omega) (by omega) (by omega) (fun t t0 t1 => ?_) hz (by omega)
            have ht := he t t0 t1
            by_cases e1 : t = u
            · subst e1
              rw [u1_e]
              omega
            · rw [u1_i (by omega)]
              omega
        have hfin := h64.trans hstep
        rw [show units + m + (left - m - (m_workL K v n (u1 w (25 + u).toNat (w (25 + u).toNat - m)) (u1 e u.toNat (e u.toNat + m)) (left - m)).2.2) = units + (left - (m_workL K v n (u1 w (25 + u).toNat (w (25 + u).toNat - m)) (u1 e u.toNat (e u.toNat + m)) (left - m)).2.2) from by omega] at hfin
        rw [← hfin]
        by_cases e1 : left ≤ w (25 + u).toNat
        · have e2 : left = m := by omega
          simp (disch := first | assumption | omega) only [if_true, if_false, zid, zlid, if_pos, if_neg, u2_e, u2_c, u2_i, u1_e, u1_i, Option.bind_some, setR_n, setR_s]
          rw [← e2]
        · have e2 : w (25 + u).toNat = m := by omega
          simp (disch := first | assumption | omega) only [if_true, if_false, zid, zlid, if_pos, if_neg, u2_e, u2_c, u2_i, u1_e, u1_i, Option.bind_some, setR_n, setR_s]
          rw [e2]
theorem R_works (hM : RM σ K) (hK : WK K) (hb : 776 ≤ b) (hb2 : b < 780) {v : Int} (h0 : 0 ≤ v) (h1 : v < K 0 2) {x : Int} (hD : WD K v (x, w, e)) : ∃ u, f_X12_works b v (setR (setR σ b w) 780 e) = some (u, setR (setR σ b (m_work K v (x, w, e)).2.1) 780 (m_work K v (x, w, e)).2.2) ∧ (m_work K v (x, w, e)).1 = x + u := by
  obtain ⟨hS, u0, u9, hd⟩ := hD
  dsimp only at hS u0 u9 hd
  have hkn := hK.n
  have hv := hK.v h0 h1
  have hc := hK.c hv.1 hv.2.1
  have hx := hS.c hv.1 hv.2.1
  have hsp := m_spd_in hK hS hv.1 hv.2.1
  have hMs := (hM.set (b := b) (w := w) (by omega)).set (b := 780) (w := e) (by omega)
  have hSs : WS K ((setR (setR σ b w) 780 e) b) := by
    rw [setR_n (by omega), setR_s]
    exact hS
  have hn0 : f_X12_nextOn b v (setR (setR σ b w) 780 e) = some (m_next K w v) := by
    rw [R_nextOn hMs hK hSs, setR_n (by omega), setR_s]
  have hcn := m_cnt_in (w := w) (v := v) (K 0 1).toNat
  have hloop := R_works_29 hM hK hb hb2 (v := v) (c := K 7 v.toNat) (K 0 1).toNat 100000 w e (m_spd K w (K 7 v.toNat)) 0 hS (by omega) (by omega) (by omega) (by omega) (fun t t0 t1 => by have := hd t t0 t1; omega) (by omega) (by omega)
  obtain ⟨b1, b2, b3, b4, b5, b6⟩ := m_workL_in hK (v := v) (K 0 1).toNat w e (m_spd K w (K 7 v.toNat)) hS (by omega) (by omega)
  unfold m_work
  dsimp only
  generalize m_workL K v (K 0 1).toNat w e (m_spd K w (K 7 v.toNat)) = r at hloop b1 b2 b3 b4 b5 b6 ⊢
  have esp : K 5 (5 * K 7 v.toNat + w (K 7 v.toNat).toNat).toNat = m_spd K w (K 7 v.toNat) := rfl
  refine ⟨(m_spd K w (K 7 v.toNat) - r.2.2) * m_cst K w (K 7 v.toNat) + (if w (9 + v).toNat = 0 then K 2 (K 7 v.toNat).toNat else 0), ?_, rfl⟩
  unfold f_X12_works
  simp (disch := first | assumption | omega) only [if_true, if_false, zid, zlid, if_pos, if_neg, u2_e, u2_c, u2_i, u1_e, u1_i, Option.bind_some, R_clusterOf hMs hK, R_speed hMs, setR_n, setR_s, Int.zero_add, esp, hn0]
  rw [hloop]
  have hMr := (hM.set (b := b) (w := r.1) (by omega)).set (b := 780) (w := r.2.1) (by omega)
  rw [show (0 : Int) + (m_spd K w (K 7 v.toNat) - r.2.2) = m_spd K w (K 7 v.toNat) - r.2.2 from by omega]
  have hm1 : 0 ≤ (m_spd K w (K 7 v.toNat) - r.2.2) * m_cst K w (K 7 v.toNat) := Int.mul_nonneg (by omega) (by omega)
  have hm2 : (m_spd K w (K 7 v.toNat) - r.2.2) * m_cst K w (K 7 v.toNat) ≤ 99 * 99 := Int.mul_le_mul (by omega) (by omega) (by omega) (by omega)
  have ecs : K 6 (5 * K 7 v.toNat + w (K 7 v.toNat).toNat).toNat = m_cst K w (K 7 v.toNat) := rfl
  have e4 := b4 (K 7 v.toNat).toNat (by omega)
  have e9 := b4 (9 + v).toNat (by omega)
  unfold f_X12_works_115
  simp (disch := first | assumption | omega) only [if_true, if_false, zid, zlid, if_pos, if_neg, u2_e, u2_c, u2_i, u1_e, u1_i, Option.bind_some, setR_n, setR_s, Int.zero_add, R_cost hMr, e4, e9, ecs]
  have r1 : ∀ w' r', setR (setR σ b w') 780 r' 761 2 = K 10 2 := fun w' r' => by
    rw [setR_n (by omega), setR_n (by omega)]
    exact hM.r2
  have r2 : setR (setR σ b r.1) 780 r.2.1 763 (4 * K 7 v.toNat + 1).toNat = K 2 (K 7 v.toNat).toNat := hMr.c1 hv.1 (by omega)
  rw [setR_n (by omega), setR_n (by omega)] at r2
  unfold m_idle1
  by_cases c1 : w (9 + v).toNat = 0
  · by_cases c2 : m_spd K w (K 7 v.toNat) - r.2.2 ≤ 0
    · by_cases c3 : K 10 2 ≤ z_w (r.1 (15 + v).toNat + 1) <;> simp (disch := first | assumption | omega) only [if_true, if_false, zid, zlid, if_pos, if_neg, u2_e, u2_c, u2_i, u1_e, u1_i, Option.bind_some, f_X12_works_151, f_X12_works_176, setR_n, setR_s, setR_un, setR_u, r1, r2, hM.r2]
    · simp (disch := first | assumption | omega) only [if_true, if_false, zid, zlid, if_pos, if_neg, u2_e, u2_c, u2_i, u1_e, u1_i, Option.bind_some, f_X12_works_151, f_X12_works_176, setR_n, setR_s, setR_un, setR_u, r1, r2, hM.r2]
  · by_cases c2 : m_spd K w (K 7 v.toNat) - r.2.2 ≤ 0
    · by_cases c3 : K 10 2 ≤ z_w (r.1 (15 + v).toNat + 1) <;> simp (disch := first | assumption | omega) only [if_true, if_false, zid, zlid, if_pos, if_neg, u2_e, u2_c, u2_i, u1_e, u1_i, Option.bind_some, f_X12_works_151, f_X12_works_176, setR_n, setR_s, setR_un, setR_u, r1, r2, hM.r2]
    · simp (disch := first | assumption | omega) only [if_true, if_false, zid, zlid, if_pos, if_neg, u2_e, u2_c, u2_i, u1_e, u1_i, Option.bind_some, f_X12_works_151, f_X12_works_176, setR_n, setR_s, setR_un, setR_u, r1, r2, hM.r2]
end S_TR
