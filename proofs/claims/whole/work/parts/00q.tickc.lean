-- the class's tick, its second half
section S_TC
variable {σ K : Nat → Nat → Int} {a a1 : Nat} {w d : Nat → Int} {tr th : Int}
theorem C_mostUrgent (hR : RS σ a K w tr th) (hC : RC σ a1 K) (hK : WK K) (hS : WS K w) {v : Int} : f_X2_mostUrgent a1 a v σ = some (m_next K w v) := by
  have hkn := hK.n
  unfold f_X2_mostUrgent m_next
  have h := sim_loop (F := fun k t (u : Int) => f_X2_mostUrgent_6 k a1 a v u t σ) (X := m_nextS K w v) (hi := K 0 1)
    (fun t u s => 0 ≤ t ∧ u = s.1 ∧ (s.1 = -1 ∨ (0 ≤ s.1 ∧ s.1 < K 0 1 ∧ s.2 = m_left K w s.1))) (fun s r => r = some s.1)
    (fun k t u s ht hp => by
      obtain ⟨p0, rfl, p2⟩ := hp
      have hx := hS.t p0 ht
      refine ⟨(m_nextS K w v t s).1, ?_, by omega, rfl, ?_⟩
      · rw [f_X2_mostUrgent_6]
        unfold m_nextS
        by_cases c1 : w (21 + t).toNat = v
        · by_cases c2 : w (25 + t).toNat = 0
          · simp (disch := first | assumption | omega) only [if_true, if_false, zid, zlid, if_pos, if_neg, u2_e, u2_c, u2_i, u1_e, u1_i, Option.bind_some, hC.n1, hR.t1, hR.t2]
          · by_cases c3 : s.1 = -1
            · simp (disch := first | assumption | omega) only [if_true, if_false, zid, zlid, if_pos, if_neg, u2_e, u2_c, u2_i, u1_e, u1_i, Option.bind_some, hC.n1, hR.t1, hR.t2]
            · have p3 : 0 ≤ s.1 ∧ s.1 < K 0 1 ∧ s.2 = m_left K w s.1 := by omega
              have e1 := C_ticksLeft hR hC hK hS (t := s.1) p3.1 p3.2.1
              rw [← p3.2.2] at e1
              by_cases c4 : m_left K w t < s.2 <;> simp (disch := first | assumption | omega) only [if_true, if_false, zid, zlid, if_pos, if_neg, u2_e, u2_c, u2_i, u1_e, u1_i, Option.bind_some, hC.n1, hR.t1, hR.t2, C_ticksLeft hR hC hK hS (t := t), e1]
        · simp (disch := first | assumption | omega) only [if_true, if_false, zid, zlid, if_pos, if_neg, u2_e, u2_c, u2_i, u1_e, u1_i, Option.bind_some, hC.n1, hR.t1, hR.t2]
      · unfold m_nextS
        split
        · split
          · exact Or.inr ⟨p0, ht, rfl⟩
          · split
            · exact Or.inr ⟨p0, ht, rfl⟩
            · exact p2
        · exact p2)
    (fun k u s hp => by
      obtain ⟨p0, rfl, p2⟩ := hp
      rw [f_X2_mostUrgent_6]
      simp (disch := first | assumption | omega) only [if_true, if_false, zid, zlid, if_pos, if_neg, u2_e, u2_c, u2_i, u1_e, u1_i, Option.bind_some, hC.n1]) (K 0 1).toNat 100000 0 (-1) (-1, 0) (by omega) (by omega) ⟨by omega, rfl, Or.inl rfl⟩
  exact h
theorem C_speedOf (hR : RS σ a K w tr th) (hC : RC σ a1 K) (hK : WK K) (hS : WS K w) {c : Int} (h0 : 0 ≤ c) (h1 : c < K 0 0) : f_X2_speedOf a1 a c σ = some (m_spd K w c) := by
  have hkn := hK.n
  have hkc := hK.c h0 h1
  have hx := hS.c h0 h1
  unfold f_X2_speedOf f_X2_speedOf_18 m_spd
  simp (disch := first | assumption | omega) only [if_true, if_false, zid, zlid, if_pos, if_neg, u2_e, u2_c, u2_i, u1_e, u1_i, Option.bind_some, C_hasCluster_y hC, hR.c5, C_hasPoint_y hC, hC.p7]
theorem C_costOf (hR : RS σ a K w tr th) (hC : RC σ a1 K) (hK : WK K) (hS : WS K w) {c : Int} (h0 : 0 ≤ c) (h1 : c < K 0 0) : f_X2_costOf a1 a c σ = some (m_cst K w c) := by
  have hkn := hK.n
  have hkc := hK.c h0 h1
  have hx := hS.c h0 h1
  unfold f_X2_costOf f_X2_costOf_18 m_cst
  simp (disch := first | assumption | omega) only [if_true, if_false, zid, zlid, if_pos, if_neg, u2_e, u2_c, u2_i, u1_e, u1_i, Option.bind_some, C_hasCluster_y hC, hR.c5, C_hasPoint_y hC, hC.p11]
theorem C_rememberIdling (hR : RS σ a K w tr th) (hC : RC σ a1 K) (hK : WK K) (hS : WS K w) (ha1 : a1 + 19 ≤ 42) (ha : 173 ≤ a) (ha2 : a + 13 ≤ 743) {v units f : Int} (h0 : 0 ≤ v) (h1 : v < K 0 2) (hf : f = if units ≤ 0 then 1 else 0) : ∃ σ', f_X2_rememberIdling a1 a v f σ = some σ' ∧ RS σ' a K (m_idle1 K v units w) tr th ∧ FR (fun c => a ≤ c ∧ c < a + 13) σ σ' := by
  have hkn := hK.n
  have hr := hK.r
  unfold m_idle1
  by_cases c1 : units ≤ 0
  · rw [if_pos c1] at hf ⊢
    subst hf
    have hR8 := hR.v8_u (x := z_w (w (15 + v).toNat + 1)) h0 (by omega) (by omega) (by omega) (by omega)
    by_cases c2 : K 10 2 ≤ z_w (w (15 + v).toNat + 1)
    · rw [if_pos c2]
      have hRb := hR8.b6_set (by omega) (by omega) (by omega) h0 h1
      rw [u2_c (σ := σ) (a := a + 8) (c := a) (by omega)] at hRb
      refine ⟨_, ?_, hRb, (FR.refl.u (by omega)).u (by omega)⟩
      unfold f_X2_rememberIdling f_X2_rememberIdling_22
      simp (disch := first | assumption | omega) only [if_true, if_false, zid, zlid, if_pos, if_neg, u2_e, u2_c, u2_i, u1_e, u1_i, Option.bind_some, hR.v8, hC.r2, C_withBit_1]
    · rw [if_neg c2]
      refine ⟨_, ?_, hR8, FR.refl.u (by omega)⟩
      unfold f_X2_rememberIdling f_X2_rememberIdling_22
      simp (disch := first | assumption | omega) only [if_true, if_false, zid, zlid, if_pos, if_neg, u2_e, u2_c, u2_i, u1_e, u1_i, Option.bind_some, hR.v8, hC.r2]
  · rw [if_neg c1] at hf ⊢
    subst hf
    refine ⟨_, ?_, hR.v8_u (x := 0) h0 (by omega) (by omega) (by omega) (by omega), FR.refl.u (by omega)⟩
    unfold f_X2_rememberIdling f_X2_rememberIdling_22
    simp (disch := first | assumption | omega) only [if_true, if_false, zid, zlid, if_pos, if_neg, u2_e, u2_c, u2_i, u1_e, u1_i, Option.bind_some, hC.r2]
theorem C_work_25 (hK : WK K) (ha1 : a1 + 19 ≤ 42) (ha : 173 ≤ a) (ha2 : a + 13 ≤ 743) {v c sp : Int} (hv0 : 0 ≤ v) (hv1 : v < K 0 2) : ∀ (n k : Nat) (turn left : Int) (w d : Nat → Int) (σ : Nat → Nat → Int), RS σ a K w tr th → RC σ a1 K → WS K w → (∀ t : Int, 0 ≤ t → t < K 0 1 → σ 744 t.toNat = d t.toNat) → 0 ≤ turn → turn + n = K 0 1 → n < k → 0 ≤ left → left ≤ 99 → (∀ t : Int, 0 ≤ t → t < K 0 1 → 0 ≤ d t.toNat ∧ d t.toNat + left ≤ 1000) →
    ∃ σ', f_X2_work_25 k a1 a v c sp left turn σ = f_X2_work_108 a1 a v c sp (m_workL K v n w d left).2.2 σ' ∧ RS σ' a K (m_workL K v n w d left).1 tr th ∧ (∀ t : Int, 0 ≤ t → t < K 0 1 → σ' 744 t.toNat = (m_workL K v n w d left).2.1 t.toNat) ∧ FR (SC a) σ σ' := by
  have hkn := hK.n
  intro n
  induction n with
  | zero =>
    intro k turn left w d σ hR hC hS hd t0 t1 hk l0 l1 hb
    obtain ⟨k, rfl⟩ : ∃ j, k = j + 1 := ⟨k - 1, by omega⟩
    refine ⟨σ, ?_, hR, hd, FR.refl⟩
    rw [f_X2_work_25]
    unfold m_workL
    simp (disch := first | assumption | omega) only [if_true, if_false, zid, zlid, if_pos, if_neg, u2_e, u2_c, u2_i, u1_e, u1_i, Option.bind_some, hC.n1]
  | succ n ih =>
    intro k turn left w d σ hR hC hS hd t0 t1 hk l0 l1 hb
    obtain ⟨k, rfl⟩ : ∃ j, k = j + 1 := ⟨k - 1, by omega⟩
    by_cases c1 : left ≤ 0
    · have em : m_workL K v (n + 1) w d left = (w, d, left) := by
        unfold m_workL
        exact if_pos (Or.inl c1)
      rw [em]
      refine ⟨σ, ?_, hR, hd, FR.refl⟩
      rw [f_X2_work_25]
      simp (disch := first | assumption | omega) only [if_true, if_false, zid, zlid, if_pos, if_neg, u2_e, u2_c, u2_i, u1_e, u1_i, Option.bind_some, hC.n1]
    · rcases m_next_in (w := w) (v := v) hK with q | q
      · have em : m_workL K v (n + 1) w d left = (w, d, left) := by
          unfold m_workL
          exact if_pos (Or.inr q.1)
        rw [em]
        refine ⟨σ, ?_, hR, hd, FR.refl⟩
        have c2 := q.1
        rw [f_X2_work_25]
        simp (disch := first | assumption | omega) only [if_true, if_false, zid, zlid, if_pos, if_neg, u2_e, u2_c, u2_i, u1_e, u1_i, Option.bind_some, hC.n1, C_mostUrgent hR hC hK hS]
      · have em : m_workL K v (n + 1) w d left = m_workL K v n (u1 w (25 + m_next K w v).toNat (w (25 + m_next K w v).toNat - min left (w (25 + m_next K w v).toNat))) (u1 d (m_next K w v).toNat (d (m_next K w v).toNat + min left (w (25 + m_next K w v).toNat))) (left - min left (w (25 + m_next K w v).toNat)) := by
          rw [m_workL]
          exact if_neg (by omega)
        rw [em]
        have hmu := C_mostUrgent hR hC hK hS (v := v)
        generalize m_next K w v = u at q hmu ⊢
        have hx := hS.t q.1 q.2.1
        have hdu := hb u q.1 q.2.1
        have edu := hd u q.1 q.2.1
        have e2 := hR.t2 q.1 q.2.1
        generalize hm : min left (w (25 + u).toNat) = m
        have hS' := hS.u_rest hK q.1 q.2.1 (x := w (25 + u).toNat - m) (by omega) (by omega)
        have hR' := (hR.t2_u (x := w (25 + u).toNat - m) q.1 (by omega) (by omega) (by omega) (by omega)).frame (σ' := u2 (u2 σ (a + 2) u.toNat (w (25 + u).toNat - m)) 744 u.toNat (d u.toNat + m)) (fun c _ _ => u2_ne (by omega))
        have hf : FR (SC a) σ (u2 (u2 σ (a + 2) u.toNat (w (25 + u).toNat - m)) 744 u.toNat (d u.toNat + m)) := (FR.refl.u (by unfold SC; omega)).u (Or.inl rfl)
        obtain ⟨σ', g1, g2, g3, g4⟩ := ih k (turn + 1) (left - m) (u1 w (25 + u).toNat (w (25 + u).toNat - m)) (u1 d u.toNat (d u.toNat + m)) _ hR' (hC.fr hK ha1 ha hf) hS' (fun t t0 t1 => by
          by_cases e : t = u
          · rw [e, u2_e, u1_e]
          · rw [u2_i (by omega), u2_c (by omega), u1_i (by omega)]
            exact hd t t0 t1) (by omega) (by omega) (by omega) (by omega) (by omega) (fun t t0 t1 => by
          have := hb t t0 t1
          by_cases e : t = u
          · subst e
            rw [u1_e]
            omega
          · rw [u1_i (by omega)]
            omega)
        refine ⟨σ', ?_, g2, g3, hf.trans g4⟩
        rw [f_X2_work_25]
        simp (disch := first | assumption | omega) only [if_true, if_false, zid, zlid, if_pos, if_neg, u2_e, u2_c, u2_i, u1_e, u1_i, Option.bind_some, hC.n1, hmu, e2, hm, edu]
        exact g1
theorem C_work (hR : RS σ a K w tr th) (hC : RC σ a1 K) (hK : WK K) (ha1 : a1 + 19 ≤ 42) (ha : 173 ≤ a) (ha2 : a + 13 ≤ 743) {v x : Int} (h0 : 0 ≤ v) (h1 : v < K 0 2) (hD : WD K v (x, w, d)) (hd : ∀ t : Int, 0 ≤ t → t < K 0 1 → σ 744 t.toNat = d t.toNat) :
    ∃ σ' u, f_X2_work a1 a v σ = some (u, σ') ∧ (m_work K v (x, w, d)).1 = x + u ∧ RS σ' a K (m_work K v (x, w, d)).2.1 tr th ∧ (∀ t : Int, 0 ≤ t → t < K 0 1 → σ' 744 t.toNat = (m_work K v (x, w, d)).2.2 t.toNat) ∧ FR (SC a) σ σ' := by
  obtain ⟨hS, u0, u9, hdd⟩ := hD
  dsimp only at hS u0 u9 hdd
  have hkn := hK.n
  have hv := hK.v h0 h1
  have hc := hK.c hv.1 hv.2.1
  have hx := hS.c hv.1 hv.2.1
  have hsp := m_spd_in hK hS hv.1 hv.2.1
  obtain ⟨σ1, g1, g2, g3, g4⟩ := C_work_25 hK ha1 ha ha2 (c := K 7 v.toNat) (sp := m_spd K w (K 7 v.toNat)) h0 h1 (K 0 1).toNat 100000 0 (m_spd K w (K 7 v.toNat)) w d σ hR hC hS hd (by omega) (by omega) (by omega) (by omega) (by omega) (fun t t0 t1 => by have := hdd t t0 t1; omega)
  obtain ⟨b1, b2, b3, b4, b5, b6⟩ := m_workL_in hK (v := v) (K 0 1).toNat w d (m_spd K w (K 7 v.toNat)) hS (by omega) (by omega)
  unfold m_work
  dsimp only
  generalize m_workL K v (K 0 1).toNat w d (m_spd K w (K 7 v.toNat)) = r at g1 g2 g3 b1 b2 b3 b4 b5 b6 ⊢
  have hC1 := hC.fr hK ha1 ha g4
  obtain ⟨σ2, k1, k2, k3⟩ := C_rememberIdling g2 hC1 hK b1 ha1 ha ha2 (units := m_spd K w (K 7 v.toNat) - r.2.2) (f := if r.2.2 = m_spd K w (K 7 v.toNat) then 1 else 0) h0 h1 (by
    by_cases e : r.2.2 = m_spd K w (K 7 v.toNat)
    · rw [if_pos e, if_pos (by omega)]
    · rw [if_neg e, if_neg (by omega)])
  have hm1 : 0 ≤ (m_spd K w (K 7 v.toNat) - r.2.2) * m_cst K w (K 7 v.toNat) := Int.mul_nonneg (by omega) (by omega)
  have hm2 : (m_spd K w (K 7 v.toNat) - r.2.2) * m_cst K w (K 7 v.toNat) ≤ 99 * 99 := Int.mul_le_mul (by omega) (by omega) (by omega) (by omega)
  have ecs : m_cst K r.1 (K 7 v.toNat) = m_cst K w (K 7 v.toNat) := by
    unfold m_cst
    rw [b4 (K 7 v.toNat).toNat (by omega)]
  have e9 := b4 (9 + v).toNat (by omega)
  refine ⟨σ2, (m_spd K w (K 7 v.toNat) - r.2.2) * m_cst K w (K 7 v.toNat) + (if w (9 + v).toNat = 0 then K 2 (K 7 v.toNat).toNat else 0), ?_, rfl, k2, fun t t0 t1 => ?_, g4.trans (k3.mono (fun c hc => Or.inr hc))⟩
  · unfold f_X2_work
    simp (disch := first | assumption | omega) only [if_true, if_false, zid, zlid, if_pos, if_neg, u2_e, u2_c, u2_i, u1_e, u1_i, Option.bind_some, hC.v14, C_speedOf hR hC hK hS]
    rw [g1]
    unfold f_X2_work_108 f_X2_work_153 f_X2_work_169
    by_cases c1 : w (9 + v).toNat = 0
    · simp (disch := first | assumption | omega) only [if_true, if_false, zid, zlid, if_pos, if_neg, u2_e, u2_c, u2_i, u1_e, u1_i, Option.bind_some, C_costOf g2 hC1 hK b1, C_isAsleep g2 hK b1, ecs, e9, C_hasCluster_y hC1, hC1.c3, k1]
    · simp (disch := first | assumption | omega) only [if_true, if_false, zid, zlid, if_pos, if_neg, u2_e, u2_c, u2_i, u1_e, u1_i, Option.bind_some, C_costOf g2 hC1 hK b1, C_isAsleep g2 hK b1, ecs, e9, C_hasCluster_y hC1, hC1.c3, k1, Int.add_zero]
  · rw [k3 744 (by omega)]
    exact g3 t t0 t1
theorem C_fadeLoads (hR : RS σ a K w tr th) (hC : RC σ a1 K) (hK : WK K) (hS : WS K w) (ha1 : a1 + 19 ≤ 42) (ha : 173 ≤ a) (ha2 : a + 13 ≤ 743) (hd : ∀ t : Int, 0 ≤ t → t < K 0 1 → σ 744 t.toNat = d t.toNat) (hdd : ∀ t : Int, 0 ≤ t → t < K 0 1 → 0 ≤ d t.toNat ∧ d t.toNat ≤ K 0 3) :
    ∃ σ', f_X2_fadeLoads a1 a σ = some σ' ∧ RS σ' a K (iter (m_fadeS K d) (K 0 1).toNat 0 w) tr th ∧ FR (fun c => a ≤ c ∧ c < a + 13) σ σ' := by
  have hkn := hK.n
  unfold f_X2_fadeLoads
  have h := sim_loop (F := fun k t (s : Nat → Nat → Int) => f_X2_fadeLoads_2 k a1 a t s) (X := m_fadeS K d) (hi := K 0 1)
    (fun t s w' => 0 ≤ t ∧ RS s a K w' tr th ∧ WS K w' ∧ FR (fun c => a ≤ c ∧ c < a + 13) σ s)
    (fun w' r => ∃ σ', r = some σ' ∧ RS σ' a K w' tr th ∧ FR (fun c => a ≤ c ∧ c < a + 13) σ σ')
    (fun k t s w' ht hp => by
      obtain ⟨p0, p1, p2, p3⟩ := hp
      have hf := m_fade_in hK hdd p0 ht p2
      have hx := p2.t p0 ht
      have hdt := hdd t p0 ht
      have ed := hd t p0 ht
      have hCs := hC.frame (σ' := s) (by omega) (fun c _ _ => p3 c (by omega))
      refine ⟨u2 s (a + 3) t.toNat (Int.tdiv (7 * w' (29 + t).toNat + Int.tdiv (d t.toNat * 1024) (K 0 3)) 8), ?_, by omega, p1.t3_u p0 (by omega) (by omega) (by omega) (by omega), p2.u_load hK p0 ht hf.2.2.1 hf.2.2.2, p3.u (by omega)⟩
      rw [f_X2_fadeLoads_2, p3 744 (by omega)]
      simp (disch := first | assumption | omega) only [if_true, if_false, zid, zlid, if_pos, if_neg, u2_e, u2_c, u2_i, u1_e, u1_i, Option.bind_some, hCs.n1, hCs.n3, f_X11_cut, p1.t3, ed])
    (fun k s w' hp => by
      obtain ⟨p0, p1, p2, p3⟩ := hp
      have hCs := hC.frame (σ' := s) (by omega) (fun c _ _ => p3 c (by omega))
      refine ⟨s, ?_, p1, p3⟩
      rw [f_X2_fadeLoads_2]
      simp (disch := first | assumption | omega) only [if_true, if_false, zid, zlid, if_pos, if_neg, u2_e, u2_c, u2_i, u1_e, u1_i, Option.bind_some, hCs.n1]) (K 0 1).toNat 100000 0 σ w (by omega) (by omega) ⟨by omega, hR, hS, FR.refl⟩
  exact h
theorem C_passOne_42 {s : Int × (Nat → Int) × (Nat → Int)} (hR : RS σ a K s.2.1 tr th) (hC : RC σ a1 K) (hK : WK K) (hD : WD K 0 s) (ha1 : a1 + 19 ≤ 42) (ha : 173 ≤ a) (ha2 : a + 13 ≤ 743) (hd : ∀ t : Int, 0 ≤ t → t < K 0 1 → σ 744 t.toNat = s.2.2 t.toNat) (h41 : s.2.1 41 ≤ 9998) :
    ∃ σ', f_X2_passOne_42 100000 a1 a s.1 0 σ = some ((iter (m_work K) (K 0 2).toNat 0 s).1, σ') ∧ RS σ' a K (m_heat K (iter (m_work K) (K 0 2).toNat 0 s).1 (iter (m_fadeS K (iter (m_work K) (K 0 2).toNat 0 s).2.2) (K 0 1).toNat 0 (iter (m_work K) (K 0 2).toNat 0 s).2.1)) tr th ∧ FR (SC a) σ σ' := by
  have hkn := hK.n
  have hr := hK.r
  have h := sim_loop (F := fun k v (q : Int × (Nat → Nat → Int)) => f_X2_passOne_42 k a1 a q.1 v q.2) (X := m_work K) (hi := K 0 2)
    (fun v q s' => q.1 = s'.1 ∧ 0 ≤ v ∧ RS q.2 a K s'.2.1 tr th ∧ (∀ t : Int, 0 ≤ t → t < K 0 1 → q.2 744 t.toNat = s'.2.2 t.toNat) ∧ WD K v s' ∧ s'.2.1 41 = s.2.1 41 ∧ FR (SC a) σ q.2)
    (fun s' r => ∃ σ', r = some (s'.1, σ') ∧ RS σ' a K (m_heat K s'.1 (iter (m_fadeS K s'.2.2) (K 0 1).toNat 0 s'.2.1)) tr th ∧ FR (SC a) σ σ')
    (fun k v q s' hv hp => by
      obtain ⟨q1, q2⟩ := q
      obtain ⟨s1, s2, s3⟩ := s'
      obtain ⟨pe, p0, p1, p2, p3, p4, p5⟩ := hp
      dsimp only at pe p1 p2 p4 p5
      subst pe
      have hCs := hC.fr hK ha1 ha p5
      obtain ⟨σ', u, g1, g2, g3, g4, g5⟩ := C_work p1 hCs hK ha1 ha ha2 p0 hv p3 p2
      have hin := m_work_in hK p0 hv p3
      have w0 := hin.1.2.1
      have w1 := hin.1.2.2.1
      rw [g2] at w0 w1
      have w2 := p3.2.1
      dsimp only at w2
      refine ⟨(q1 + u, σ'), ?_, g2.symm, by omega, g3, g4, hin.1, ?_, p5.trans g5⟩
      · show f_X2_passOne_42 (k + 1) a1 a q1 v q2 = f_X2_passOne_42 k a1 a (q1 + u) (v + 1) σ'
        rw [f_X2_passOne_42]
        simp (disch := first | assumption | omega) only [if_true, if_false, zid, zlid, if_pos, if_neg, u2_e, u2_c, u2_i, u1_e, u1_i, Option.bind_some, hCs.n2, g1]
      · rw [hin.2 41 (by omega) (by omega)]
        exact p4)
    (fun k q s' hp => by
      obtain ⟨q1, q2⟩ := q
      obtain ⟨s1, s2, s3⟩ := s'
      obtain ⟨pe, p0, p1, p2, p3, p4, p5⟩ := hp
      dsimp only at pe p1 p2 p4 p5 ⊢
      subst pe
      have hCs := hC.fr hK ha1 ha p5
      have hS2 : WS K s2 := p3.1
      have hd3 : ∀ t : Int, 0 ≤ t → t < K 0 1 → 0 ≤ s3 t.toNat ∧ s3 t.toNat ≤ K 0 3 := fun t t0 t1 => ⟨(p3.2.2.2 t t0 t1).1, (p3.2.2.2 t t0 t1).2.1⟩
      obtain ⟨σ', g1, g2, g3⟩ := C_fadeLoads p1 hCs hK hS2 ha1 ha ha2 p2 hd3
      have hf := m_fade_all hK hS2 hd3
      have e41 := hf.2 41 (by omega)
      have hn := hf.1.n
      have hg : FR (SC a) q2 σ' := g3.mono (fun c hc => Or.inr hc)
      have hC' := hCs.fr hK ha1 ha hg
      generalize iter (m_fadeS K s3) (K 0 1).toNat 0 s2 = w' at g2 hf e41 hn ⊢
      have hRe := ((g2.n1_u (x := z_w (w' 42 + z_w (q1 - z_w (Int.tdiv (w' 42) (K 10 5))))) (by omega) (by omega) (by omega)).n2_u (x := z_w (w' 43 + q1)) (by omega) (by omega) (by omega)).n0_u (x := w' 41 + 1) (by omega) (by omega) (by omega)
      refine ⟨_, ?_, hRe, ((p5.trans hg).u (by unfold SC; omega)).u (by unfold SC; omega) |>.u (by unfold SC; omega)⟩
      show f_X2_passOne_42 (k + 1) a1 a q1 (K 0 2) q2 = _
      rw [f_X2_passOne_42]
      simp (disch := first | assumption | omega) only [if_true, if_false, zid, zlid, if_pos, if_neg, u2_e, u2_c, u2_i, u1_e, u1_i, Option.bind_some, hCs.n2, g1, f_X11_cut, g2.n1, g2.n2, g2.n0, hC'.r5]) (K 0 2).toNat 100000 0 (s.1, σ) s (by omega) (by omega) ⟨rfl, by omega, hR, hd, hD, rfl, FR.refl⟩
  exact h
theorem C_passOne_16 (hR : RS σ a K w tr th) (hC : RC σ a1 K) (hK : WK K) (hS : WS K w) (ht : 0 ≤ th) (ha1 : a1 + 19 ≤ 42) (ha : 173 ≤ a) (ha2 : a + 13 ≤ 743) {u : Int} (u0 : 0 ≤ u) (u9 : u ≤ 594) (hd : ∀ t : Int, 0 ≤ t → t < K 0 1 → σ 744 t.toNat = 0) (h41 : w 41 ≤ 9998) :
    ∃ σ', f_X2_passOne_16 100000 a1 a u 0 σ = some ((iter (m_work K) (K 0 2).toNat 0 (u, iter (fun c w => m_choose K tr th c w) (K 0 0).toNat 0 w, fun _ => 0)).1, σ') ∧ RS σ' a K (m_heat K (iter (m_work K) (K 0 2).toNat 0 (u, iter (fun c w => m_choose K tr th c w) (K 0 0).toNat 0 w, fun _ => 0)).1 (iter (m_fadeS K (iter (m_work K) (K 0 2).toNat 0 (u, iter (fun c w => m_choose K tr th c w) (K 0 0).toNat 0 w, fun _ => 0)).2.2) (K 0 1).toNat 0 (iter (m_work K) (K 0 2).toNat 0 (u, iter (fun c w => m_choose K tr th c w) (K 0 0).toNat 0 w, fun _ => 0)).2.1)) tr th ∧ FR (SC a) σ σ' := by
  have hkn := hK.n
  have h := sim_loop (F := fun k c (q : Nat → Nat → Int) => f_X2_passOne_16 k a1 a u c q) (X := fun c w => m_choose K tr th c w) (hi := K 0 0)
    (fun c q s => 0 ≤ c ∧ RS q a K s tr th ∧ WS K s ∧ s 41 = w 41 ∧ FR (fun c => a ≤ c ∧ c < a + 13) σ q)
    (fun w2 r => ∃ σ', r = some ((iter (m_work K) (K 0 2).toNat 0 (u, w2, fun _ => 0)).1, σ') ∧ RS σ' a K (m_heat K (iter (m_work K) (K 0 2).toNat 0 (u, w2, fun _ => 0)).1 (iter (m_fadeS K (iter (m_work K) (K 0 2).toNat 0 (u, w2, fun _ => 0)).2.2) (K 0 1).toNat 0 (iter (m_work K) (K 0 2).toNat 0 (u, w2, fun _ => 0)).2.1)) tr th ∧ FR (SC a) σ σ')
    (fun k c q s hc hp => by
      obtain ⟨p0, p1, p2, p3, p4⟩ := hp
      have hCs := hC.frame (σ' := q) (by omega) (fun c _ _ => p4 c (by omega))
      obtain ⟨σ', g1, g2, g3⟩ := C_choosePoint p1 hCs hK p2 ht ha1 ha ha2 p0 hc
      have hin := m_choose_in (tr := tr) hK p2 p0 hc ht
      refine ⟨σ', ?_, by omega, g2, hin.1, ?_, p4.trans g3⟩
      · rw [f_X2_passOne_16]
        simp (disch := first | assumption | omega) only [if_true, if_false, zid, zlid, if_pos, if_neg, u2_e, u2_c, u2_i, u1_e, u1_i, Option.bind_some, hCs.n0, g1]
      · rw [hin.2 41 (by omega)]
        exact p3)
    (fun k q s hp => by
      obtain ⟨p0, p1, p2, p3, p4⟩ := hp
      have hCs := hC.frame (σ' := q) (by omega) (fun c _ _ => p4 c (by omega))
      obtain ⟨σ', g1, g2, g3⟩ := C_passOne_42 (s := (u, s, fun _ => 0)) p1 hCs hK ⟨p2, u0, by dsimp only; omega, fun t t0 t1 => ⟨by dsimp only; omega, by dsimp only; omega, fun _ => rfl⟩⟩ ha1 ha ha2 (fun t t0 t1 => by rw [p4 744 (by omega)]; exact hd t t0 t1) (by dsimp only; omega)
      refine ⟨σ', ?_, g2, (p4.mono (fun c hc => Or.inr hc)).trans g3⟩
      rw [f_X2_passOne_16]
      simp (disch := first | assumption | omega) only [if_true, if_false, zid, zlid, if_pos, if_neg, u2_e, u2_c, u2_i, u1_e, u1_i, Option.bind_some, hCs.n0]
      exact g1) (K 0 0).toNat 100000 0 σ w (by omega) (by omega) ⟨by omega, hR, hS, rfl, FR.refl⟩
  exact h
theorem C_passOne (hR : RS σ a K w tr th) (hC : RC σ a1 K) (hK : WK K) (hS : WS K w) (hL : WL K w) (ht : 0 ≤ th) (ha1 : a1 + 19 ≤ 42) (ha : 173 ≤ a) (ha2 : a + 13 ≤ 743) (h41 : w 41 ≤ 9998) :
    ∃ σ', f_X2_passOne a1 a σ = some ((m_tick K tr th w).1, σ') ∧ RS σ' a K (m_tick K tr th w).2 tr th ∧ FR (SC a) σ σ' := by
  have hkn := hK.n
  obtain ⟨σ1, g1, g2, g3, g4⟩ := C_release hR hC hK hS hL ha1 ha ha2
  have hrel := m_rel_in hK hS hL
  have hwake := m_wake_in hK hrel.1
  obtain ⟨σ2, k1, k2, k3⟩ := C_wakeCores g2 (hC.fr hK ha1 ha g4) hK hrel.1 ha1 ha ha2
  have hf : FR (SC a) σ σ2 := g4.trans (k3.mono (fun c hc => Or.inr hc))
  have e41 : (m_wake K (m_rel K w)).2 41 = w 41 := by rw [hwake.2.2.2 41 (by omega), hrel.2.2 41 (by omega)]
  obtain ⟨σ3, l1, l2, l3⟩ := C_passOne_16 k2 (hC.fr hK ha1 ha hf) hK hwake.1 ht ha1 ha ha2 hwake.2.1 hwake.2.2.1 (fun t t0 t1 => by rw [k3 744 (by omega)]; exact g3 t t0 t1) (by omega)
  refine ⟨σ3, ?_, l2, hf.trans l3⟩
  unfold f_X2_passOne m_tick
  rw [g1, Option.bind_some, k1, Option.bind_some]
  exact l1
end S_TC
