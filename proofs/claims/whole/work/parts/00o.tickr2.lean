-- the reference's tick, whole
section S_TR2
variable {σ K : Nat → Nat → Int} {b : Nat} {w d e : Nat → Int} {tr th : Int}
theorem m_fade_all (hK : WK K) (hS : WS K w) (hd : ∀ t : Int, 0 ≤ t → t < K 0 1 → 0 ≤ d t.toNat ∧ d t.toNat ≤ K 0 3) : WS K (iter (m_fadeS K d) (K 0 1).toNat 0 w) ∧ (∀ i : Nat, ¬ (29 ≤ i ∧ i < 33) → iter (m_fadeS K d) (K 0 1).toNat 0 w i = w i) := by
  have hkn := hK.n
  have h := iter_inv (X := m_fadeS K d) (hi := K 0 1) (fun t s => 0 ≤ t ∧ WS K s ∧ (∀ i : Nat, ¬ (29 ≤ i ∧ i < 33) → s i = w i)) (fun t s ht hp => by
    have hf := m_fade_in hK hd hp.1 ht hp.2.1
    refine ⟨by omega, hp.2.1.u_load hK hp.1 ht hf.2.2.1 hf.2.2.2, fun i hi => ?_⟩
    unfold m_fadeS
    rw [u1_i (by omega)]
    exact hp.2.2 i hi) (K 0 1).toNat 0 w (by omega) ⟨by omega, hS, fun _ _ => rfl⟩
  exact h.2
theorem R_ticks_78 (hM : RM σ K) (hK : WK K) (hb : 776 ≤ b) (hb2 : b < 780) (hS : WS K w) (hd : ∀ t : Int, 0 ≤ t → t < K 0 1 → 0 ≤ d t.toNat ∧ d t.toNat ≤ K 0 3) (h41 : w 41 ≤ 9998) {used : Int} : f_X12_ticks_78 100000 b used 0 (setR (setR σ b w) 780 d) = some (used, setR (setR σ b (m_heat K used (iter (m_fadeS K d) (K 0 1).toNat 0 w))) 780 d) := by
  have hkn := hK.n
  have hr := hK.r
  refine sim_loop (F := fun k t (s : Nat → Int) => f_X12_ticks_78 k b used t (setR (setR σ b s) 780 d)) (X := m_fadeS K d) (hi := K 0 1)
    (fun t a s => a = s ∧ 0 ≤ t ∧ WS K s ∧ s 41 = w 41) (fun s r => r = some (used, setR (setR σ b (m_heat K used s)) 780 d)) ?_ ?_ (K 0 1).toNat 100000 0 w w (by omega) (by omega) ⟨rfl, by omega, hS, rfl⟩
  · rintro k t a s ht ⟨rfl, p0, p1, p2⟩
    have hf := m_fade_in hK hd p0 ht p1
    have hx := p1.t p0 ht
    have hdt := hd t p0 ht
    have hMs := (hM.set (b := b) (w := a) (by omega)).set (b := 780) (w := d) (by omega)
    refine ⟨m_fadeS K d t a, ?_, rfl, by omega, p1.u_load hK p0 ht hf.2.2.1 hf.2.2.2, ?_⟩
    · rw [f_X12_ticks_78]
      unfold m_fadeS
      simp (disch := first | assumption | omega) only [if_true, if_false, zid, zlid, if_pos, if_neg, u2_e, u2_c, u2_i, u1_e, u1_i, Option.bind_some, hMs.n1, hMs.n3, setR_n, setR_s, setR_un, setR_u, hM.n1, hM.n3]
    · unfold m_fadeS
      rw [u1_i (by omega)]
      exact p2
  · rintro k a s ⟨rfl, p0, p1, p2⟩
    have hn := p1.n
    rw [f_X12_ticks_78]
    unfold m_heat
    simp (disch := first | assumption | omega) only [if_true, if_false, zid, zlid, if_pos, if_neg, u2_e, u2_c, u2_i, u1_e, u1_i, Option.bind_some, setR_n, setR_s, setR_un, setR_u, hM.n1, hM.r5]
theorem R_ticks_53 (hM : RM σ K) (hK : WK K) (hb : 776 ≤ b) (hb2 : b < 780) {s : Int × (Nat → Int) × (Nat → Int)} (hD : WD K 0 s) (he : ∀ t : Int, 0 ≤ t → t < K 0 1 → e t.toNat = s.2.2 t.toNat) (h41 : s.2.1 41 ≤ 9998) :
    ∃ e', f_X12_ticks_53 100000 b s.1 0 (setR (setR σ b s.2.1) 780 e) = some ((iter (m_work K) (K 0 2).toNat 0 s).1, setR (setR σ b (m_heat K (iter (m_work K) (K 0 2).toNat 0 s).1 (iter (m_fadeS K (iter (m_work K) (K 0 2).toNat 0 s).2.2) (K 0 1).toNat 0 (iter (m_work K) (K 0 2).toNat 0 s).2.1))) 780 e') := by
  have hkn := hK.n
  refine sim_loop (F := fun k v (a : Int × (Nat → Int) × (Nat → Int)) => f_X12_ticks_53 k b a.1 v (setR (setR σ b a.2.1) 780 a.2.2)) (X := m_work K) (hi := K 0 2)
    (fun v a s' => a.1 = s'.1 ∧ a.2.1 = s'.2.1 ∧ (∀ t : Int, 0 ≤ t → t < K 0 1 → a.2.2 t.toNat = s'.2.2 t.toNat) ∧ 0 ≤ v ∧ WD K v s' ∧ s'.2.1 41 = s.2.1 41) (fun s' r => ∃ e', r = some (s'.1, setR (setR σ b (m_heat K s'.1 (iter (m_fadeS K s'.2.2) (K 0 1).toNat 0 s'.2.1))) 780 e')) ?_ ?_ (K 0 2).toNat 100000 0 (s.1, s.2.1, e) s (by omega) (by omega) ⟨rfl, rfl, he, by omega, hD, rfl⟩
  · rintro k v ⟨a1, a2, a3⟩ ⟨s1, s2, s3⟩ hv ⟨p0, p1, p2, p3, p4, p5⟩
    dsimp only at p0 p1 p2 p5 ⊢
    subst p0 p1
    have hD' : WD K v (a1, a2, a3) := ⟨p4.1, p4.2.1, p4.2.2.1, fun t t0 t1 => by
      dsimp only
      rw [p2 t t0 t1]
      exact p4.2.2.2 t t0 t1⟩
    obtain ⟨u, hu, hu2⟩ := R_works hM hK hb hb2 p3 hv hD'
    have hin := m_work_in hK p3 hv hD'
    have hin2 := m_work_in hK p3 hv p4
    have hdd := m_workL_d (v := v) hK (K 0 1).toNat a2 s3 a3 (m_spd K a2 (K 7 v.toNat)) p2
    have e1 : (m_work K v (a1, a2, a3)).1 = (m_work K v (a1, a2, s3)).1 := by
      unfold m_work
      dsimp only
      rw [hdd.2.1]
    have e2 : (m_work K v (a1, a2, a3)).2.1 = (m_work K v (a1, a2, s3)).2.1 := by
      unfold m_work
      dsimp only
      rw [hdd.2.1, hdd.1]
    have e3 : ∀ t : Int, 0 ≤ t → t < K 0 1 → (m_work K v (a1, a2, a3)).2.2 t.toNat = (m_work K v (a1, a2, s3)).2.2 t.toNat := fun t t0 t1 => hdd.2.2 t t0 t1
    refine ⟨m_work K v (a1, a2, a3), ?_, e1, e2, e3, by omega, hin2.1, ?_⟩
    · rw [f_X12_ticks_53]
      have w0 := hin.1.2.1
      have w1 := hin.1.2.2.1
      rw [hu2] at w0 w1
      have w2 := hD'.2.1
      dsimp only at w2
      rw [setR_n (by omega), setR_n (by omega)]
      simp (disch := first | assumption | omega) only [if_true, if_false, zid, zlid, if_pos, if_neg, u2_e, u2_c, u2_i, u1_e, u1_i, Option.bind_some, hM.n2, hu]
      rw [hu2]
    · rw [hin2.2 41 (by omega) (by omega)]
      exact p5
  · rintro k ⟨a1, a2, a3⟩ ⟨s1, s2, s3⟩ ⟨p0, p1, p2, p3, p4, p5⟩
    dsimp only at p0 p1 p2 p5 ⊢
    subst p0 p1
    have hd3 : ∀ t : Int, 0 ≤ t → t < K 0 1 → 0 ≤ a3 t.toNat ∧ a3 t.toNat ≤ K 0 3 := fun t t0 t1 => by
      have := p4.2.2.2 t t0 t1
      rw [p2 t t0 t1]
      exact ⟨this.1, this.2.1⟩
    have ec : iter (m_fadeS K a3) (K 0 1).toNat 0 a2 = iter (m_fadeS K s3) (K 0 1).toNat 0 a2 := by
      have : ∀ (n : Nat) (t : Int) (x : Nat → Int), 0 ≤ t → t + n ≤ K 0 1 → iter (m_fadeS K a3) n t x = iter (m_fadeS K s3) n t x := by
        intro n
        induction n with
        | zero => intro t x _ _; rfl
        | succ n ih =>
          intro t x t0 t1
          show iter (m_fadeS K a3) n (t + 1) (m_fadeS K a3 t x) = iter (m_fadeS K s3) n (t + 1) (m_fadeS K s3 t x)
          rw [show m_fadeS K a3 t x = m_fadeS K s3 t x from by unfold m_fadeS; rw [p2 t t0 (by omega)]]
          exact ih (t + 1) _ (by omega) (by omega)
      exact this _ 0 _ (by omega) (by omega)
    refine ⟨a3, ?_⟩
    rw [f_X12_ticks_53, setR_n (by omega), setR_n (by omega)]
    simp (disch := first | assumption | omega) only [if_true, if_false, zid, zlid, if_pos, if_neg, u2_e, u2_c, u2_i, u1_e, u1_i, Option.bind_some, hM.n2]
    rw [R_ticks_78 hM hK hb hb2 p4.1 hd3 (by dsimp only; omega), ec]
theorem R_ticks_30 (hM : RM σ K) (hK : WK K) (hb : 776 ≤ b) (hb2 : b < 780) (hS : WS K w) {u : Int} (u0 : 0 ≤ u) (u9 : u ≤ 594) (h41 : w 41 ≤ 9998) :
    ∃ e', f_X12_ticks_30 100000 b u 0 (setR σ b w) = some ((iter (m_work K) (K 0 2).toNat 0 (u, w, fun _ => 0)).1, setR (setR σ b (m_heat K (iter (m_work K) (K 0 2).toNat 0 (u, w, fun _ => 0)).1 (iter (m_fadeS K (iter (m_work K) (K 0 2).toNat 0 (u, w, fun _ => 0)).2.2) (K 0 1).toNat 0 (iter (m_work K) (K 0 2).toNat 0 (u, w, fun _ => 0)).2.1))) 780 e') := by
  have hkn := hK.n
  have e0 : setR σ b w = setR (setR σ b w) 780 (setR σ b w 780) := setR_id.symm
  rw [e0]
  have hD : WD K 0 (u, w, fun _ => 0) := ⟨hS, u0, by dsimp only; omega, fun t t0 t1 => ⟨by dsimp only; omega, by dsimp only; omega, fun _ => rfl⟩⟩
  refine hoare_loop (F := fun k t (a : Nat → Int) => f_X12_ticks_30 k b u t (setR (setR σ b w) 780 a)) (hi := K 0 1) (fun t a => 0 ≤ t ∧ ∀ q : Int, 0 ≤ q → q < t → a q.toNat = 0) (fun r => ∃ e', r = ((iter (m_work K) (K 0 2).toNat 0 (u, w, fun _ => 0)).1, setR (setR σ b (m_heat K (iter (m_work K) (K 0 2).toNat 0 (u, w, fun _ => 0)).1 (iter (m_fadeS K (iter (m_work K) (K 0 2).toNat 0 (u, w, fun _ => 0)).2.2) (K 0 1).toNat 0 (iter (m_work K) (K 0 2).toNat 0 (u, w, fun _ => 0)).2.1))) 780 e')) ?_ ?_ (K 0 1).toNat 100000 0 (setR σ b w 780) (by omega) (by omega) ⟨by omega, fun q q0 q1 => by omega⟩ |> fun ⟨r, h1, e', h2⟩ => ⟨e', by rw [h1, h2]⟩
  · rintro k t a ht ⟨p0, p1⟩
    refine ⟨u1 a t.toNat 0, ?_, by omega, fun q q0 q1 => ?_⟩
    · rw [f_X12_ticks_30, setR_n (by omega), setR_n (by omega)]
      simp (disch := first | assumption | omega) only [if_true, if_false, zid, zlid, if_pos, if_neg, u2_e, u2_c, u2_i, u1_e, u1_i, Option.bind_some, hM.n1, setR_u]
    · by_cases e : q = t
      · rw [e, u1_e]
      · rw [u1_i (by omega)]
        exact p1 q q0 (by omega)
  · rintro k a ⟨p0, p1⟩
    obtain ⟨e', h⟩ := R_ticks_53 hM hK hb hb2 (s := (u, w, fun _ => 0)) (e := a) hD (fun t t0 t1 => p1 t t0 t1) h41
    refine ⟨_, ?_, e', rfl⟩
    rw [f_X12_ticks_30, setR_n (by omega), setR_n (by omega)]
    simp (disch := first | assumption | omega) only [if_true, if_false, zid, zlid, if_pos, if_neg, u2_e, u2_c, u2_i, u1_e, u1_i, Option.bind_some, hM.n1]
    exact h
theorem m_chooses_in (hK : WK K) (hS : WS K w) (ht : 0 ≤ th) : WS K (iter (fun c w => m_choose K tr th c w) (K 0 0).toNat 0 w) ∧ (∀ i : Nat, 9 ≤ i → iter (fun c w => m_choose K tr th c w) (K 0 0).toNat 0 w i = w i) := by
  have hkn := hK.n
  have h := iter_inv (X := fun c w => m_choose K tr th c w) (hi := K 0 0) (fun c s => 0 ≤ c ∧ WS K s ∧ (∀ i : Nat, 9 ≤ i → s i = w i)) (fun c s hc hp => by
    have hx := m_choose_in (tr := tr) hK hp.2.1 hp.1 hc ht
    exact ⟨by omega, hx.1, fun i hi => (hx.2 i hi).trans (hp.2.2 i hi)⟩) (K 0 0).toNat 0 w (by omega) ⟨by omega, hS, fun _ _ => rfl⟩
  exact h.2
theorem R_ticks_8 (hM : RM σ K) (hK : WK K) (hb : 776 ≤ b) (hb2 : b < 780) (hS : WS K w) {u : Int} (u0 : 0 ≤ u) (u9 : u ≤ 594) (h38 : σ 758 38 = tr) (h39 : σ 758 39 = th) (ht : 0 ≤ th) (h41 : w 41 ≤ 9998) :
    ∃ e', f_X12_ticks_8 100000 b u 0 (setR σ b w) = some ((iter (m_work K) (K 0 2).toNat 0 (u, iter (fun c w => m_choose K tr th c w) (K 0 0).toNat 0 w, fun _ => 0)).1, setR (setR σ b (m_heat K (iter (m_work K) (K 0 2).toNat 0 (u, iter (fun c w => m_choose K tr th c w) (K 0 0).toNat 0 w, fun _ => 0)).1 (iter (m_fadeS K (iter (m_work K) (K 0 2).toNat 0 (u, iter (fun c w => m_choose K tr th c w) (K 0 0).toNat 0 w, fun _ => 0)).2.2) (K 0 1).toNat 0 (iter (m_work K) (K 0 2).toNat 0 (u, iter (fun c w => m_choose K tr th c w) (K 0 0).toNat 0 w, fun _ => 0)).2.1))) 780 e') := by
  have hkn := hK.n
  have h := sim_loop (F := fun k c (a : Nat → Int) => f_X12_ticks_8 k b u c (setR σ b a)) (X := fun c w => m_choose K tr th c w) (hi := K 0 0) (fun c a s => a = s ∧ 0 ≤ c ∧ WS K s ∧ s 41 = w 41)
    (fun w2 r => ∃ e', r = some ((iter (m_work K) (K 0 2).toNat 0 (u, w2, fun _ => 0)).1, setR (setR σ b (m_heat K (iter (m_work K) (K 0 2).toNat 0 (u, w2, fun _ => 0)).1 (iter (m_fadeS K (iter (m_work K) (K 0 2).toNat 0 (u, w2, fun _ => 0)).2.2) (K 0 1).toNat 0 (iter (m_work K) (K 0 2).toNat 0 (u, w2, fun _ => 0)).2.1))) 780 e'))
    (fun k c a s hc hp => by
      obtain ⟨rfl, p0, p1, p2⟩ := hp
      have hin := m_choose_in (tr := tr) hK p1 p0 hc ht
      refine ⟨m_choose K tr th c a, ?_, rfl, by omega, hin.1, ?_⟩
      · have hch := R_chooses hM hK hb p1 h38 h39 ht p0 hc
        rw [f_X12_ticks_8, setR_n (by omega)]
        simp (disch := first | assumption | omega) only [if_true, if_false, zid, zlid, if_pos, if_neg, u2_e, u2_c, u2_i, u1_e, u1_i, Option.bind_some, hM.n0, hch]
      · rw [hin.2 41 (by omega)]
        exact p2)
    (fun k a s hp => by
      obtain ⟨rfl, p0, p1, p2⟩ := hp
      obtain ⟨e', h⟩ := R_ticks_30 hM hK hb hb2 p1 (u := u) u0 u9 (by omega)
      refine ⟨e', ?_⟩
      rw [f_X12_ticks_8, setR_n (by omega)]
      simp (disch := first | assumption | omega) only [if_true, if_false, zid, zlid, if_pos, if_neg, u2_e, u2_c, u2_i, u1_e, u1_i, Option.bind_some, hM.n0]
      exact h) (K 0 0).toNat 100000 0 w w (by omega) (by omega) ⟨rfl, by omega, hS, rfl⟩
  exact h
theorem R_ticks (hM : RM σ K) (hK : WK K) (hb : 776 ≤ b) (hb2 : b < 780) (hS : WS K w) (hL : WL K w) (h38 : σ 758 38 = tr) (h39 : σ 758 39 = th) (ht : 0 ≤ th) (h41 : w 41 ≤ 9998) : ∃ e', f_X12_ticks b (setR σ b w) = some ((m_tick K tr th w).1, setR (setR σ b (m_tick K tr th w).2) 780 e') := by
  have hkn := hK.n
  have hrel := m_rel_in hK hS hL
  have hwake := m_wake_in hK hrel.1
  have e41 : (m_wake K (m_rel K w)).2 41 = w 41 := by rw [hwake.2.2.2 41 (by omega), hrel.2.2 41 (by omega)]
  obtain ⟨e', h⟩ := R_ticks_8 hM hK hb hb2 hwake.1 (u := (m_wake K (m_rel K w)).1) hwake.2.1 hwake.2.2.1 h38 h39 ht (by omega)
  refine ⟨e', ?_⟩
  unfold f_X12_ticks m_tick
  rw [R_begins hM hK hb hS hL, Option.bind_some]
  exact h
theorem m_tick_in (hK : WK K) (hS : WS K w) (hL : WL K w) (ht : 0 ≤ th) (h41 : w 41 ≤ 9998) : WS K (m_tick K tr th w).2 ∧ WL K (m_tick K tr th w).2 ∧ (m_tick K tr th w).2 41 = w 41 + 1 ∧ (∀ i : Nat, 44 ≤ i ∨ (21 ≤ i ∧ i < 25) ∨ (37 ≤ i ∧ i < 41) → (m_tick K tr th w).2 i = w i) ∧ 0 ≤ (m_tick K tr th w).1 ∧ (m_tick K tr th w).1 ≤ 59994 ∧ (∀ s : Int, 0 ≤ s → s < K 0 1 → w (33 + s).toNat ≤ (m_tick K tr th w).2 (33 + s).toNat) := by
  have hkn := hK.n
  have hrel := m_rel_in hK hS hL
  have hmono : ∀ s : Int, 0 ≤ s → s < K 0 1 → w (33 + s).toNat ≤ m_rel K w (33 + s).toNat := by
    have h := iter_inv (X := m_relS K) (hi := K 0 1) (fun t s => 0 ≤ t ∧ ∀ u : Int, 0 ≤ u → u < K 0 1 → w (33 + u).toNat ≤ s (33 + u).toNat) (fun t s ht hp => by
      refine ⟨by omega, fun u u0 u1 => ?_⟩
      have := hp.2 u u0 u1
      unfold m_relS
      split
      · exact this
      · rw [u1_i (by omega)]
        split
        · by_cases e : u = t
          · subst e
            rw [u1_e]
            omega
          · rw [u1_i (by omega)]
            exact this
        · exact this) (K 0 1).toNat 0 w (by omega) ⟨by omega, fun u _ _ => by omega⟩
    exact h.2
  have hwake := m_wake_in hK hrel.1
  unfold m_tick
  dsimp only
  have hch := m_chooses_in (tr := tr) (th := th) hK hwake.1 ht
  generalize hw2 : iter (fun c w => m_choose K tr th c w) (K 0 0).toNat 0 (m_wake K (m_rel K w)).2 = w2 at hch ⊢
  have hw := iter_inv (X := m_work K) (hi := K 0 2) (fun v s => 0 ≤ v ∧ WD K v s ∧ (∀ i : Nat, ¬ (9 ≤ i ∧ i < 21) → ¬ (25 ≤ i ∧ i < 29) → s.2.1 i = w2 i)) (fun v s hv hp => by
    have hx := m_work_in hK hp.1 hv hp.2.1
    exact ⟨by omega, hx.1, fun i i0 i1 => (hx.2 i i0 i1).trans (hp.2.2 i i0 i1)⟩) (K 0 2).toNat 0 ((m_wake K (m_rel K w)).1, w2, fun _ => 0) (by omega) ⟨by omega, ⟨hch.1, hwake.2.1, by dsimp only; omega, fun t t0 t1 => ⟨by dsimp only; omega, by dsimp only; omega, fun _ => rfl⟩⟩, fun _ _ _ => rfl⟩
  generalize iter (m_work K) (K 0 2).toNat 0 ((m_wake K (m_rel K w)).1, w2, fun _ => 0) = s3 at hw ⊢
  obtain ⟨_, hD, ho⟩ := hw
  have hf := m_fade_all hK hD.1 (fun t t0 t1 => ⟨(hD.2.2.2 t t0 t1).1, (hD.2.2.2 t t0 t1).2.1⟩)
  generalize iter (m_fadeS K s3.2.2) (K 0 1).toNat 0 s3.2.1 = w4 at hf ⊢
  have hall : ∀ i : Nat, (33 ≤ i ∨ 21 ≤ i ∧ i < 25) → w4 i = m_rel K w i := fun i hi => by
    rw [hf.2 i (by omega), ho i (by omega) (by omega), hch.2 i (by omega), hwake.2.2.2 i (by omega)]
  have e41 : w4 41 = w 41 := by rw [hall 41 (by omega), hrel.2.2 41 (by omega)]
  have hn := hS.n
  unfold m_heat
  refine ⟨((hf.1.u_heat hK).u_energy hK).u_time hK (by omega) (by omega), fun s s0 s1 => ?_, ?_, fun i hi => ?_, hD.2.1, ?_, fun s s0 s1 => ?_⟩
  · rw [u1_i (by omega), u1_i (by omega), u1_i (by omega), u1_e, hall _ (by omega), e41]
    exact hrel.2.1 s s0 s1
  · rw [u1_e, e41]
  · rw [u1_i (by omega), u1_i (by omega), u1_i (by omega), hall i (by omega), hrel.2.2 i (by omega)]
  · have := hD.2.2.1
    omega
  · rw [u1_i (by omega), u1_i (by omega), u1_i (by omega), hall _ (by omega)]
    exact hmono s s0 s1
end S_TR2
