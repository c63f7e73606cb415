-- a chip's text read to its end, both sides
def m_K0 : Nat → Nat → Int := fun b j => if b = 10 then ([25, 3, 2, 0, 9999, 8] : List Int).getD j 0 else 0
def WH (K : Nat → Nat → Int) : Prop := 1 ≤ K 0 0 ∧ ∀ c : Int, 0 ≤ c → c < K 0 0 → 1 ≤ K 4 c.toNat
/-- what reading a chip leaves: no fault and a whole draft, or the same fault -/
def CE (c r : Nat → Nat → Int) (a : Nat) (f : Int) : Prop := TPR c r ∧ c 2 4 = f ∧ r 758 4 = f ∧ ((f = -1 ∧ ∃ K, RC c a K ∧ DR r K ∧ WQ K ∧ WH K) ∨ f ≠ -1)
section S_CH
variable {c r K : Nat → Nat → Int} {a : Nat} {p q f x i met v : Int}
theorem WQ_0 : WQ m_K0 := by
  have e0 : ∀ j, m_K0 0 j = 0 := fun _ => rfl
  refine ⟨by rw [e0, e0, e0, e0]; omega, rfl, fun c c0 c1 => ?_, fun c p c0 c1 => ?_, fun c p c0 c1 => ?_, Or.inl rfl, fun v v0 v1 => ?_, fun t t0 t1 => ?_, by decide⟩
  · rw [e0] at c1
    omega
  · rw [e0] at c1
    omega
  · rw [e0] at c1
    omega
  · rw [e0] at v1
    omega
  · rw [e0] at t1
    omega
theorem C_begin : ∃ c', f_X1_begin a c = some c' ∧ RC c' a m_K0 ∧ c' a 4 = 0 ∧ FM (fun b _ => a ≤ b ∧ b < a + 19) c c' := by
  have e0 : ∀ j, m_K0 0 j = 0 := fun _ => rfl
  refine ⟨_, rfl, ⟨⟨?_, ?_, ?_, ?_⟩, fun w w0 w1 => ?_, fun w p w0 w1 => ?_, fun w w0 w1 => ?_, fun t t0 t1 => ?_, fun i hi => ?_⟩, ?_, fun b j hb => ?_⟩
  · unfold z_cpyS
    rw [if_neg (by omega), e0]
    simp (disch := first | assumption | omega) only [if_true, if_false, zid, zlid, if_pos, if_neg, u2_e, u2_c, u2_i, u1_e, u1_i, Option.bind_some]
  · unfold z_cpyS
    rw [if_neg (by omega), e0]
    simp (disch := first | assumption | omega) only [if_true, if_false, zid, zlid, if_pos, if_neg, u2_e, u2_c, u2_i, u1_e, u1_i, Option.bind_some]
  · unfold z_cpyS
    rw [if_neg (by omega), e0]
    simp (disch := first | assumption | omega) only [if_true, if_false, zid, zlid, if_pos, if_neg, u2_e, u2_c, u2_i, u1_e, u1_i, Option.bind_some]
  · unfold z_cpyS
    rw [if_neg (by omega), e0]
    simp (disch := first | assumption | omega) only [if_true, if_false, zid, zlid, if_pos, if_neg, u2_e, u2_c, u2_i, u1_e, u1_i, Option.bind_some]
  · rw [e0] at w1
    omega
  · rw [e0] at w1
    omega
  · rw [e0] at w1
    omega
  · rw [e0] at t1
    omega
  · unfold z_cpyS
    rw [if_pos ⟨rfl, by omega, by omega⟩]
    show _ = ([25, 3, 2, 0, 9999, 8] : List Int).getD i 0
    rw [show 0 + (i - 0) = i from by omega]
  · unfold z_cpyS
    rw [if_neg (by omega)]
    simp (disch := first | assumption | omega) only [if_true, if_false, zid, zlid, if_pos, if_neg, u2_e, u2_c, u2_i, u1_e, u1_i, Option.bind_some]
  · unfold z_cpyS
    rw [if_neg (by omega), u2_ne (by omega), u2_ne (by omega), u2_ne (by omega), u2_ne (by omega), u2_ne (by omega)]
theorem R_begin : ∃ r', f_X12_readChip r = f_X12_readChip_43 100000 0 1 r' ∧ DR r' m_K0 ∧ FM (fun b j => b = 760 ∨ (b = 758 ∧ (j = 20 ∨ j = 22 ∨ j = 24))) r r' := by
  have e0 : ∀ j, m_K0 0 j = 0 := fun _ => rfl
  have us : ∀ (i : Int) (s : Nat → Nat → Int), 0 ≤ i → i < 6 → f_X12_usualRule i s = some (([25, 3, 2, 0, 9999, 8] : List Int).getD i.toNat 0) := fun i s i0 i1 => by
    have k : i = 0 ∨ i = 1 ∨ i = 2 ∨ i = 3 ∨ i = 4 ∨ i = 5 := by omega
    rcases k with rfl | rfl | rfl | rfl | rfl | rfl <;> rfl
  have st : ∀ (m k : Nat) (i : Int) (s : Nat → Nat → Int), 0 ≤ i → i + m = 6 → m < k → (∀ j : Nat, (j : Int) < i → s 760 j = ([25, 3, 2, 0, 9999, 8] : List Int).getD j 0) → ∃ r', f_X12_readChip_2 k i s = f_X12_readChip_43 100000 0 1 r' ∧ DR r' m_K0 ∧ FM (fun b j => b = 760 ∨ (b = 758 ∧ (j = 20 ∨ j = 22 ∨ j = 24))) s r' := by
    intro m
    induction m with
    | zero =>
      intro k i s i0 hi hk hs
      obtain ⟨k, rfl⟩ : ∃ j, k = j + 1 := ⟨k - 1, by omega⟩
      refine ⟨u2 (u2 (u2 s 758 20 0) 758 22 0) 758 24 0, by rw [f_X12_readChip_2, if_pos (by omega)], ⟨⟨?_, ?_, ?_⟩, fun w w0 w1 => ?_, fun w p w0 w1 => ?_, fun t t0 t1 => ?_, fun j hj => ?_⟩, ((FM.refl.u (by omega)).u (by omega)).u (by omega)⟩
      · rw [e0]
        simp (disch := first | assumption | omega) only [if_true, if_false, zid, zlid, if_pos, if_neg, u2_e, u2_c, u2_i, u1_e, u1_i, Option.bind_some]
      · rw [e0]
        simp (disch := first | assumption | omega) only [if_true, if_false, zid, zlid, if_pos, if_neg, u2_e, u2_c, u2_i, u1_e, u1_i, Option.bind_some]
      · rw [e0]
        simp (disch := first | assumption | omega) only [if_true, if_false, zid, zlid, if_pos, if_neg, u2_e, u2_c, u2_i, u1_e, u1_i, Option.bind_some]
      · rw [e0] at w1
        omega
      · rw [e0] at w1
        omega
      · rw [e0] at t1
        omega
      · rw [u2_c (by omega), u2_c (by omega), u2_c (by omega)]
        exact hs j (by omega)
    | succ m ih =>
      intro k i s i0 hi hk hs
      obtain ⟨k, rfl⟩ : ∃ j, k = j + 1 := ⟨k - 1, by omega⟩
      obtain ⟨r', g1, g2, g3⟩ := ih k (i + 1) (u2 s 760 i.toNat (([25, 3, 2, 0, 9999, 8] : List Int).getD i.toNat 0)) (by omega) (by omega) (by omega) (fun j hj => by
        by_cases e : j = i.toNat
        · rw [e, u2_e]
        · rw [u2_i e]
          exact hs j (by omega))
      refine ⟨r', ?_, g2, (FM.refl.u (Or.inl rfl)).trans g3⟩
      rw [f_X12_readChip_2, if_neg (by omega), us i s i0 (by omega), Option.bind_some, if_pos (by omega), zid (x := i + 1) (by omega) (by omega)]
      exact g1
  exact st 6 100000 0 r (by omega) (by omega) (by omega) (fun j hj => by omega)
theorem C_isWhole (hC : RC c a K) (hW : WQ K) : (f_X1_isWhole a c = some 1 ∧ WH K) ∨ (f_X1_isWhole a c = some 0 ∧ ¬ WH K) := by
  have hw := hW.1
  have st : ∀ (m k : Nat) (v : Int), 0 ≤ v → v + m = K 0 0 → m < k → (∀ w : Int, 0 ≤ w → w < v → 1 ≤ K 4 w.toNat) → (f_X1_isWhole_2 k a v c = some 1 ∧ WH K) ∨ (f_X1_isWhole_2 k a v c = some 0 ∧ ¬ WH K) := by
    intro m
    induction m with
    | zero =>
      intro k v v0 hv hk hs
      obtain ⟨k, rfl⟩ : ∃ j, k = j + 1 := ⟨k - 1, by omega⟩
      rw [f_X1_isWhole_2, hC.n0, if_pos (by omega)]
      by_cases d : K 0 0 ≤ 0
      · rw [if_pos d]
        exact Or.inr ⟨rfl, fun q => by have := q.1; omega⟩
      · rw [if_neg d]
        exact Or.inl ⟨rfl, by omega, fun w w0 w1 => hs w w0 (by omega)⟩
    | succ m ih =>
      intro k v v0 hv hk hs
      obtain ⟨k, rfl⟩ : ∃ j, k = j + 1 := ⟨k - 1, by omega⟩
      rw [f_X1_isWhole_2, hC.n0, if_neg (by omega), if_pos (by omega), hC.c5 v0 (by omega), zid (x := v + 1) (by omega) (by omega)]
      have hvk := hW.2.2.1 v v0 (by omega)
      by_cases d : K 4 v.toNat = 0
      · rw [if_pos d]
        exact Or.inr ⟨rfl, fun q => by have := q.2 v v0 (by omega); omega⟩
      · rw [if_neg d]
        exact ih k (v + 1) (by omega) (by omega) (by omega) (fun w w0 w1 => by
          by_cases e : w = v
          · rw [e]
            omega
          · exact hs w w0 (by omega))
  exact st (K 0 0).toNat 100000 0 (by omega) (by omega) (by omega) (fun w w0 w1 => by omega)
theorem C_isWhole_any (h0 : 0 ≤ c a 0) (h1 : c a 0 ≤ 3) : ∃ b, f_X1_isWhole a c = some b := by
  have st : ∀ (m k : Nat) (v : Int), 0 ≤ v → v + m = c a 0 → m < k → ∃ b, f_X1_isWhole_2 k a v c = some b := by
    intro m
    induction m with
    | zero =>
      intro k v v0 hv hk
      obtain ⟨k, rfl⟩ : ∃ j, k = j + 1 := ⟨k - 1, by omega⟩
      rw [f_X1_isWhole_2, if_pos (by omega)]
      split
      · exact ⟨_, rfl⟩
      · exact ⟨_, rfl⟩
    | succ m ih =>
      intro k v v0 hv hk
      obtain ⟨k, rfl⟩ : ∃ j, k = j + 1 := ⟨k - 1, by omega⟩
      rw [f_X1_isWhole_2, if_neg (by omega), if_pos (by omega), zid (x := v + 1) (by omega) (by omega)]
      split
      · exact ⟨_, rfl⟩
      · exact ih k (v + 1) (by omega) (by omega) (by omega)
  exact st (c a 0).toNat 100000 0 (by omega) (by omega) (by omega)
theorem R_whole (hD : DR r K) (hW : WQ K) (h4 : r 758 4 = -1) : (f_X12_readChip_77 100000 (if r 758 20 ≤ 0 then 0 else 1) 0 r = some r ∧ WH K) ∨ (f_X12_readChip_77 100000 (if r 758 20 ≤ 0 then 0 else 1) 0 r = some (u2 r 758 4 (r 758 3)) ∧ ¬ WH K) := by
  have hw := hW.1
  have n0 := hD.1.1
  have st : ∀ (m k : Nat) (v b : Int), 0 ≤ v → v + m = K 0 0 → m < k → (b = 0 ∨ b = 1) → (b = 1 → 1 ≤ K 0 0 ∧ ∀ w : Int, 0 ≤ w → w < v → 1 ≤ K 4 w.toNat) → (b = 0 → ¬ WH K) → (f_X12_readChip_77 k b v r = some r ∧ WH K) ∨ (f_X12_readChip_77 k b v r = some (u2 r 758 4 (r 758 3)) ∧ ¬ WH K) := by
    intro m
    induction m with
    | zero =>
      intro k v b v0 hv hk hb h1 h0
      obtain ⟨k, rfl⟩ : ∃ j, k = j + 1 := ⟨k - 1, by omega⟩
      rw [f_X12_readChip_77, n0, if_pos (by omega)]
      by_cases d : b = 0
      · rw [if_pos d, R_fails h4, Option.bind_some]
        exact Or.inr ⟨rfl, h0 d⟩
      · rw [if_neg d]
        obtain ⟨q1, q2⟩ := h1 (by omega)
        exact Or.inl ⟨rfl, q1, fun w w0 w1 => q2 w w0 (by omega)⟩
    | succ m ih =>
      intro k v b v0 hv hk hb h1 h0
      obtain ⟨k, rfl⟩ : ∃ j, k = j + 1 := ⟨k - 1, by omega⟩
      rw [f_X12_readChip_77, n0, if_neg (by omega), zid (x := v + 1) (by omega) (by omega)]
      by_cases d : b = 0
      · rw [if_pos d]
        exact ih k (v + 1) 0 (by omega) (by omega) (by omega) (Or.inl rfl) (fun q => by omega) (fun _ => h0 d)
      · obtain ⟨q1, q2⟩ := h1 (by omega)
        rw [if_neg d, zid (x := 4 * v) (by omega) (by omega), zid (x := 4 * v + 3) (by omega) (by omega), if_pos (by omega), (hD.2.1 v v0 (by omega)).2.2.2.1]
        by_cases e : K 4 v.toNat ≤ 0
        · rw [if_pos e]
          exact ih k (v + 1) 0 (by omega) (by omega) (by omega) (Or.inl rfl) (fun q => by omega) (fun _ q => by have := q.2 v v0 (by omega); omega)
        · rw [if_neg e]
          exact ih k (v + 1) 1 (by omega) (by omega) (by omega) (Or.inr rfl) (fun _ => ⟨q1, fun w w0 w1 => by
            by_cases g : w = v
            · rw [g]
              omega
            · exact q2 w w0 (by omega)⟩) (fun q => by omega)
  rw [n0]
  refine st (K 0 0).toNat 100000 0 _ (by omega) (by omega) (by omega) (by split <;> omega) (fun q => ⟨?_, fun w w0 w1 => by omega⟩) (fun q w => ?_)
  · by_cases d : K 0 0 ≤ 0
    · rw [if_pos d] at q
      omega
    · omega
  · have := w.1
    rw [if_neg (by omega)] at q
    omega
theorem R_whole_any (h0 : 0 ≤ r 758 20) (h1 : r 758 20 ≤ 3) (h4 : r 758 4 ≠ -1) : ∀ b : Int, f_X12_readChip_77 100000 b 0 r = some r := by
  have st : ∀ (m k : Nat) (v b : Int), 0 ≤ v → v + m = r 758 20 → m < k → f_X12_readChip_77 k b v r = some r := by
    intro m
    induction m with
    | zero =>
      intro k v b v0 hv hk
      obtain ⟨k, rfl⟩ : ∃ j, k = j + 1 := ⟨k - 1, by omega⟩
      rw [f_X12_readChip_77, if_pos (by omega)]
      unfold f_X12_fails
      rw [if_neg h4, Option.bind_some]
      split <;> rfl
    | succ m ih =>
      intro k v b v0 hv hk
      obtain ⟨k, rfl⟩ : ∃ j, k = j + 1 := ⟨k - 1, by omega⟩
      rw [f_X12_readChip_77, if_neg (by omega), zid (x := v + 1) (by omega) (by omega), zid (x := 4 * v) (by omega) (by omega), zid (x := 4 * v + 3) (by omega) (by omega), if_pos (show 0 ≤ 4 * v + 3 ∧ 4 * v + 3 < 12 by omega)]
      split
      · exact ih k (v + 1) 0 (by omega) (by omega) (by omega)
      · exact ih k (v + 1) _ (by omega) (by omega) (by omega)
  exact fun b => st (r 758 20).toNat 100000 0 b (by omega) (by omega) (by omega)
/-- the end where a fault stands -/
theorem T_endX {kc kr : Nat} (h : TX c r f) (h0 : 0 ≤ c a 0) (h1 : c a 0 ≤ 3) (h2 : 0 ≤ r 758 20) (h3 : r 758 20 ≤ 3) : f_X10_readChip_15 (kc + 1) a 0 i c = some (f, c) ∧ f_X12_readChip_43 (kr + 1) met 0 r = some r := by
  obtain ⟨t1, t2, t3, t4, t5, t6⟩ := h
  obtain ⟨b, hb⟩ := C_isWhole_any h0 h1
  refine ⟨?_, ?_⟩
  · rw [f_X10_readChip_15, if_pos rfl]
    unfold f_X10_readChip_63 f_X9_refuse
    rw [hb, Option.bind_some]
    by_cases d : b = 0
    · rw [if_pos d, if_neg (by omega), Option.bind_some, t4]
    · rw [if_neg d, t4]
  · rw [f_X12_readChip_43, if_pos rfl, R_whole_any h2 h3 (by omega)]
set_option maxHeartbeats 1000000 in
theorem T_chipL (ha : 3 < a) : ∀ (m kc kr : Nat) (i met : Int) (c r K : Nat → Nat → Int) (p : Int), TA c r p → RC c a K → DR r K → WQ K → 0 ≤ c a 4 ∧ c a 4 < 64 → met = 8 * c a 4 → 0 ≤ i → i ≤ p → p + m = r 758 2 → m + 2 < kc → m + 2 < kr →
    ∃ f c' r', f_X10_readChip_15 kc a 1 i c = some (f, c') ∧ f_X12_readChip_43 kr met 1 r = some r' ∧ FM (SLC a) c c' ∧ FM SLR r r' ∧ CE c' r' a f := by
  intro m
  induction m using Nat.strongRecOn with
  | ind m ih =>
    intro kc kr i met c r K p h hC hD hW hx hm i0 hi hp hkc hkr
    obtain ⟨kc, rfl⟩ : ∃ j, kc = j + 2 := ⟨kc - 2, by omega⟩
    obtain ⟨kr, rfl⟩ : ∃ j, kr = j + 2 := ⟨kr - 2, by omega⟩
    have hl := h.1.2.2.1
    obtain ⟨c1, r1, met1, g1, g2, g3, g4, g5⟩ := T_line h hC hD hW ha hx hm
    have hcl : f_X10_readChip_15 (kc + 2) a 1 i c = (f_X9_isSound c1).bind fun q12 => if q12 = 0 then f_X10_readChip_15 (kc + 1) a 0 (z_w (i + 1)) c1 else (f_X9_readSemicolon c1).bind fun q16 => f_X10_readChip_15 (kc + 1) a (if q16.1 = 0 then 0 else 1) (z_w (i + 1)) q16.2 := by
      rw [f_X10_readChip_15, if_neg (show ¬ (1 : Int) = 0 by omega), if_neg (by omega), g1, Option.bind_some]
    have hrf : f_X12_readChip_43 (kr + 2) met 1 r = (f_X12_goesOn r1).bind fun q12 => f_X12_readChip_43 (kr + 1) met1 q12.1 q12.2 := by
      rw [f_X12_readChip_43, if_neg (show ¬ (1 : Int) = 0 by omega), g2, Option.bind_some]
    have e2 : r1 758 2 = r 758 2 := g4 758 2 (by unfold SLR SRE; omega)
    rcases g5 with ⟨s, K1, b1, b2, b3, b4, b5, b6⟩ | ⟨f, b1, b2, b3, b4, b5⟩
    · rw [b1.sound, Option.bind_some, if_neg (show ¬ (1 : Int) = 0 by omega)] at hcl
      obtain ⟨b, c2, r2, s2, d1, d2, d3, d4, d5⟩ := T_semi b1
      have hC2 := b3.fd (by have := b5.1; omega) ha d3
      have hD2 := b4.fm d4
      have mc := g3.trans (SRD.lc (a := a) d3)
      have mr := g4.trans (SRE.lr d4)
      rw [d1, Option.bind_some, zid (x := i + 1) (by omega) (by omega)] at hcl
      rw [d2, Option.bind_some] at hrf
      dsimp only at hcl hrf
      have e22 : r2 758 2 = r 758 2 := (d4 758 2 (by unfold SRE; omega)).trans e2
      have e44 : c2 a 4 = c1 a 4 := c0_sr d3 ha 4
      rcases d5 with ⟨w1, w2, w3, w4⟩ | ⟨w1, w2, w3⟩ | ⟨w1, w2⟩
      · rw [w1, if_neg (show ¬ (1 : Int) = 0 by omega)] at hcl
        rw [w1] at hrf
        have hs2 := w2.2.2.2.2.1
        obtain ⟨f, c', r', k1, k2, k3, k4, k5⟩ := ih (r 758 2 - s2).toNat (by omega) (kc + 1) (kr + 1) (i + 1) met1 c2 r2 K1 s2 w2 hC2 hD2 b5 (by rw [e44]; exact ⟨b6.1, b6.2.1⟩) (by rw [e44]; exact b6.2.2) (by omega) (by omega) (by omega) (by omega) (by omega)
        exact ⟨f, c', r', hcl.trans k1, hrf.trans k2, mc.trans k3, mr.trans k4, k5⟩
      · rw [w1, if_pos rfl] at hcl
        rw [w1] at hrf
        obtain ⟨t1, t2, t3, t4, t5, t6, t7⟩ := w2
        have hrw := R_whole hD2 b5 t7
        have hend : f_X12_readChip_43 (kr + 1) met1 0 r2 = f_X12_readChip_77 100000 (if r2 758 20 ≤ 0 then 0 else 1) 0 r2 := by rw [f_X12_readChip_43, if_pos rfl]
        have hendc : f_X10_readChip_15 (kc + 1) a 0 (i + 1) c2 = f_X10_readChip_63 a c2 := by rw [f_X10_readChip_15, if_pos rfl]
        rw [hend] at hrf
        rw [hendc] at hcl
        unfold f_X10_readChip_63 f_X9_refuse at hcl
        rcases C_isWhole hC2 b5 with ⟨y1, y2⟩ | ⟨y1, y2⟩
        · rw [y1, Option.bind_some, if_neg (show ¬ (1 : Int) = 0 by omega), t6] at hcl
          rcases hrw with ⟨z1, z2⟩ | ⟨z1, z2⟩
          · exact ⟨-1, c2, r2, hcl, hrf.trans z1, mc, mr, t1, t6, t7, Or.inl ⟨rfl, K1, hC2, hD2, b5, y2⟩⟩
          · exact absurd y2 z2
        · rw [y1, Option.bind_some, if_pos rfl, if_pos t6, Option.bind_some, u2_e] at hcl
          rcases hrw with ⟨z1, z2⟩ | ⟨z1, z2⟩
          · exact absurd z2 y2
          · have hmc : FM SRD c2 (u2 c2 2 4 (c2 2 1)) := FM.refl.u (by unfold SRD; omega)
            have hmr : FM SRE r2 (u2 r2 758 4 (r2 758 3)) := FM.refl.u (by unfold SRE; omega)
            exact ⟨c2 2 1, _, _, hcl, hrf.trans z1, mc.trans (SRD.lc hmc), mr.trans (SRE.lr hmr), t1.fm hmc hmr, u2_e, by rw [u2_e, t3, w3, t1.1, e22, e2], Or.inr (by have := t1.1; have := t1.2.1; omega)⟩
      · rw [w1, if_pos rfl] at hcl
        rw [w1] at hrf
        obtain ⟨k1, k2⟩ := T_endX (a := a) (kc := kc) (kr := kr) (i := i + 1) (met := met1) w2 (by rw [hC2.n0]; have := b5.1; omega) (by rw [hC2.n0]; have := b5.1; omega) (by rw [hD2.1.1]; have := b5.1; omega) (by rw [hD2.1.1]; have := b5.1; omega)
        exact ⟨s2, c2, r2, hcl.trans k1, hrf.trans k2, mc, mr, w2.1, w2.2.2.2.1, w2.2.2.2.2.1, Or.inr (by have := w2.2.2.2.2.2; omega)⟩
    · have hgo : f_X12_goesOn r1 = some (0, r1) := by
        unfold f_X12_goesOn
        rw [if_neg (by have := b1.2.2.2; omega)]
      rw [b1.sound, Option.bind_some, if_pos rfl] at hcl
      rw [hgo, Option.bind_some] at hrf
      obtain ⟨k1, k2⟩ := T_endX (a := a) (kc := kc) (kr := kr) (i := z_w (i + 1)) (met := met1) b1 b2 b3 b4 b5
      exact ⟨f, c1, r1, hcl.trans k1, hrf.trans k2, g3, g4, b1.1, b1.2.2.2.1, b1.2.2.2.2.1, Or.inr (by have := b1.2.2.2.2.2; omega)⟩
/-- a chip's text -/
theorem T_chip (h : TPR c r) (ha : 3 < a) : ∃ f c' r', f_X10_readChip a c = some (f, c') ∧ f_X12_readChip (u2 (u2 r 758 3 0) 758 4 (-1)) = some r' ∧ FM (SLC a) c c' ∧ FM SLR r r' ∧ CE c' r' a f := by
  have hb := TA.begin h
  have hm1 : FM SRD c (u2 (u2 (u2 c 2 2 0) 2 3 0) 2 4 (-1)) := ((FM.refl.u (by unfold SRD; omega)).u (by unfold SRD; omega)).u (by unfold SRD; omega)
  have hm2 : FM SRE r (u2 (u2 r 758 3 0) 758 4 (-1)) := (FM.refl.u (by unfold SRE; omega)).u (by unfold SRE; omega)
  have hcw : f_X9_rewind c = some (u2 (u2 (u2 c 2 2 0) 2 3 0) 2 4 (-1)) := rfl
  generalize u2 (u2 (u2 c 2 2 0) 2 3 0) 2 4 (-1) = c0 at *
  generalize u2 (u2 r 758 3 0) 758 4 (-1) = r0 at *
  obtain ⟨c1, a1, a2, a3, a4⟩ := C_begin (a := a) (c := c0)
  obtain ⟨r1, b1, b2, b3⟩ := R_begin (r := r0)
  obtain ⟨h1, h2, h3, h4, h5, h6, h7⟩ := hb
  have gc : ∀ b, b < a → c1 b = c0 b := fun b hb => funext fun j => a4 b j (by omega)
  have e2 : r1 758 2 = r0 758 2 := b3 758 2 (by omega)
  have hA : TA c1 r1 0 := ⟨h1.frame (by rw [gc 2 (by omega)]) (gc 3 (by omega)) e2 (funext fun j => b3 759 j (by omega)), by rw [gc 2 (by omega)]; exact h2, (b3 758 3 (by omega)).trans h3, h4, by rw [e2]; exact h5, by rw [gc 2 (by omega)]; exact h6, (b3 758 4 (by omega)).trans h7⟩
  have hl := hA.1.2.2.1
  obtain ⟨f, c', r', k1, k2, k3, k4, k5⟩ := T_chipL ha (r1 758 2).toNat 100000 100000 0 0 c1 r1 m_K0 0 hA a2 b2 WQ_0 (by omega) (by omega) (by omega) (by omega) (by have := hA.1.2.1; omega) (by omega) (by omega)
  refine ⟨f, c', r', ?_, b1.trans k2, ((SRD.lc hm1).trans (a4.mono (fun b j hb => Or.inr hb))).trans k3, ((SRE.lr hm2).trans (b3.mono (fun b j hb => by unfold SLR; omega))).trans k4, k5⟩
  unfold f_X10_readChip
  rw [hcw, Option.bind_some, a1, Option.bind_some, k1]
end S_CH
