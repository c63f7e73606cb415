-- acts: why they can't be, what they do, as numbers
def m_stops (K : Nat → Nat → Int) (w : Nat → Int) (what a b c who : Int) : Int :=
  if what = 0 then (if 1 ≤ a ∧ a ≤ 60 then (if w 41 + a ≤ 9999 then -1 else 3) else 1)
  else if what = 1 then (if 0 ≤ a ∧ a < K 0 1 ∧ 0 ≤ b ∧ b < K 0 2 then (if w (21 + a).toNat = b then 2 else -1) else 0)
  else if what = 2 then (if 0 ≤ a ∧ a < K 0 0 then (if 0 ≤ b ∧ b ≤ c ∧ c < K 4 a.toNat then (if m_ask w who a = -1 then (if w 44 < 6 then -1 else 3) else if w (48 + 5 * m_ask w who a).toNat = b ∧ w (49 + 5 * m_ask w who a).toNat = c then 2 else -1) else 1) else 0)
  else if what = 3 then (if 0 ≤ a ∧ a < K 0 0 then (if m_ask w who a = -1 then 2 else -1) else 0)
  else if what = 4 then (if 0 ≤ a ∧ a < K 0 1 then (if w (37 + a).toNat = 1 then 2 else -1) else 0)
  else if what = 5 then (if 0 ≤ a ∧ a < K 0 1 then (if w (37 + a).toNat = 0 then 2 else -1) else 0)
  else if (m_best K w (m_shs K w)).1 = -1 then 3 else if (m_best K w (m_shs K w)).1 = m_way K w then 2 else -1
def m_tellA (w : Nat → Int) (who a b c : Int) : Nat → Int :=
  u1 (u1 (u1 (u1 (u1 (u1 w 44 (w 44 + 1)) (45 + 5 * w 44).toNat (z_w (z_shrL who 32))) (46 + 5 * w 44).toNat (z_w who)) (47 + 5 * w 44).toNat a) (48 + 5 * w 44).toNat b) (49 + 5 * w 44).toNat c
def m_tell (w : Nat → Int) (who a b c : Int) : Int × (Nat → Int) := if m_ask w who a = -1 then (w 44, m_tellA w who a b c) else (m_ask w who a, u1 (u1 w (48 + 5 * m_ask w who a).toNat b) (49 + 5 * m_ask w who a).toNat c)
def m_shift (w : Nat → Int) (k : Int) : Nat → Int := fun j => if 45 + 5 * k ≤ (j : Int) ∧ (j : Int) < 45 + 5 * (w 44 - 1) then w (j + 5) else if j = 44 then w 44 - 1 else w j
def m_setS (K : Nat → Nat → Int) (n t : Int) (s : Int × (Nat → Int)) : Int × (Nat → Int) := (s.1 + (if s.2 (21 + t).toNat = m_core K n t then 0 else 1), u1 s.2 (21 + t).toNat (m_core K n t))
def m_settle (K : Nat → Nat → Int) (w : Nat → Int) : Int × (Nat → Int) := iter (m_setS K (m_best K w (m_shs K w)).1) (K 0 1).toNat 0 (0, w)
def m_does (K : Nat → Nat → Int) (w : Nat → Int) (what a b c who : Int) : Int × (Nat → Int) :=
  if what = 0 then m_ticks K (-1) 0 a.toNat w
  else if what = 1 then (w (21 + a).toNat, u1 w (21 + a).toNat b)
  else if what = 2 then m_tell w who a b c
  else if what = 3 then (w 44 - 1, m_shift w (m_ask w who a))
  else if what = 4 then (w (25 + a).toNat, u1 (u1 w (25 + a).toNat 0) (37 + a).toNat 1)
  else if what = 5 then (w 41, u1 w (37 + a).toNat 0)
  else m_settle K w
section S_AC
variable {σ K : Nat → Nat → Int} {a1 st b : Nat} {w : Nat → Int} {what x y z who : Int}
def SS : Nat → Nat → Prop := fun c j => c = 781 ∨ c = 782 ∨ c = 783 ∨ (c = 758 ∧ j = 47)
set_option maxHeartbeats 8000000 in
theorem R_stopsAsking (hM : RM σ K) (hK : WK K) (hS : WS K (σ b)) (hw : σ 758 41 = who) : f_X12_stopsAsking b x y z σ = some (if 0 ≤ x ∧ x < K 0 0 then (if 0 ≤ y ∧ y ≤ z ∧ z < K 4 x.toNat then (if m_ask (σ b) who x = -1 then (if (σ b) 44 < 6 then -1 else 3) else if (σ b) (48 + 5 * m_ask (σ b) who x).toNat = y ∧ (σ b) (49 + 5 * m_ask (σ b) who x).toNat = z then 2 else -1) else 1) else 0) := by
  have hkn := hK.n
  have hn := hS.n
  unfold f_X12_stopsAsking
  by_cases d1 : 0 ≤ x ∧ x < K 0 0
  · have hkc := hK.c d1.1 d1.2
    rw [R_isCluster_y hM d1.1 d1.2, R_lastPoint hM hK d1.1 d1.2, R_askOf hS, hw, if_pos d1]
    by_cases d2 : 0 ≤ y ∧ y ≤ K 4 x.toNat - 1
    · by_cases d3 : y ≤ z ∧ z ≤ K 4 x.toNat - 1
      · rcases m_ask_in hS (nm := who) (c := x) with q | q
        · by_cases d4 : σ b 44 = 6 <;> simp (disch := first | assumption | omega) only [if_true, if_false, zid, zlid, if_pos, if_neg, u2_e, u2_c, u2_i, u1_e, u1_i, Option.bind_some, R_isIn_y]
        · have hk := hS.k q.1 q.2.1
          by_cases d4 : σ b (48 + 5 * m_ask (σ b) who x).toNat = y
          · by_cases d5 : σ b (49 + 5 * m_ask (σ b) who x).toNat = z <;> simp (disch := first | assumption | omega) only [if_true, if_false, zid, zlid, if_pos, if_neg, u2_e, u2_c, u2_i, u1_e, u1_i, Option.bind_some, R_isIn_y]
          · simp (disch := first | assumption | omega) only [if_true, if_false, zid, zlid, if_pos, if_neg, u2_e, u2_c, u2_i, u1_e, u1_i, Option.bind_some, R_isIn_y]
      · simp (disch := first | assumption | omega) only [if_true, if_false, zid, zlid, if_pos, if_neg, u2_e, u2_c, u2_i, u1_e, u1_i, Option.bind_some, R_isIn_y, R_isIn_n]
    · simp (disch := first | assumption | omega) only [if_true, if_false, zid, zlid, if_pos, if_neg, u2_e, u2_c, u2_i, u1_e, u1_i, Option.bind_some, R_isIn_n]
  · rw [R_isCluster_n hM d1]
    simp (disch := first | assumption | omega) only [if_true, if_false, zid, zlid, if_pos, if_neg, u2_e, u2_c, u2_i, u1_e, u1_i, Option.bind_some]
set_option maxHeartbeats 8000000 in
theorem R_stops (hM : RM σ K) (hK : WK K) (hS : WS K (σ b)) (hb : 776 ≤ b) (hb2 : b < 780) (h38 : σ 758 38 = -1) (hw : σ 758 41 = who) (hx : -2147483648 ≤ x ∧ x < 2147483648) (hwh : 0 ≤ what ∧ what ≤ 6) : ∃ σ', f_X12_stops b what x y z σ = some (m_stops K (σ b) what x y z who, σ') ∧ FM SS σ σ' := by
  have hkn := hK.n
  have hn := hS.n
  have h0 : ¬ σ 758 21 = 0 := by rw [hM.n0]; omega
  unfold f_X12_stops m_stops
  rw [if_neg h0]
  by_cases c0 : what = 0
  · rw [if_pos c0, if_pos c0]
    by_cases d1 : 1 ≤ x ∧ x ≤ 60
    · refine ⟨σ, ?_, FM.refl⟩
      rw [R_isIn_y d1.1 d1.2, if_pos d1]
      by_cases d2 : σ b 41 + x ≤ 9999 <;> simp (disch := first | assumption | omega) only [if_true, if_false, zid, zlid, if_pos, if_neg, u2_e, u2_c, u2_i, u1_e, u1_i, Option.bind_some]
    · refine ⟨σ, ?_, FM.refl⟩
      rw [R_isIn_n d1, if_neg d1]
      simp (disch := first | assumption | omega) only [if_true, if_false, zid, zlid, if_pos, if_neg, u2_e, u2_c, u2_i, u1_e, u1_i, Option.bind_some]
  rw [if_neg c0, if_neg c0]
  by_cases c1 : what = 1
  · rw [if_pos c1, if_pos c1]
    refine ⟨σ, ?_, FM.refl⟩
    by_cases d1 : 0 ≤ x ∧ x < K 0 1
    · rw [R_isTask_y hM d1.1 d1.2]
      by_cases d2 : 0 ≤ y ∧ y < K 0 2
      · rw [R_isCore_y hM hK d2.1 d2.2]
        by_cases d3 : σ b (21 + x).toNat = y <;> simp (disch := first | assumption | omega) only [if_true, if_false, zid, zlid, if_pos, if_neg, u2_e, u2_c, u2_i, u1_e, u1_i, Option.bind_some]
      · rw [R_isCore_n hM hK d2]
        simp (disch := first | assumption | omega) only [if_true, if_false, zid, zlid, if_pos, if_neg, u2_e, u2_c, u2_i, u1_e, u1_i, Option.bind_some]
    · rw [R_isTask_n hM d1]
      simp (disch := first | assumption | omega) only [if_true, if_false, zid, zlid, if_pos, if_neg, u2_e, u2_c, u2_i, u1_e, u1_i, Option.bind_some]
  rw [if_neg c1, if_neg c1]
  by_cases c2 : what = 2
  · rw [if_pos c2, if_pos c2]
    refine ⟨σ, ?_, FM.refl⟩
    rw [R_stopsAsking hM hK hS hw]
    rfl
  rw [if_neg c2, if_neg c2]
  by_cases c3 : what = 3
  · rw [if_pos c3, if_pos c3]
    refine ⟨σ, ?_, FM.refl⟩
    rw [R_askOf hS, hw]
    by_cases d1 : 0 ≤ x ∧ x < K 0 0
    · rw [R_isCluster_y hM d1.1 d1.2]
      by_cases d2 : m_ask (σ b) who x = -1 <;> simp (disch := first | assumption | omega) only [if_true, if_false, zid, zlid, if_pos, if_neg, u2_e, u2_c, u2_i, u1_e, u1_i, Option.bind_some]
    · rw [R_isCluster_n hM d1]
      simp (disch := first | assumption | omega) only [if_true, if_false, zid, zlid, if_pos, if_neg, u2_e, u2_c, u2_i, u1_e, u1_i, Option.bind_some]
  rw [if_neg c3, if_neg c3]
  by_cases c4 : what = 4
  · rw [if_pos c4, if_pos c4]
    refine ⟨σ, ?_, FM.refl⟩
    by_cases d1 : 0 ≤ x ∧ x < K 0 1
    · rw [R_isTask_y hM d1.1 d1.2]
      by_cases d2 : σ b (37 + x).toNat = 1 <;> simp (disch := first | assumption | omega) only [if_true, if_false, zid, zlid, if_pos, if_neg, u2_e, u2_c, u2_i, u1_e, u1_i, Option.bind_some]
    · rw [R_isTask_n hM d1]
      simp (disch := first | assumption | omega) only [if_true, if_false, zid, zlid, if_pos, if_neg, u2_e, u2_c, u2_i, u1_e, u1_i, Option.bind_some]
  rw [if_neg c4, if_neg c4]
  by_cases c5 : what = 5
  · rw [if_pos c5, if_pos c5]
    refine ⟨σ, ?_, FM.refl⟩
    by_cases d1 : 0 ≤ x ∧ x < K 0 1
    · rw [R_isTask_y hM d1.1 d1.2]
      by_cases d2 : σ b (37 + x).toNat = 0 <;> simp (disch := first | assumption | omega) only [if_true, if_false, zid, zlid, if_pos, if_neg, u2_e, u2_c, u2_i, u1_e, u1_i, Option.bind_some]
    · rw [R_isTask_n hM d1]
      simp (disch := first | assumption | omega) only [if_true, if_false, zid, zlid, if_pos, if_neg, u2_e, u2_c, u2_i, u1_e, u1_i, Option.bind_some]
  rw [if_neg c5, if_neg c5]
  obtain ⟨σ1, g1, g2, g3⟩ := R_laysShares hM hK hS hb hb2
  have hM1 := hM.fm g3 (fun c j hj => by omega)
  have ew : σ1 b = σ b := funext fun j => g3 b j (by omega)
  obtain ⟨σ2, k1, k2, k3⟩ := R_bestWay (b := b) hM1 hK (by rw [ew]; exact hS) hb hb2 (by rw [g3 758 38 (by omega)]; exact h38) g2
  rw [ew] at k1 k2
  have hM2 := hM1.fm k3 (fun c j hj => by omega)
  have ew2 : σ2 b = σ b := (funext fun j => k3 b j (by omega) : σ2 b = σ1 b).trans ew
  have hwo := R_wayOf (b := b) hM2 hK (by rw [ew2]; exact hS)
  rw [ew2] at hwo
  refine ⟨σ2, ?_, (g3.mono (fun c j hc => by unfold SS; omega)).trans (k3.mono (fun c j hc => by unfold SS; omega))⟩
  unfold f_X12_stopsSettling
  rw [g1, Option.bind_some, k1, Option.bind_some]
  dsimp only
  by_cases d1 : (m_best K (σ b) (m_shs K (σ b))).1 = -1
  · rw [if_pos d1, if_pos d1]
    rfl
  · rw [if_neg d1, if_neg d1, hwo, Option.bind_some]
    by_cases d2 : (m_best K (σ b) (m_shs K (σ b))).1 = m_way K (σ b)
    · rw [if_pos d2, if_pos d2]
      rfl
    · rw [if_neg d2, if_neg d2]
      rfl
/-- a step told: its sort, its numbers, who asks (those that its sort has) -/
def TS (σ : Nat → Nat → Int) (st : Nat) (what x y z who : Int) : Prop := σ st 1 = what ∧ (what ≠ 6 → σ (st + 1) 0 = x) ∧ (what = 1 ∨ what = 2 → σ (st + 1) 1 = y) ∧ (what = 2 → σ (st + 1) 2 = z) ∧ (what = 2 ∨ what = 3 → σ st 2 = who)
set_option maxHeartbeats 8000000 in
theorem C_askRefusal {a : Nat} (hR : RS σ a K w (-1) 0) (hC : RC σ a1 K) (hK : WK K) (hS : WS K w) (t1 : σ (st + 1) 0 = x) (t2 : σ (st + 1) 1 = y) (t3 : σ (st + 1) 2 = z) (t4 : σ st 2 = who) (hw : who ≠ 0) : f_X0_askRefusal a1 a st σ = some (if 0 ≤ x ∧ x < K 0 0 then (if 0 ≤ y ∧ y ≤ z ∧ z < K 4 x.toNat then (if m_ask w who x = -1 then (if w 44 < 6 then -1 else 3) else if w (48 + 5 * m_ask w who x).toNat = y ∧ w (49 + 5 * m_ask w who x).toNat = z then 2 else -1) else 1) else 0) := by
  have hkn := hK.n
  have hn := hS.n
  unfold f_X0_askRefusal f_X0_askRefusal_62
  rw [t1, t2, t3, t4]
  have hz : ¬ z_cmp who 0 = 0 := fun q => hw (z_cmp_0.mp q)
  by_cases d1 : 0 ≤ x ∧ x < K 0 0
  · have hkc := hK.c d1.1 d1.2
    by_cases d2 : 0 ≤ y ∧ y < K 4 x.toNat
    · by_cases d3 : 0 ≤ z ∧ z < K 4 x.toNat
      · by_cases d4 : y ≤ z
        · rcases m_ask_in hS (nm := who) (c := x) with q | q
          · by_cases d5 : w 44 < 6 <;> simp (disch := first | assumption | omega) only [if_true, if_false, zid, zlid, if_pos, if_neg, u2_e, u2_c, u2_i, u1_e, u1_i, Option.bind_some, C_hasCluster_y hC, C_hasPoint_y hC, C_askOf hR hS, hR.n4]
          · have hk := hS.k q.1 q.2.1
            by_cases d5 : w (48 + 5 * m_ask w who x).toNat = y
            · by_cases d6 : w (49 + 5 * m_ask w who x).toNat = z <;> simp (disch := first | assumption | omega) only [if_true, if_false, zid, zlid, if_pos, if_neg, u2_e, u2_c, u2_i, u1_e, u1_i, Option.bind_some, C_hasCluster_y hC, C_hasPoint_y hC, C_askOf hR hS, hR.n4, hR.k11, hR.k12]
            · simp (disch := first | assumption | omega) only [if_true, if_false, zid, zlid, if_pos, if_neg, u2_e, u2_c, u2_i, u1_e, u1_i, Option.bind_some, C_hasCluster_y hC, C_hasPoint_y hC, C_askOf hR hS, hR.n4, hR.k11, hR.k12]
        · simp (disch := first | assumption | omega) only [if_true, if_false, zid, zlid, if_pos, if_neg, u2_e, u2_c, u2_i, u1_e, u1_i, Option.bind_some, C_hasCluster_y hC, C_hasPoint_y hC]
      · simp (disch := first | assumption | omega) only [if_true, if_false, zid, zlid, if_pos, if_neg, u2_e, u2_c, u2_i, u1_e, u1_i, Option.bind_some, C_hasCluster_y hC, C_hasPoint_y hC, C_hasPoint_n hC]
    · simp (disch := first | assumption | omega) only [if_true, if_false, zid, zlid, if_pos, if_neg, u2_e, u2_c, u2_i, u1_e, u1_i, Option.bind_some, C_hasCluster_y hC, C_hasPoint_n hC]
  · simp (disch := first | assumption | omega) only [if_true, if_false, zid, zlid, if_pos, if_neg, u2_e, u2_c, u2_i, u1_e, u1_i, Option.bind_some, C_hasCluster_n hC]
set_option maxHeartbeats 8000000 in
theorem C_refusalOf {a : Nat} (hR : RS σ a K w (-1) 0) (hC : RC σ a1 K) (hK : WK K) (hS : WS K w) (ha1 : a1 + 19 ≤ 42) (ha : 173 ≤ a) (ha2 : a + 13 ≤ 743) (hT : TS σ st what x y z who) (hwh : 0 ≤ what ∧ what ≤ 6) (hw : what = 2 ∨ what = 3 → who ≠ 0) (hx : -2147483648 ≤ x ∧ x < 2147483648) :
    ∃ σ', f_X0_refusalOf a1 a st σ = some (m_stops K w what x y z who, σ') ∧ FM SF σ σ' := by
  have hkn := hK.n
  have hn := hS.n
  obtain ⟨t0, t1, t2, t3, t4⟩ := hT
  unfold f_X0_refusalOf m_stops
  rw [t0]
  by_cases c0 : what = 0
  · rw [if_pos c0, if_pos c0, t1 (by omega)]
    refine ⟨σ, ?_, FM.refl⟩
    unfold f_X0_tickRefusal
    rw [C_isTold_y hC (by omega)]
    by_cases d1 : 1 ≤ x ∧ x ≤ 60
    · by_cases d2 : w 41 + x ≤ 9999 <;> simp (disch := first | assumption | omega) only [if_true, if_false, zid, zlid, if_pos, if_neg, u2_e, u2_c, u2_i, u1_e, u1_i, Option.bind_some, hR.n0]
    · by_cases d2 : x < 1 <;> simp (disch := first | assumption | omega) only [if_true, if_false, zid, zlid, if_pos, if_neg, u2_e, u2_c, u2_i, u1_e, u1_i, Option.bind_some]
  rw [if_neg c0, if_neg c0]
  by_cases c1 : what = 1
  · rw [if_pos c1, if_pos c1, t1 (by omega), t2 (Or.inl c1)]
    refine ⟨σ, ?_, FM.refl⟩
    unfold f_X0_moveRefusal
    by_cases d1 : 0 ≤ x ∧ x < K 0 1
    · by_cases d2 : 0 ≤ y ∧ y < K 0 2
      · by_cases d3 : w (21 + x).toNat = y <;> simp (disch := first | assumption | omega) only [if_true, if_false, zid, zlid, if_pos, if_neg, u2_e, u2_c, u2_i, u1_e, u1_i, Option.bind_some, C_hasTask_y hC, C_hasCore_y hC, hR.t1]
      · simp (disch := first | assumption | omega) only [if_true, if_false, zid, zlid, if_pos, if_neg, u2_e, u2_c, u2_i, u1_e, u1_i, Option.bind_some, C_hasTask_y hC, C_hasCore_n hC]
    · simp (disch := first | assumption | omega) only [if_true, if_false, zid, zlid, if_pos, if_neg, u2_e, u2_c, u2_i, u1_e, u1_i, Option.bind_some, C_hasTask_n hC]
  rw [if_neg c1, if_neg c1]
  by_cases c2 : what = 2
  · rw [if_pos c2, if_pos c2]
    refine ⟨σ, ?_, FM.refl⟩
    rw [C_askRefusal hR hC hK hS (t1 (by omega)) (t2 (Or.inr c2)) (t3 c2) (t4 (Or.inl c2)) (hw (Or.inl c2))]
    rfl
  rw [if_neg c2, if_neg c2]
  by_cases c3 : what = 3
  · rw [if_pos c3, if_pos c3]
    refine ⟨σ, ?_, FM.refl⟩
    have t4' := t4 (Or.inr c3)
    have hw' := hw (Or.inr c3)
    unfold f_X0_dropRefusal
    rw [t1 (by omega), t4']
    have hz : ¬ z_cmp who 0 = 0 := fun q => hw' (z_cmp_0.mp q)
    by_cases d1 : 0 ≤ x ∧ x < K 0 0
    · by_cases d2 : m_ask w who x = -1 <;> simp (disch := first | assumption | omega) only [if_true, if_false, zid, zlid, if_pos, if_neg, u2_e, u2_c, u2_i, u1_e, u1_i, Option.bind_some, C_hasCluster_y hC, C_askOf hR hS]
    · simp (disch := first | assumption | omega) only [if_true, if_false, zid, zlid, if_pos, if_neg, u2_e, u2_c, u2_i, u1_e, u1_i, Option.bind_some, C_hasCluster_n hC]
  rw [if_neg c3, if_neg c3]
  by_cases c4 : what = 4
  · rw [if_pos c4, if_pos c4, t1 (by omega)]
    refine ⟨σ, ?_, FM.refl⟩
    unfold f_X0_stopRefusal
    by_cases d1 : 0 ≤ x ∧ x < K 0 1
    · by_cases d2 : w (37 + x).toNat = 1 <;> simp (disch := first | assumption | omega) only [if_true, if_false, zid, zlid, if_pos, if_neg, u2_e, u2_c, u2_i, u1_e, u1_i, Option.bind_some, C_hasTask_y hC, C_isStopped hR hK hS]
    · simp (disch := first | assumption | omega) only [if_true, if_false, zid, zlid, if_pos, if_neg, u2_e, u2_c, u2_i, u1_e, u1_i, Option.bind_some, C_hasTask_n hC]
  rw [if_neg c4, if_neg c4]
  by_cases c5 : what = 5
  · rw [if_pos c5, if_pos c5, t1 (by omega)]
    refine ⟨σ, ?_, FM.refl⟩
    unfold f_X0_stopRefusal
    by_cases d1 : 0 ≤ x ∧ x < K 0 1
    · by_cases d2 : w (37 + x).toNat = 0 <;> simp (disch := first | assumption | omega) only [if_true, if_false, zid, zlid, if_pos, if_neg, u2_e, u2_c, u2_i, u1_e, u1_i, Option.bind_some, C_hasTask_y hC, C_isStopped hR hK hS]
    · simp (disch := first | assumption | omega) only [if_true, if_false, zid, zlid, if_pos, if_neg, u2_e, u2_c, u2_i, u1_e, u1_i, Option.bind_some, C_hasTask_n hC]
  rw [if_neg c5, if_neg c5]
  obtain ⟨σ1, l1, l2, l3, l4, l5, l6⟩ := C_findBest hR hC hK hS ha1 ha ha2
  have hC1 := hC.frame (σ' := σ1) (by omega) (fun c _ _ => SF.fr l6 (by omega))
  have hR1 := hR.frame (σ' := σ1) (fun c _ _ => SF.fr l6 (by omega))
  refine ⟨σ1, ?_, l6⟩
  unfold f_X0_settleRefusal
  rw [C_isTold_y hC (by omega), Option.bind_some, if_neg (show ¬ (1 : Int) = 0 by omega), l1, Option.bind_some]
  dsimp only
  have hbi := m_best_in hK hS (m_shs_in (w := w) hK) (m_pow K).toNat
  by_cases d1 : (m_best K w (m_shs K w)).1 = -1
  · rw [if_pos d1, if_pos d1, if_pos rfl]
    rfl
  · rw [if_neg d1, if_neg d1, if_neg (show ¬ (1 : Int) = 0 by omega)]
    have hbr : 0 ≤ (m_best K w (m_shs K w)).1 ∧ (m_best K w (m_shs K w)).1 < m_pow K := by
      have hpw := m_pow_in hK
      rcases hbi with q | q
      · exact absurd q.1 d1
      · have := q.2.1
        unfold m_best at d1 ⊢
        omega
    have hmv : ∃ c, f_X0_movedForBest a1 a σ1 = some c ∧ (c = 0 ↔ ∀ t : Int, 0 ≤ t → t < K 0 1 → w (21 + t).toNat = m_core K (m_best K w (m_shs K w)).1 t) := by
      have h := hoare_loop (F := fun k t (q : Int) => f_X0_movedForBest_5 k a1 a q t σ1) (hi := K 0 1) (fun t q => 0 ≤ t ∧ 0 ≤ q ∧ q ≤ t ∧ (q = 0 ↔ ∀ u : Int, 0 ≤ u → u < t → w (21 + u).toNat = m_core K (m_best K w (m_shs K w)).1 u)) (fun c => c = 0 ↔ ∀ t : Int, 0 ≤ t → t < K 0 1 → w (21 + t).toNat = m_core K (m_best K w (m_shs K w)).1 t)
        (fun k t q ht hq => by
          obtain ⟨p0, p1, p2, p3⟩ := hq
          have e1 := l3 d1 t p0 ht
          by_cases d2 : w (21 + t).toNat = m_core K (m_best K w (m_shs K w)).1 t
          · refine ⟨q, ?_, by omega, p1, by omega, ⟨fun hz u u0 u1 => ?_, fun hz => p3.mpr (fun u u0 u1 => hz u u0 (by omega))⟩⟩
            · rw [f_X0_movedForBest_5]
              simp (disch := first | assumption | omega) only [if_true, if_false, zid, zlid, if_pos, if_neg, u2_e, u2_c, u2_i, u1_e, u1_i, Option.bind_some, hC1.n1, hR1.t1, e1, Int.add_zero]
            · by_cases e : u = t
              · rw [e]
                exact d2
              · exact p3.mp hz u u0 (by omega)
          · refine ⟨q + 1, ?_, by omega, by omega, by omega, ⟨fun hz => by omega, fun hz => absurd (hz t p0 (by omega)) d2⟩⟩
            rw [f_X0_movedForBest_5]
            simp (disch := first | assumption | omega) only [if_true, if_false, zid, zlid, if_pos, if_neg, u2_e, u2_c, u2_i, u1_e, u1_i, Option.bind_some, hC1.n1, hR1.t1, e1])
        (fun k q hq => by
          obtain ⟨p0, p1, p2, p3⟩ := hq
          refine ⟨q, ?_, p3⟩
          rw [f_X0_movedForBest_5]
          simp (disch := first | assumption | omega) only [if_true, if_false, zid, zlid, if_pos, if_neg, u2_e, u2_c, u2_i, u1_e, u1_i, Option.bind_some, hC1.n1]) (K 0 1).toNat 100000 0 0 (by omega) (by omega) ⟨by omega, by omega, by omega, ⟨fun _ u u0 u1 => by omega, fun _ => rfl⟩⟩
      exact h
    obtain ⟨c, m1, m2⟩ := hmv
    rw [m1, Option.bind_some]
    by_cases d2 : (m_best K w (m_shs K w)).1 = m_way K w
    · have : c = 0 := m2.mpr (fun t t0 t1 => by
        rw [d2]
        exact ((m_way_in hK hS).2.2 t t0 t1).symm)
      rw [if_pos this, if_pos d2]
      rfl
    · have : ¬ c = 0 := fun e => d2 (m_way_of hK hbr.1 hbr.2 (m2.mp e)).symm
      rw [if_neg this, if_neg d2]
      rfl
end S_AC
