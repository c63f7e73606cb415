-- the law's start: two objects and a row of one long; what they hold; the shape as the walk has it
def shQ0 : Nat → ax_S := fun _ => .inr (9, 0, [])
def shQA : Nat → ax_S := shU shQ0 0 (.inl (11, [(4, 0), (4, 0), (4, 0), (4, 0), (4, 0), (0, 0), (4, 0), (4, 0), (4, 0), (0, 0), (4, 0), (4, 0), (4, 0), (4, 0), (4, 0), (4, 0), (4, 0), (4, 0), (1, 0)]))
def shQB : Nat → ax_S := mk_X11 0 1 shQA
def shQC : Nat → ax_S := shU shQB 758 (.inl (12, [(0, 0), (4, 0), (0, 0), (0, 0), (0, 0), (0, 0), (1, 0), (4, 0), (4, 0), (4, 0), (4, 0), (4, 0), (4, 0), (4, 0), (4, 0), (4, 0), (4, 0), (4, 0), (4, 0), (4, 0), (0, 0), (0, 0), (0, 0), (0, 0), (0, 0), (0, 0), (0, 0), (4, 0), (4, 0), (4, 0), (0, 0), (4, 0), (4, 0), (4, 0), (4, 0), (0, 0), (0, 0), (0, 0), (0, 0), (0, 0), (4, 0), (1, 0), (0, 0), (1, 0), (4, 0), (4, 0), (4, 0), (0, 0), (4, 0), (4, 0), (4, 0)]))
def shQD : Nat → ax_S := mk_X12 758 759 shQC
def shQE : Nat → ax_S := shU shQD 787 (.inr (1, 1, []))
def mzQ : Nat → Nat → Int := fun _ _ => 0
def mzE : Nat → Nat → Int := u2 (u2 mzQ 2 4 (-1)) 758 38 (-1)
def mzS : Nat → Nat → Int := u2 (u2 mzE 0 2 4) 0 3 23
def shQc (k : Nat) : Bool := match (inferInstance : DecidableEq ax_S) (shQE k) (SHp k) with
  | .isTrue _ => true
  | .isFalse _ => decide (k = 0)
theorem shQc_ok {k : Nat} (h0 : k ≠ 0) (h : shQc k = true) : shQE k = SHp k := by
  unfold shQc at h
  split at h
  · assumption
  · exact absurd (of_decide_eq_true h) h0
set_option maxRecDepth 1000000 in
theorem shQ_0 : ∀ k, k < 50 → shQc (0 + k) = true := by decide +kernel
set_option maxRecDepth 1000000 in
theorem shQ_50 : ∀ k, k < 50 → shQc (50 + k) = true := by decide +kernel
set_option maxRecDepth 1000000 in
theorem shQ_100 : ∀ k, k < 50 → shQc (100 + k) = true := by decide +kernel
set_option maxRecDepth 1000000 in
theorem shQ_150 : ∀ k, k < 50 → shQc (150 + k) = true := by decide +kernel
set_option maxRecDepth 1000000 in
theorem shQ_200 : ∀ k, k < 50 → shQc (200 + k) = true := by decide +kernel
set_option maxRecDepth 1000000 in
theorem shQ_250 : ∀ k, k < 50 → shQc (250 + k) = true := by decide +kernel
set_option maxRecDepth 1000000 in
theorem shQ_300 : ∀ k, k < 50 → shQc (300 + k) = true := by decide +kernel
set_option maxRecDepth 1000000 in
theorem shQ_350 : ∀ k, k < 50 → shQc (350 + k) = true := by decide +kernel
set_option maxRecDepth 1000000 in
theorem shQ_400 : ∀ k, k < 50 → shQc (400 + k) = true := by decide +kernel
set_option maxRecDepth 1000000 in
theorem shQ_450 : ∀ k, k < 50 → shQc (450 + k) = true := by decide +kernel
set_option maxRecDepth 1000000 in
theorem shQ_500 : ∀ k, k < 50 → shQc (500 + k) = true := by decide +kernel
set_option maxRecDepth 1000000 in
theorem shQ_550 : ∀ k, k < 50 → shQc (550 + k) = true := by decide +kernel
set_option maxRecDepth 1000000 in
theorem shQ_600 : ∀ k, k < 50 → shQc (600 + k) = true := by decide +kernel
set_option maxRecDepth 1000000 in
theorem shQ_650 : ∀ k, k < 50 → shQc (650 + k) = true := by decide +kernel
set_option maxRecDepth 1000000 in
theorem shQ_700 : ∀ k, k < 50 → shQc (700 + k) = true := by decide +kernel
set_option maxRecDepth 1000000 in
theorem shQ_750 : ∀ k, k < 38 → shQc (750 + k) = true := by decide +kernel
theorem shQ_all (k : Nat) (hk : k < 788) (h0 : k ≠ 0) : shQE k = SHp k := by
  by_cases c0 : k < 50
  · have h := shQ_0 (k - 0) (by omega)
    rw [show 0 + (k - 0) = k by omega] at h
    exact shQc_ok h0 h
  by_cases c50 : k < 100
  · have h := shQ_50 (k - 50) (by omega)
    rw [show 50 + (k - 50) = k by omega] at h
    exact shQc_ok h0 h
  by_cases c100 : k < 150
  · have h := shQ_100 (k - 100) (by omega)
    rw [show 100 + (k - 100) = k by omega] at h
    exact shQc_ok h0 h
  by_cases c150 : k < 200
  · have h := shQ_150 (k - 150) (by omega)
    rw [show 150 + (k - 150) = k by omega] at h
    exact shQc_ok h0 h
  by_cases c200 : k < 250
  · have h := shQ_200 (k - 200) (by omega)
    rw [show 200 + (k - 200) = k by omega] at h
    exact shQc_ok h0 h
  by_cases c250 : k < 300
  · have h := shQ_250 (k - 250) (by omega)
    rw [show 250 + (k - 250) = k by omega] at h
    exact shQc_ok h0 h
  by_cases c300 : k < 350
  · have h := shQ_300 (k - 300) (by omega)
    rw [show 300 + (k - 300) = k by omega] at h
    exact shQc_ok h0 h
  by_cases c350 : k < 400
  · have h := shQ_350 (k - 350) (by omega)
    rw [show 350 + (k - 350) = k by omega] at h
    exact shQc_ok h0 h
  by_cases c400 : k < 450
  · have h := shQ_400 (k - 400) (by omega)
    rw [show 400 + (k - 400) = k by omega] at h
    exact shQc_ok h0 h
  by_cases c450 : k < 500
  · have h := shQ_450 (k - 450) (by omega)
    rw [show 450 + (k - 450) = k by omega] at h
    exact shQc_ok h0 h
  by_cases c500 : k < 550
  · have h := shQ_500 (k - 500) (by omega)
    rw [show 500 + (k - 500) = k by omega] at h
    exact shQc_ok h0 h
  by_cases c550 : k < 600
  · have h := shQ_550 (k - 550) (by omega)
    rw [show 550 + (k - 550) = k by omega] at h
    exact shQc_ok h0 h
  by_cases c600 : k < 650
  · have h := shQ_600 (k - 600) (by omega)
    rw [show 600 + (k - 600) = k by omega] at h
    exact shQc_ok h0 h
  by_cases c650 : k < 700
  · have h := shQ_650 (k - 650) (by omega)
    rw [show 650 + (k - 650) = k by omega] at h
    exact shQc_ok h0 h
  by_cases c700 : k < 750
  · have h := shQ_700 (k - 700) (by omega)
    rw [show 700 + (k - 700) = k by omega] at h
    exact shQc_ok h0 h
  have h := shQ_750 (k - 750) (by omega)
  rw [show 750 + (k - 750) = k by omega] at h
  exact shQc_ok h0 h
theorem mzS_o {k : Nat} (h : k ≠ 0) : mzS k = mzE k := funext fun j => by
  unfold mzS
  rw [u2_c h, u2_c h]
theorem mzS_0 (j : Nat) : 0 ≤ mzS 0 j ∧ mzS 0 j ≤ 23 := by
  unfold mzS mzE mzQ
  simp only [u2_if]
  split
  · omega
  · split
    · omega
    · split
      · omega
      · split <;> omega
theorem ax_P_conv {D : va_G} {cA : Nat → ClassId} {ad : Nat → Nat} {bs : Nat} {H : Heap} (h : ax_P D cA ad bs 788 shQE mzE H) : ax_P D cA ad bs 788 SHp mzS H := by
  have he0 : shQE 0 = .inl (11, [(2, 1), (2, 2), (2, 4), (2, 23), (2, 42), (0, 0), (2, 173), (2, 186), (2, 199), (0, 0), (2, 212), (2, 216), (2, 220), (2, 742), (2, 743), (2, 745), (2, 755), (2, 757), (1, 0)]) := by
    unfold shQE
    rw [shU_n (by omega)]
    unfold shQD
    rw [mk_X12_oth _ _ _ _ (by omega) (by omega)]
    unfold shQC
    rw [shU_n (by omega)]
    unfold shQB
    exact mk_X11_self 0 1 shQA
  have he : ax_ws cA ad 788 shQE mzE = ax_ws cA ad 788 SHp mzS := by
    refine List.map_congr_left (fun k hk => ?_)
    have hk2 : k < 788 := List.mem_range.mp hk
    by_cases h0 : k = 0
    · subst h0
      rw [he0, s_0.2]
      rfl
    · rw [shQ_all k hk2 h0, mzS_o h0]
  refine ⟨by rw [← he]; exact h.1, by rw [← he]; exact h.2.1, fun k hk => ?_⟩
  by_cases h0 : k = 0
  · subst h0
    rw [s_0.2]
    intro j hj
    have h9 := mzS_0 j
    exact ⟨fun _ => by unfold Z_I; omega, fun _ => by unfold Z_L; omega⟩
  · rw [← shQ_all k hk h0, mzS_o h0]
    exact h.2.2 k hk
theorem mzS_GV : GV mzS 0 := by
  refine GV.begin ?_ ?_ ?_ ?_
  · unfold mzS; rw [u2_i (by omega), u2_e]
  · unfold mzS; rw [u2_e]
  · unfold mzS mzE; rw [u2_c (by omega), u2_c (by omega), u2_e]
  · intro c j h1 h2 h3
    unfold mzS mzE mzQ
    simp only [u2_if]
    rw [if_neg (by omega), if_neg (by omega), if_neg (by omega), if_neg (by omega)]
/-- the law's end -/
theorem LW_last {p : Program} {l : Launch} {e : Env} {s : State} {m : MethodId} {below : List Frame} {meth : Method} {c : Code} {D : va_G} {cA : Nat → ClassId} {sa ad : Nat → Nat} {b kc ks : Nat} {lv : List (Nat × Value)} {σ : Nat → Nat → Int} (X : AX p s m #[Value.ref b] meth c D cA sa s.heap.size cL_law 7 RLw) (hr : meth.sig.returnType = ret) (hc : kc ≤ 601024) (hs : ks ≤ 7293034) : AW p l e room_1 s m #[Value.ref b] below meth c D cA ad s.heap.size 788 SHp kc ks (lw_Z below #[Value.ref b] s) 7 1450 lv [] σ := by
  refine aw_iconst X dL_law_1450 ?_
  rw [show z_i 1 = Value.int 1 from congrArg Value.int (by decide)]
  exact fun H locs hP hS ls hl => va_forget (fun q hq => hS.2.2 q hq) (W.widen (k := 601024) (n := 7293034) hc hs (lw_ret X.1 X.2.1 hr X.2.2.2.2.2.2 dL_law_1451))
set_option maxHeartbeats 4000000 in
/-- YOUR PART: from the entry, for every script of at most 3072 ints, the law comes to its end with true ('hflags': the launch's flags, for a law that throws: no stack traces) -/
theorem whole_start {p : Program} {e : Env} {s : State} {m : MethodId} {below : List Frame} {meth : Method} {c : Code} (l : Launch) (hflags : l.flags = flags0) {b L : Nat} {xs : Nat → Int32} (hL : L ≤ 3072) (C0 : lw_At p s m meth c b L xs) : W p l e room_1 s m #[Value.ref b] below meth c s.heap [] 0 0 (lw_Z below #[Value.ref b] s) (entryFrame m ([Value.ref b] : List Value).toArray 7) := by
  obtain ⟨hx, hb, hr, hml, hown, hts, hX, hbl, hlocks, hgv⟩ := C0
  obtain ⟨D, cA, sa, hF⟩ := g_F hts hgv
  have hO := g_O hts
  have hZ := g_Z hts hgv
  have hfl : l.stackTraces = false := by
    unfold Launch.stackTraces
    rw [hflags]
    decide +kernel
  have hbA : ¬ ax_A s.heap.size b := gA b hbl
  have X : AX p s m #[Value.ref b] meth c D cA sa s.heap.size cL_law 7 RLw := ⟨hx, hb, hml, hown, fun w hw => hts w (List.mem_filter.mp hw).1, hF, hlocks⟩
  have K : AW p l e room_1 s m #[Value.ref b] below meth c D cA (fun _ => 0) s.heap.size 0 shQ0 0 0 (lw_Z below #[Value.ref b] s) 7 0 [(0, .ref b)] [] mzQ := by
    refine aw_newZ X (ci := 11) (N := 19) (ty := tyX11) (f0 := [(4, 0), (4, 0), (4, 0), (4, 0), (4, 0), (0, 0), (4, 0), (4, 0), (4, 0), (0, 0), (4, 0), (4, 0), (4, 0), (4, 0), (4, 0), (4, 0), (4, 0), (4, 0), (1, 0)]) rfl inX11 tyX11_ok ⟨(ax_at 155 (by decide +kernel) rfl), (ax_at 156 (by decide +kernel) rfl), (ax_at 132 (by decide +kernel) rfl)⟩ z0_X11 (Nat.le_refl _) (fun j => rfl) (fun k hk => absurd hk (Nat.not_lt_zero k)) ⟨Nat.le_of_ble_eq_true rfl, Nat.le_of_ble_eq_true rfl⟩ dL_law_0 (fun ad1 h1 cl1 => ?_)
    refine aw_dup X dL_law_3 rfl ?_
    refine aw_callI X [.ref (ad1 0)] ⟨(ax_at 157 (by decide +kernel) rfl), (ax_at 158 (by decide +kernel) rfl), (ax_at 132 (by decide +kernel) rfl), (ax_at 159 (by decide +kernel) rfl)⟩ (by decide +kernel) (Nat.le_refl _) hO (K_X11 l D cA sa ad1 s.heap.size 0 1 shQA mzQ (by omega) shU_s cl1 (fun i hi j => rfl)) ⟨Nat.le_of_ble_eq_true rfl, Nat.le_of_ble_eq_true rfl, Nat.le_of_ble_eq_true rfl, Nat.le_of_ble_eq_true rfl⟩ (Nat.le_of_ble_eq_true rfl) dL_law_4 (fun ad2 cl2 h2 => ?_)
    rw [show ad1 0 = ad2 0 from (h2 0 (by omega)).symm]
    refine aw_astore_n X [(1, .ref (ad2 0)), (0, .ref b)] dL_law_7 rfl (by decide) rfl ?_
    refine aw_newZ X (ci := 12) (N := 51) (ty := tyX12) (f0 := [(0, 0), (4, 0), (0, 0), (0, 0), (0, 0), (0, 0), (1, 0), (4, 0), (4, 0), (4, 0), (4, 0), (4, 0), (4, 0), (4, 0), (4, 0), (4, 0), (4, 0), (4, 0), (4, 0), (4, 0), (0, 0), (0, 0), (0, 0), (0, 0), (0, 0), (0, 0), (0, 0), (4, 0), (4, 0), (4, 0), (0, 0), (4, 0), (4, 0), (4, 0), (4, 0), (0, 0), (0, 0), (0, 0), (0, 0), (0, 0), (4, 0), (1, 0), (0, 0), (1, 0), (4, 0), (4, 0), (4, 0), (0, 0), (4, 0), (4, 0), (4, 0)]) rfl inX12 tyX12_ok ⟨(ax_at 1495 (by decide +kernel) rfl), (ax_at 1496 (by decide +kernel) rfl), (ax_at 144 (by decide +kernel) rfl)⟩ z0_X12 (Nat.le_refl _) (fun j => u2_c (by omega)) cl2 ⟨Nat.le_of_ble_eq_true rfl, Nat.le_of_ble_eq_true rfl⟩ dL_law_8 (fun ad3 h3 cl3 => ?_)
    rw [show ad2 0 = ad3 0 from (h3 0 (by omega)).symm]
    refine aw_dup X dL_law_11 rfl ?_
    refine aw_callI X [.ref (ad3 758)] ⟨(ax_at 1497 (by decide +kernel) rfl), (ax_at 1498 (by decide +kernel) rfl), (ax_at 144 (by decide +kernel) rfl), (ax_at 1499 (by decide +kernel) rfl)⟩ (by decide +kernel) (Nat.le_refl _) hO (K_X12 l D cA sa ad3 s.heap.size 758 759 shQC (u2 mzQ 2 4 (-1)) (by omega) shU_s cl3 (fun i hi j => u2_c (by omega))) ⟨Nat.le_of_ble_eq_true rfl, Nat.le_of_ble_eq_true rfl, Nat.le_of_ble_eq_true rfl, Nat.le_of_ble_eq_true rfl⟩ (Nat.le_of_ble_eq_true rfl) dL_law_12 (fun ad4 cl4 h4 => ?_)
    rw [show ad3 0 = ad4 0 from (h4 0 (by omega)).symm, show ad3 758 = ad4 758 from (h4 758 (by omega)).symm]
    refine aw_astore_n X [(2, .ref (ad4 758)), (1, .ref (ad4 0)), (0, .ref b)] dL_law_15 rfl (by decide) rfl ?_
    refine aw_iconst X dL_law_16 ?_
    refine aw_newa1Z X (len := 1) rfl (by decide) (ax_at 302 (by decide +kernel) rfl) (Nat.le_refl _) (fun j => (u2_c (by omega)).trans (u2_c (by omega))) cl4 ⟨Nat.le_of_ble_eq_true rfl, Nat.le_of_ble_eq_true rfl⟩ dL_law_17 (fun ad5 h5 cl5 => ?_)
    rw [show ad4 0 = ad5 0 from (h5 0 (by omega)).symm, show ad4 758 = ad5 758 from (h5 758 (by omega)).symm]
    refine aw_astore_n X [(3, .ref (ad5 787)), (2, .ref (ad5 758)), (1, .ref (ad5 0)), (0, .ref b)] dL_law_19 rfl (by decide) rfl ?_
    refine aw_iconst X dL_law_20 ?_
    refine aw_istore X [(4, z_i 0), (3, .ref (ad5 787)), (2, .ref (ad5 758)), (1, .ref (ad5 0)), (0, .ref b)] dL_law_21 (by decide) rfl ?_
    refine aw_sub [4, 3, 2, 1, 0] (lv' := lw_lv b ad5 0) rfl ?_
    have J : AW p l e room_1 s m #[Value.ref b] below meth c D cA ad5 s.heap.size 788 SHp 788 24626 (lw_Z below #[Value.ref b] s) 7 23 (lw_lv b ad5 0) [] mzS := by
      have hrc : room_1.cells = 601024 := rfl
      have hrs : room_1.slots = 7293034 := rfl
      refine LW_loop (C0 := 788) (S0 := 24626) (C := 1) (S := 6) X hX hbl hbA hL (fun i kc ks σ hi hc hs => LW_last X hr (by omega) (by omega)) (fun i kc ks σ bb hi hG h0 hbb hc hs KK n hn => ?_) 600 0 788 24626 mzS 0 (by omega) (by omega) mzS_GV (by omega) (by omega) (by omega) (by omega)
      exact LW_turn X hX hbl hbA hi hL ⟨by omega, by omega⟩ hG h0 hbb (fun σ2 bb' g1 g2 g3 => KK kc ks σ2 bb' g1 g2 g3 (by omega) (by omega)) (LW_cluster X hfl hZ hX hbl hbA hi hL ⟨by omega, by omega⟩ hG (fun σ2 g => KK (kc + 1) (ks + 6) σ2 bb g h0 (by omega) (by omega) (by omega))) n hn
    exact fun H locs hP hS ls hl => J H locs (ax_P_conv hP) hS ls hl
  rw [lg_entry_eq]
  exact K s.heap [] ⟨fun k q h => by simp [ax_ws] at h, ⟨fun i j p q h => by simp [ax_ws] at h, fun k q h => by simp [ax_ws] at h⟩, fun k hk => absurd hk (Nat.not_lt_zero k)⟩ va_S.rf _ (lv_entry _ (Nat.le_of_ble_eq_true rfl))
