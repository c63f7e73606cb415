-- a chip told by the text: both sides begin anew
section S_T0
variable {σ K s : Nat → Nat → Int} {w : Nat → Int} {b : Int}
theorem BT_0 {n : Int} {f : Nat → Int} (h : ∀ i : Int, 0 ≤ i → i < n → f i.toNat = 0) : BT 0 n f := ⟨by omega, Int.pow_pos (by omega), fun i h0 h1 => by rw [h i h0 h1, Int.zero_ediv]; rfl⟩
theorem RS_new (hK : WK K) (h0 : ∀ j, j ≤ 6 → s 173 j = 0) (h1 : ∀ j, j < 4 → s (173 + 1) j = 0 ∧ s (173 + 2) j = 0 ∧ s (173 + 3) j = 0 ∧ s (173 + 4) j = 0) (h2 : ∀ j, j < 3 → s (173 + 5) j = 0 ∧ s (173 + 6) j = 0 ∧ s (173 + 7) j = 0) (h3 : ∀ j, j < 6 → s (173 + 8) j = 0) (hw : ∀ j, j < 256 → w j = 0) : RS s 173 (KL K 0) w (-1) 0 := by
  have k := hK.1
  refine ⟨⟨?_, ?_, ?_, ?_, ?_⟩, ?_, ?_, fun t q0 q1 => ?_, fun c q0 q1 => ?_, fun v q0 q1 => ?_, fun i q0 q1 => ?_, fun q => absurd rfl q⟩
  · rw [h0 0 (by omega), hw 41 (by omega)]
  · rw [h0 1 (by omega), hw 42 (by omega)]
  · rw [h0 2 (by omega), hw 43 (by omega)]
  · rw [h0 4 (by omega), hw 44 (by omega)]; rfl
  · rw [h0 3 (by omega)]; rfl
  · rw [h0 5 (by omega)]
    have q1 : (KL K 0) 0 1 = K 0 1 := rfl
    rw [q1]
    exact BT_0 (fun i i0 i1 => hw _ (by omega))
  · rw [h0 6 (by omega)]
    have q1 : (KL K 0) 0 2 = K 0 2 := rfl
    rw [q1]
    exact BT_0 (fun i i0 i1 => hw _ (by omega))
  · have q2 : (KL K 0) 0 1 = K 0 1 := rfl
    rw [q2] at q1
    obtain ⟨e1, e2, e3, e4⟩ := h1 t.toNat (by omega)
    rw [e1, e2, e3, e4, hw _ (by omega), hw _ (by omega), hw _ (by omega), hw _ (by omega)]
    exact ⟨rfl, rfl, rfl, rfl⟩
  · have q2 : (KL K 0) 0 0 = K 0 0 := rfl
    rw [q2] at q1
    obtain ⟨e1, e2, e3⟩ := h2 c.toNat (by omega)
    rw [e1, e2, e3, hw _ (by omega), hw _ (by omega), hw _ (by omega)]
    exact ⟨rfl, rfl, rfl⟩
  · have q2 : (KL K 0) 0 2 = K 0 2 := rfl
    rw [q2] at q1
    rw [h3 v.toNat (by omega), hw _ (by omega)]
  · rw [hw 44 (by omega)] at q1
    omega
theorem WS_new (hK : WK K) (hw : ∀ j, j < 256 → w j = 0) : WS K w ∧ WL K w := by
  have k := hK.1
  refine ⟨⟨fun c q0 q1 => ?_, fun v q0 q1 => ?_, fun t q0 q1 => ?_, fun t q0 q1 => hw _ (by omega), ?_, fun i q0 q1 => ?_⟩, fun t q0 q1 => ?_⟩
  · have := hK.2.2.1 c q0 q1
    rw [hw _ (by omega), hw _ (by omega)]
    omega
  · rw [hw _ (by omega)]
    omega
  · rw [hw _ (by omega), hw _ (by omega), hw _ (by omega), hw _ (by omega), hw _ (by omega)]
    omega
  · rw [hw _ (by omega), hw _ (by omega)]
    omega
  · rw [hw 44 (by omega)] at q1
    omega
  · rw [hw _ (by omega), hw _ (by omega)]
    omega
/-- a chip just told, both sides -/
theorem PV_new (hK : WK K) (hc : (s 0 2).toNat ∈ ax_iX1) (hC : RC s (s 0 2).toNat K) (hM : RM s K) (h0 : ∀ j, j ≤ 6 → s 173 j = 0) (h1 : ∀ j, j < 4 → s (173 + 1) j = 0 ∧ s (173 + 2) j = 0 ∧ s (173 + 3) j = 0 ∧ s (173 + 4) j = 0) (h2 : ∀ j, j < 3 → s (173 + 5) j = 0 ∧ s (173 + 6) j = 0 ∧ s (173 + 7) j = 0) (h3 : ∀ j, j < 6 → s (173 + 8) j = 0) (hw : ∀ j, j < 256 → s 776 j = 0) (e1 : s 220 2 = 0) (e2 : s 0 9 = 0) (e3 : 0 ≤ s 220 1 ∧ s 220 1 < 40) (e4 : 0 ≤ s 758 35 ∧ s 758 35 < 40) (e5 : s 758 36 = 0) (e6 : s 758 37 = 0) (e7 : s 758 38 = -1) (e8 : 0 ≤ s 758 39) (e9 : ∀ i : Nat, i < 4 → s 757 i = s 768 i) : PV s K 0 0 0 (fun _ _ => 0) 0 := by
  refine ⟨⟨hc, hC, RS_new hK h0 h1 h2 h3 hw, ⟨by omega, by rw [hw 75 (by omega)]; rfl, fun i f q0 q1 _ _ => ?_⟩, ⟨e1, by omega, by omega, e3, fun j q0 q1 => ?_⟩, e2, fun q => absurd rfl q⟩, ⟨hM, ⟨e5, by omega, by omega, e4, fun j i q0 q1 => ?_⟩, e6, e7, e8⟩, ⟨(WS_new hK hw).1, (WS_new hK hw).2, fun j q0 q1 => ?_, fun q => absurd rfl q⟩, e9⟩
  · rw [hw 75 (by omega)] at q1
    omega
  all_goals omega
theorem GX.swap (h : GX σ) (h2 : s 0 2 = (((σ 0 3).toNat : Nat) : Int)) (h3 : s 0 3 = (((σ 0 2).toNat : Nat) : Int)) : GX s := by
  unfold GX at *
  omega
end S_T0
