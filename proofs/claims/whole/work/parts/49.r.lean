-- SpeedDeskModel.cost(II)I
section S_X12_cost
variable {p : Program} {l : Launch} {e : Env} {s : State} {m : MethodId} {args : Array Value} {below : List Frame} {meth : Method} {c : Code} {D : va_G} {cA : Nat → ClassId} {sa ad : Nat → Nat} {bs : Nat} {q : Int}

end S_X12_cost
set_option maxHeartbeats 4000000 in
set_option maxRecDepth 100000 in
theorem C_X12_cost (l : Launch) (D : va_G) (cA : Nat → ClassId) (sa ad : Nat → Nat) (bs : Nat) (v1 : Int) (c_v1 : Z_I v1) (v2 : Int) (c_v2 : Z_I v2) (σ : Nat → Nat → Int) (q : Int) (hf : f_X12_cost v1 v2 σ = some q) : AM l D cA sa ad bs 788 SHp yX12_cost cX12_cost 3 (some .int) 0 [.ref (ad 758), z_i v1, z_i v2] σ (some (z_i q)) (Z_I q) σ := by
  refine am_of (by decide +kernel) (Nat.le_of_ble_eq_true rfl) (fun p e s m args below meth c X hr => ?_)
  refine aw_lv (lv' := [(0, .ref (ad 758)), (1, z_i v1), (2, z_i v2)]) rfl ?_
  unfold f_X12_cost at hf
  refine aw_aload_n X 0 dX12_cost_0 rfl rfl ?_
  refine aw_getR X s_758 fX12_29 rfl dX12_cost_1 ?_
  refine aw_iconst X dX12_cost_4 ?_
  refine aw_iconst X dX12_cost_5 ?_
  refine aw_iload_n X 1 dX12_cost_6 rfl rfl ?_
  refine aw_imul X dX12_cost_7 ?_
  refine aw_iload_n X 2 dX12_cost_8 rfl rfl ?_
  refine aw_iadd X dX12_cost_9 ?_
  refine aw_imul X dX12_cost_10 ?_
  refine aw_iconst X dX12_cost_11 ?_
  refine aw_iadd X dX12_cost_12 ?_
  obtain ⟨g1, hf⟩ := z_gd hf
  refine aw_iald X (j := (z_w ((z_w (2 * (z_w ((z_w (5 * v1)) + v2)))) + 1)).toNat) s_765 (z_w_in _) g1.1 g1.2 rfl dX12_cost_13 (fun c2 => ?_)
  obtain rfl := Option.some.inj hf
  exact aw_iret X c2 hr rfl dX12_cost_14
-- SpeedDeskModel.firstCore(I)I
section S_X12_firstCore
variable {p : Program} {l : Launch} {e : Env} {s : State} {m : MethodId} {args : Array Value} {below : List Frame} {meth : Method} {c : Code} {D : va_G} {cA : Nat → ClassId} {sa ad : Nat → Nat} {bs : Nat} {q : Int}
set_option maxHeartbeats 4000000 in
set_option maxRecDepth 100000 in
theorem A_X12_firstCore_4 (X : AX p s m args meth c D cA sa bs cX12_firstCore 4 RX12) (hr : meth.sig.returnType = (some .int)) (σ : Nat → Nat → Int) : ∀ (k : Nat) (v1 : Int) (c_v1 : Z_I v1) (v2 : Int) (c_v2 : Z_I v2) (v3 : Int) (c_v3 : Z_I v3), f_X12_firstCore_4 k v1 v2 v3 σ = some q → AW p l e (ax_rm 0 0 0) s m args below meth c D cA ad bs 788 SHp 0 0 (ax_MQ below args s D cA ad bs 788 SHp 0 0 (some (z_i q)) (Z_I q) σ) 4 4 [(0, .ref (ad 758)), (1, z_i v1), (2, z_i v2), (3, z_i v3)] [] σ := by
  intro k
  induction k with
  | zero =>
    intro v1 c_v1 v2 c_v2 v3 c_v3 hf
    unfold f_X12_firstCore_4 at hf
    cases hf
  | succ k ih =>
    intro v1 c_v1 v2 c_v2 v3 c_v3 hf
    unfold f_X12_firstCore_4 at hf
    refine aw_iload_n X 3 dX12_firstCore_4 rfl rfl ?_
    refine aw_iload_n X 1 dX12_firstCore_5 rfl rfl ?_
    refine aw_icmp_ge X (tgt := 26) c_v3 c_v1 dX12_firstCore_6 (by decide) (fun h1 => ?_) (fun h1 => ?_)
    · rw [if_pos h1] at hf
      refine aw_iload_n X 2 dX12_firstCore_26 rfl rfl ?_
      obtain rfl := Option.some.inj hf
      exact aw_iret X c_v2 hr rfl dX12_firstCore_27
    · rw [if_neg h1] at hf
      refine aw_iload_n X 2 dX12_firstCore_9 rfl rfl ?_
      refine aw_aload_n X 0 dX12_firstCore_10 rfl rfl ?_
      refine aw_getR X s_758 fX12_23 rfl dX12_firstCore_11 ?_
      refine aw_iconst X dX12_firstCore_14 ?_
      refine aw_iload_n X 3 dX12_firstCore_15 rfl rfl ?_
      refine aw_imul X dX12_firstCore_16 ?_
      obtain ⟨g2, hf⟩ := z_gd hf
      refine aw_iald X (j := (z_w (4 * v3)).toNat) s_763 (z_w_in _) g2.1 g2.2 rfl dX12_firstCore_17 (fun c3 => ?_)
      refine aw_iadd X dX12_firstCore_18 ?_
      refine aw_istore_n X [(2, z_i (z_w (v2 + (σ 763 (z_w (4 * v3)).toNat)))), (0, .ref (ad 758)), (1, z_i v1), (3, z_i v3)] dX12_firstCore_19 rfl (by decide) rfl ?_
      refine aw_iinc X 3 [(3, z_i (z_w (v3 + 1))), (2, z_i (z_w (v2 + (σ 763 (z_w (4 * v3)).toNat)))), (0, .ref (ad 758)), (1, z_i v1)] dX12_firstCore_20 rfl (by decide) rfl ?_
      refine aw_goto X (tgt := 4) dX12_firstCore_23 (by decide) ?_
      refine aw_sub [2, 3, 1, 0] rfl ?_
      exact ih v1 c_v1 (z_w (v2 + (σ 763 (z_w (4 * v3)).toNat))) (z_w_in _) (z_w (v3 + 1)) (z_w_in _) hf
end S_X12_firstCore
set_option maxHeartbeats 4000000 in
set_option maxRecDepth 100000 in
theorem C_X12_firstCore (l : Launch) (D : va_G) (cA : Nat → ClassId) (sa ad : Nat → Nat) (bs : Nat) (v1 : Int) (c_v1 : Z_I v1) (σ : Nat → Nat → Int) (q : Int) (hf : f_X12_firstCore v1 σ = some q) : AM l D cA sa ad bs 788 SHp yX12_firstCore cX12_firstCore 4 (some .int) 0 [.ref (ad 758), z_i v1] σ (some (z_i q)) (Z_I q) σ := by
  refine am_of (by decide +kernel) (Nat.le_of_ble_eq_true rfl) (fun p e s m args below meth c X hr => ?_)
  refine aw_lv (lv' := [(0, .ref (ad 758)), (1, z_i v1)]) rfl ?_
  unfold f_X12_firstCore at hf
  refine aw_iconst X dX12_firstCore_0 ?_
  refine aw_istore_n X [(2, z_i 0), (0, .ref (ad 758)), (1, z_i v1)] dX12_firstCore_1 rfl (by decide) rfl ?_
  refine aw_iconst X dX12_firstCore_2 ?_
  refine aw_istore_n X [(3, z_i 0), (2, z_i 0), (0, .ref (ad 758)), (1, z_i v1)] dX12_firstCore_3 rfl (by decide) rfl ?_
  refine aw_sub [2, 3, 1, 0] rfl ?_
  exact A_X12_firstCore_4 X hr σ 100000 v1 c_v1 0 (z_lit (x := 0) (by decide)) 0 (z_lit (x := 0) (by decide)) hf
-- SpeedDeskModel.clusterOf(I)I
section S_X12_clusterOf
variable {p : Program} {l : Launch} {e : Env} {s : State} {m : MethodId} {args : Array Value} {below : List Frame} {meth : Method} {c : Code} {D : va_G} {cA : Nat → ClassId} {sa ad : Nat → Nat} {bs : Nat} {q : Int}
set_option maxHeartbeats 4000000 in
set_option maxRecDepth 100000 in
theorem A_X12_clusterOf_2 (X : AX p s m args meth c D cA sa bs cX12_clusterOf 3 RX12) (hr : meth.sig.returnType = (some .int)) (σ : Nat → Nat → Int) : ∀ (k : Nat) (v1 : Int) (c_v1 : Z_I v1) (v2 : Int) (c_v2 : Z_I v2), f_X12_clusterOf_2 k v1 v2 σ = some q → AW p l e (ax_rm 1 0 0) s m args below meth c D cA ad bs 788 SHp 0 0 (ax_MQ below args s D cA ad bs 788 SHp 0 0 (some (z_i q)) (Z_I q) σ) 3 2 [(0, .ref (ad 758)), (1, z_i v1), (2, z_i v2)] [] σ := by
  intro k
  induction k with
  | zero =>
    intro v1 c_v1 v2 c_v2 hf
    unfold f_X12_clusterOf_2 at hf
    cases hf
  | succ k ih =>
    intro v1 c_v1 v2 c_v2 hf
    unfold f_X12_clusterOf_2 at hf
    refine aw_iload_n X 1 dX12_clusterOf_2 rfl rfl ?_
    refine aw_aload_n X 0 dX12_clusterOf_3 rfl rfl ?_
    refine aw_iload_n X 2 dX12_clusterOf_4 rfl rfl ?_
    obtain ⟨q1, e2, hf⟩ := z_bd hf
    refine aw_callV X [z_i v2] [z_i v1] [z_i q1, z_i v1] cX12_267 s_758 ciX12 (C_X12_firstCore l D cA sa ad bs v2 c_v2 σ q1 e2) rfl ⟨(Nat.le_of_ble_eq_true rfl), (Nat.le_of_ble_eq_true rfl), (Nat.le_of_ble_eq_true rfl), (Nat.le_of_ble_eq_true rfl)⟩ rfl (Nat.le_of_ble_eq_true rfl) rfl dX12_clusterOf_5 (fun p3 => ?_)
    refine aw_aload_n X 0 dX12_clusterOf_8 rfl rfl ?_
    refine aw_getR X s_758 fX12_23 rfl dX12_clusterOf_9 ?_
    refine aw_iconst X dX12_clusterOf_12 ?_
    refine aw_iload_n X 2 dX12_clusterOf_13 rfl rfl ?_
    refine aw_imul X dX12_clusterOf_14 ?_
    obtain ⟨g4, hf⟩ := z_gd hf
    refine aw_iald X (j := (z_w (4 * v2)).toNat) s_763 (z_w_in _) g4.1 g4.2 rfl dX12_clusterOf_15 (fun c5 => ?_)
    refine aw_iadd X dX12_clusterOf_16 ?_
    refine aw_icmp_lt X (tgt := 26) c_v1 (z_w_in _) dX12_clusterOf_17 (by decide) (fun h6 => ?_) (fun h6 => ?_)
    · rw [if_pos h6] at hf
      refine aw_iload_n X 2 dX12_clusterOf_26 rfl rfl ?_
      obtain rfl := Option.some.inj hf
      exact aw_iret X c_v2 hr rfl dX12_clusterOf_27
    · rw [if_neg h6] at hf
      refine aw_iinc X 2 [(2, z_i (z_w (v2 + 1))), (0, .ref (ad 758)), (1, z_i v1)] dX12_clusterOf_20 rfl (by decide) rfl ?_
      refine aw_goto X (tgt := 2) dX12_clusterOf_23 (by decide) ?_
      refine aw_sub [1, 2, 0] rfl ?_
      exact ih v1 c_v1 (z_w (v2 + 1)) (z_w_in _) hf
end S_X12_clusterOf
set_option maxHeartbeats 4000000 in
set_option maxRecDepth 100000 in
theorem C_X12_clusterOf (l : Launch) (D : va_G) (cA : Nat → ClassId) (sa ad : Nat → Nat) (bs : Nat) (v1 : Int) (c_v1 : Z_I v1) (σ : Nat → Nat → Int) (q : Int) (hf : f_X12_clusterOf v1 σ = some q) : AM l D cA sa ad bs 788 SHp yX12_clusterOf cX12_clusterOf 3 (some .int) 1 [.ref (ad 758), z_i v1] σ (some (z_i q)) (Z_I q) σ := by
  refine am_of (by decide +kernel) (Nat.le_of_ble_eq_true rfl) (fun p e s m args below meth c X hr => ?_)
  refine aw_lv (lv' := [(0, .ref (ad 758)), (1, z_i v1)]) rfl ?_
  unfold f_X12_clusterOf at hf
  refine aw_iconst X dX12_clusterOf_0 ?_
  refine aw_istore_n X [(2, z_i 0), (0, .ref (ad 758)), (1, z_i v1)] dX12_clusterOf_1 rfl (by decide) rfl ?_
  refine aw_sub [1, 2, 0] rfl ?_
  exact A_X12_clusterOf_2 X hr σ 100000 v1 c_v1 0 (z_lit (x := 0) (by decide)) hf
-- SpeedDeskModel.pointFor(II)I
section S_X12_pointFor
variable {p : Program} {l : Launch} {e : Env} {s : State} {m : MethodId} {args : Array Value} {below : List Frame} {meth : Method} {c : Code} {D : va_G} {cA : Nat → ClassId} {sa ad : Nat → Nat} {bs : Nat} {q : Int}
set_option maxHeartbeats 4000000 in
set_option maxRecDepth 100000 in
theorem A_X12_pointFor_2 (X : AX p s m args meth c D cA sa bs cX12_pointFor 4 RX12) (hr : meth.sig.returnType = (some .int)) (σ : Nat → Nat → Int) : ∀ (k : Nat) (v1 : Int) (c_v1 : Z_I v1) (v2 : Int) (c_v2 : Z_I v2) (v3 : Int) (c_v3 : Z_I v3), f_X12_pointFor_2 k v1 v2 v3 σ = some q → AW p l e (ax_rm 1 0 0) s m args below meth c D cA ad bs 788 SHp 0 0 (ax_MQ below args s D cA ad bs 788 SHp 0 0 (some (z_i q)) (Z_I q) σ) 4 2 [(0, .ref (ad 758)), (1, z_i v1), (2, z_i v2), (3, z_i v3)] [] σ := by
  intro k
  induction k with
  | zero =>
    intro v1 c_v1 v2 c_v2 v3 c_v3 hf
    unfold f_X12_pointFor_2 at hf
    cases hf
  | succ k ih =>
    intro v1 c_v1 v2 c_v2 v3 c_v3 hf
    unfold f_X12_pointFor_2 at hf
    refine aw_iload_n X 3 dX12_pointFor_2 rfl rfl ?_
    refine aw_aload_n X 0 dX12_pointFor_3 rfl rfl ?_
    refine aw_iload_n X 1 dX12_pointFor_4 rfl rfl ?_
    obtain ⟨q1, e2, hf⟩ := z_bd hf
    refine aw_callV X [z_i v1] [z_i v3] [z_i q1, z_i v3] cX12_246 s_758 ciX12 (C_X12_lastPoint l D cA sa ad bs v1 c_v1 σ q1 e2) rfl ⟨(Nat.le_of_ble_eq_true rfl), (Nat.le_of_ble_eq_true rfl), (Nat.le_of_ble_eq_true rfl), (Nat.le_of_ble_eq_true rfl)⟩ rfl (Nat.le_of_ble_eq_true rfl) rfl dX12_pointFor_5 (fun p3 => ?_)
    refine aw_icmp_gt X (tgt := 27) c_v3 p3 dX12_pointFor_8 (by decide) (fun h4 => ?_) (fun h4 => ?_)
    · rw [if_pos h4] at hf
      refine aw_iload_n X 3 dX12_pointFor_27 rfl rfl ?_
      obtain rfl := Option.some.inj hf
      exact aw_iret X c_v3 hr rfl dX12_pointFor_28
    · rw [if_neg h4] at hf
      refine aw_aload_n X 0 dX12_pointFor_11 rfl rfl ?_
      refine aw_iload_n X 1 dX12_pointFor_12 rfl rfl ?_
      refine aw_iload_n X 3 dX12_pointFor_13 rfl rfl ?_
      obtain ⟨q5, e6, hf⟩ := z_bd hf
      refine aw_callV X [z_i v1, z_i v3] [] [z_i q5] cX12_249 s_758 ciX12 (C_X12_speed l D cA sa ad bs v1 c_v1 v3 c_v3 σ q5 e6) rfl ⟨(Nat.le_of_ble_eq_true rfl), (Nat.le_of_ble_eq_true rfl), (Nat.le_of_ble_eq_true rfl), (Nat.le_of_ble_eq_true rfl)⟩ rfl (Nat.le_of_ble_eq_true rfl) rfl dX12_pointFor_14 (fun p7 => ?_)
      refine aw_iload_n X 2 dX12_pointFor_17 rfl rfl ?_
      refine aw_icmp_ge X (tgt := 27) p7 c_v2 dX12_pointFor_18 (by decide) (fun h8 => ?_) (fun h8 => ?_)
      · rw [if_pos h8] at hf
        refine aw_iload_n X 3 dX12_pointFor_27 rfl rfl ?_
        obtain rfl := Option.some.inj hf
        exact aw_iret X c_v3 hr rfl dX12_pointFor_28
      · rw [if_neg h8] at hf
        refine aw_iinc X 3 [(3, z_i (z_w (v3 + 1))), (0, .ref (ad 758)), (1, z_i v1), (2, z_i v2)] dX12_pointFor_21 rfl (by decide) rfl ?_
        refine aw_goto X (tgt := 2) dX12_pointFor_24 (by decide) ?_
        refine aw_sub [1, 2, 3, 0] rfl ?_
        exact ih v1 c_v1 v2 c_v2 (z_w (v3 + 1)) (z_w_in _) hf
end S_X12_pointFor
set_option maxHeartbeats 4000000 in
set_option maxRecDepth 100000 in
theorem C_X12_pointFor (l : Launch) (D : va_G) (cA : Nat → ClassId) (sa ad : Nat → Nat) (bs : Nat) (v1 : Int) (c_v1 : Z_I v1) (v2 : Int) (c_v2 : Z_I v2) (σ : Nat → Nat → Int) (q : Int) (hf : f_X12_pointFor v1 v2 σ = some q) : AM l D cA sa ad bs 788 SHp yX12_pointFor cX12_pointFor 4 (some .int) 1 [.ref (ad 758), z_i v1, z_i v2] σ (some (z_i q)) (Z_I q) σ := by
  refine am_of (by decide +kernel) (Nat.le_of_ble_eq_true rfl) (fun p e s m args below meth c X hr => ?_)
  refine aw_lv (lv' := [(0, .ref (ad 758)), (1, z_i v1), (2, z_i v2)]) rfl ?_
  unfold f_X12_pointFor at hf
  refine aw_iconst X dX12_pointFor_0 ?_
  refine aw_istore_n X [(3, z_i 0), (0, .ref (ad 758)), (1, z_i v1), (2, z_i v2)] dX12_pointFor_1 rfl (by decide) rfl ?_
  refine aw_sub [1, 2, 3, 0] rfl ?_
  exact A_X12_pointFor_2 X hr σ 100000 v1 c_v1 v2 c_v2 0 (z_lit (x := 0) (by decide)) hf
-- SpeedDeskModel.up(II)I
section S_X12_up
variable {p : Program} {l : Launch} {e : Env} {s : State} {m : MethodId} {args : Array Value} {below : List Frame} {meth : Method} {c : Code} {D : va_G} {cA : Nat → ClassId} {sa ad : Nat → Nat} {bs : Nat} {q : Int}

end S_X12_up
set_option maxHeartbeats 4000000 in
set_option maxRecDepth 100000 in
theorem C_X12_up (l : Launch) (D : va_G) (cA : Nat → ClassId) (sa ad : Nat → Nat) (bs : Nat) (v0 : Int) (c_v0 : Z_I v0) (v1 : Int) (c_v1 : Z_I v1) (σ : Nat → Nat → Int) (q : Int) (hf : f_X12_up v0 v1 σ = some q) : AM l D cA sa ad bs 788 SHp yX12_up cX12_up 2 (some .int) 0 [z_i v0, z_i v1] σ (some (z_i q)) (Z_I q) σ := by
  refine am_of (by decide +kernel) (Nat.le_of_ble_eq_true rfl) (fun p e s m args below meth c X hr => ?_)
  refine aw_lv (lv' := [(0, z_i v0), (1, z_i v1)]) rfl ?_
  unfold f_X12_up at hf
  refine aw_iload_n X 0 dX12_up_0 rfl rfl ?_
  refine aw_iload_n X 1 dX12_up_1 rfl rfl ?_
  refine aw_iadd X dX12_up_2 ?_
  refine aw_iconst X dX12_up_3 ?_
  refine aw_isub X dX12_up_4 ?_
  refine aw_iload_n X 1 dX12_up_5 rfl rfl ?_
  obtain ⟨g1, hf⟩ := z_gd hf
  refine aw_idiv X (z_w_in _) c_v1 g1 dX12_up_6 ?_
  obtain rfl := Option.some.inj hf
  exact aw_iret X (z_w_in _) hr rfl dX12_up_7
-- SpeedDeskModel.lowOf([II)I
section S_X12_lowOf
variable {p : Program} {l : Launch} {e : Env} {s : State} {m : MethodId} {args : Array Value} {below : List Frame} {meth : Method} {c : Code} {D : va_G} {cA : Nat → ClassId} {sa ad : Nat → Nat} {bs : Nat} {q : Int}
set_option maxHeartbeats 4000000 in
set_option maxRecDepth 100000 in
theorem A_X12_lowOf_5 (X : AX p s m args meth c D cA sa bs cX12_lowOf 5 RX12) (hr : meth.sig.returnType = (some .int)) (σ : Nat → Nat → Int) : ∀ (k : Nat) (a1 : Nat) (h_a1 : a1 < 788 ∧ SHp a1 = .inr (0, 256, [])) (v2 : Int) (c_v2 : Z_I v2) (v3 : Int) (c_v3 : Z_I v3) (v4 : Int) (c_v4 : Z_I v4), f_X12_lowOf_5 k a1 v2 v3 v4 σ = some q → AW p l e (ax_rm 0 0 0) s m args below meth c D cA ad bs 788 SHp 0 0 (ax_MQ below args s D cA ad bs 788 SHp 0 0 (some (z_i q)) (Z_I q) σ) 5 5 [(1, .ref (ad a1)), (2, z_i v2), (3, z_i v3), (4, z_i v4)] [] σ := by
  intro k
  induction k with
  | zero =>
    intro a1 h_a1 v2 c_v2 v3 c_v3 v4 c_v4 hf
    unfold f_X12_lowOf_5 at hf
    cases hf
  | succ k ih =>
    intro a1 h_a1 v2 c_v2 v3 c_v3 v4 c_v4 hf
    unfold f_X12_lowOf_5 at hf
    refine aw_iload X 3 dX12_lowOf_5 rfl ?_
    refine aw_aload_n X 0 dX12_lowOf_7 rfl rfl ?_
    refine aw_bipush X dX12_lowOf_8 (by decide) ?_
    refine aw_iald X (j := 44) h_a1 (z_lit (x := 44) (by decide)) (by decide) (by decide) rfl dX12_lowOf_10 (fun c1 => ?_)
    refine aw_icmp_ge X (tgt := 56) c_v4 c1 dX12_lowOf_11 (by decide) (fun h2 => ?_) (fun h2 => ?_)
    · rw [if_pos h2] at hf
      refine aw_iload_n X 2 dX12_lowOf_56 rfl rfl ?_
      obtain rfl := Option.some.inj hf
      exact aw_iret X c_v3 hr rfl dX12_lowOf_57
    · rw [if_neg h2] at hf
      refine aw_aload_n X 0 dX12_lowOf_14 rfl rfl ?_
      refine aw_bipush X dX12_lowOf_15 (by decide) ?_
      refine aw_iconst X dX12_lowOf_17 ?_
      refine aw_iload X 3 dX12_lowOf_18 rfl ?_
      refine aw_imul X dX12_lowOf_20 ?_
      refine aw_iadd X dX12_lowOf_21 ?_
      obtain ⟨g3, hf⟩ := z_gd hf
      refine aw_iald X (j := (z_w (47 + (z_w (5 * v4)))).toNat) h_a1 (z_w_in _) g3.1 g3.2 rfl dX12_lowOf_22 (fun c4 => ?_)
      refine aw_iload_n X 1 dX12_lowOf_23 rfl rfl ?_
      refine aw_icmp_ne X (tgt := 50) c4 c_v2 dX12_lowOf_24 (by decide) (fun h5 => ?_) (fun h5 => ?_)
      · rw [if_neg h5] at hf
        refine aw_iinc X 3 [(4, z_i (z_w (v4 + 1))), (1, .ref (ad a1)), (2, z_i v2), (3, z_i v3)] dX12_lowOf_50 rfl (by decide) rfl ?_
        refine aw_goto X (tgt := 5) dX12_lowOf_53 (by decide) ?_
        refine aw_sub [1, 2, 3, 0] rfl ?_
        exact ih a1 h_a1 v2 c_v2 v3 c_v3 (z_w (v4 + 1)) (z_w_in _) hf
      · rw [if_pos h5] at hf
        refine aw_aload_n X 0 dX12_lowOf_27 rfl rfl ?_
        refine aw_bipush X dX12_lowOf_28 (by decide) ?_
        refine aw_iconst X dX12_lowOf_30 ?_
        refine aw_iload X 3 dX12_lowOf_31 rfl ?_
        refine aw_imul X dX12_lowOf_33 ?_
        refine aw_iadd X dX12_lowOf_34 ?_
        obtain ⟨g6, hf⟩ := z_gd hf
        refine aw_iald X (j := (z_w (48 + (z_w (5 * v4)))).toNat) h_a1 (z_w_in _) g6.1 g6.2 rfl dX12_lowOf_35 (fun c7 => ?_)
        refine aw_iload_n X 2 dX12_lowOf_36 rfl rfl ?_
        refine aw_icmp_le X (tgt := 50) c7 c_v3 dX12_lowOf_37 (by decide) (fun h8 => ?_) (fun h8 => ?_)
        · rw [if_pos h8] at hf
          refine aw_iinc X 3 [(4, z_i (z_w (v4 + 1))), (1, .ref (ad a1)), (2, z_i v2), (3, z_i v3)] dX12_lowOf_50 rfl (by decide) rfl ?_
          refine aw_goto X (tgt := 5) dX12_lowOf_53 (by decide) ?_
          refine aw_sub [1, 2, 3, 0] rfl ?_
          exact ih a1 h_a1 v2 c_v2 v3 c_v3 (z_w (v4 + 1)) (z_w_in _) hf
        · rw [if_neg h8] at hf
          refine aw_aload_n X 0 dX12_lowOf_40 rfl rfl ?_
          refine aw_bipush X dX12_lowOf_41 (by decide) ?_
          refine aw_iconst X dX12_lowOf_43 ?_
          refine aw_iload X 3 dX12_lowOf_44 rfl ?_
          refine aw_imul X dX12_lowOf_46 ?_
          refine aw_iadd X dX12_lowOf_47 ?_
          obtain ⟨g9, hf⟩ := z_gd hf
          refine aw_iald X (j := (z_w (48 + (z_w (5 * v4)))).toNat) h_a1 (z_w_in _) g9.1 g9.2 rfl dX12_lowOf_48 (fun c10 => ?_)
          refine aw_istore_n X [(3, z_i (σ a1 (z_w (48 + (z_w (5 * v4)))).toNat)), (1, .ref (ad a1)), (2, z_i v2), (4, z_i v4)] dX12_lowOf_49 rfl (by decide) rfl ?_
          refine aw_iinc X 3 [(4, z_i (z_w (v4 + 1))), (3, z_i (σ a1 (z_w (48 + (z_w (5 * v4)))).toNat)), (1, .ref (ad a1)), (2, z_i v2)] dX12_lowOf_50 rfl (by decide) rfl ?_
          refine aw_goto X (tgt := 5) dX12_lowOf_53 (by decide) ?_
          refine aw_sub [2, 3, 1, 0] rfl ?_
          exact ih a1 h_a1 v2 c_v2 (σ a1 (z_w (48 + (z_w (5 * v4)))).toNat) c10 (z_w (v4 + 1)) (z_w_in _) hf
end S_X12_lowOf
set_option maxHeartbeats 4000000 in
set_option maxRecDepth 100000 in
theorem C_X12_lowOf (l : Launch) (D : va_G) (cA : Nat → ClassId) (sa ad : Nat → Nat) (bs : Nat) (a1 : Nat) (h_a1 : a1 < 788 ∧ SHp a1 = .inr (0, 256, [])) (v2 : Int) (c_v2 : Z_I v2) (σ : Nat → Nat → Int) (q : Int) (hf : f_X12_lowOf a1 v2 σ = some q) : AM l D cA sa ad bs 788 SHp yX12_lowOf cX12_lowOf 5 (some .int) 0 [.ref (ad 758), .ref (ad a1), z_i v2] σ (some (z_i q)) (Z_I q) σ := by
  refine am_of (by decide +kernel) (Nat.le_of_ble_eq_true rfl) (fun p e s m args below meth c X hr => ?_)
  refine aw_lv (lv' := [(0, .ref (ad 758)), (1, .ref (ad a1)), (2, z_i v2)]) rfl ?_
  unfold f_X12_lowOf at hf
  refine aw_iconst X dX12_lowOf_0 ?_
  refine aw_istore_n X [(3, z_i 0), (0, .ref (ad 758)), (1, .ref (ad a1)), (2, z_i v2)] dX12_lowOf_1 rfl (by decide) rfl ?_
  refine aw_iconst X dX12_lowOf_2 ?_
  refine aw_istore X [(4, z_i 0), (3, z_i 0), (0, .ref (ad 758)), (1, .ref (ad a1)), (2, z_i v2)] dX12_lowOf_3 (by decide) rfl ?_
  refine aw_sub [3, 4, 1, 0] rfl ?_
  exact A_X12_lowOf_5 X hr σ 100000 a1 h_a1 v2 c_v2 0 (z_lit (x := 0) (by decide)) 0 (z_lit (x := 0) (by decide)) hf
-- SpeedDeskModel.highOf([II)I
section S_X12_highOf
variable {p : Program} {l : Launch} {e : Env} {s : State} {m : MethodId} {args : Array Value} {below : List Frame} {meth : Method} {c : Code} {D : va_G} {cA : Nat → ClassId} {sa ad : Nat → Nat} {bs : Nat} {q : Int}
set_option maxHeartbeats 4000000 in
set_option maxRecDepth 100000 in
theorem A_X12_highOf_9 (X : AX p s m args meth c D cA sa bs cX12_highOf 5 RX12) (hr : meth.sig.returnType = (some .int)) (σ : Nat → Nat → Int) : ∀ (k : Nat) (a1 : Nat) (h_a1 : a1 < 788 ∧ SHp a1 = .inr (0, 256, [])) (v2 : Int) (c_v2 : Z_I v2) (v3 : Int) (c_v3 : Z_I v3) (v4 : Int) (c_v4 : Z_I v4), f_X12_highOf_9 k a1 v2 v3 v4 σ = some q → AW p l e (ax_rm 1 0 0) s m args below meth c D cA ad bs 788 SHp 0 0 (ax_MQ below args s D cA ad bs 788 SHp 0 0 (some (z_i q)) (Z_I q) σ) 5 9 [(0, .ref (ad 758)), (1, .ref (ad a1)), (2, z_i v2), (3, z_i v3), (4, z_i v4)] [] σ := by
  intro k
  induction k with
  | zero =>
    intro a1 h_a1 v2 c_v2 v3 c_v3 v4 c_v4 hf
    unfold f_X12_highOf_9 at hf
    cases hf
  | succ k ih =>
    intro a1 h_a1 v2 c_v2 v3 c_v3 v4 c_v4 hf
    unfold f_X12_highOf_9 at hf
    refine aw_iload X 4 dX12_highOf_9 rfl ?_
    refine aw_aload_n X 1 dX12_highOf_11 rfl rfl ?_
    refine aw_bipush X dX12_highOf_12 (by decide) ?_
    refine aw_iald X (j := 44) h_a1 (z_lit (x := 44) (by decide)) (by decide) (by decide) rfl dX12_highOf_14 (fun c4 => ?_)
    refine aw_icmp_ge X (tgt := 60) c_v4 c4 dX12_highOf_15 (by decide) (fun h5 => ?_) (fun h5 => ?_)
    · rw [if_pos h5] at hf
      refine aw_iload_n X 2 dX12_highOf_60 rfl rfl ?_
      refine aw_aload_n X 0 dX12_highOf_61 rfl rfl ?_
      refine aw_getI X s_758 fX12_75 rfl dX12_highOf_62 (fun c6 => ?_)
      refine aw_icmp_ne X (tgt := 83) c_v2 c6 dX12_highOf_65 (by decide) (fun h7 => ?_) (fun h7 => ?_)
      · rw [if_neg h7] at hf
        refine aw_iload_n X 3 dX12_highOf_83 rfl rfl ?_
        obtain rfl := Option.some.inj hf
        exact aw_iret X c_v3 hr rfl dX12_highOf_84
      · rw [if_pos h7] at hf
        refine aw_aload_n X 0 dX12_highOf_68 rfl rfl ?_
        refine aw_getI X s_758 fX12_270 rfl dX12_highOf_69 (fun c8 => ?_)
        refine aw_iload_n X 3 dX12_highOf_72 rfl rfl ?_
        refine aw_icmp_ge X (tgt := 83) c8 c_v3 dX12_highOf_73 (by decide) (fun h9 => ?_) (fun h9 => ?_)
        · rw [if_pos h9] at hf
          refine aw_iload_n X 3 dX12_highOf_83 rfl rfl ?_
          obtain rfl := Option.some.inj hf
          exact aw_iret X c_v3 hr rfl dX12_highOf_84
        · rw [if_neg h9] at hf
          refine aw_aload_n X 0 dX12_highOf_76 rfl rfl ?_
          refine aw_getI X s_758 fX12_270 rfl dX12_highOf_77 (fun c10 => ?_)
          refine aw_goto X (tgt := 84) dX12_highOf_80 (by decide) ?_
          obtain rfl := Option.some.inj hf
          exact aw_iret X c10 hr rfl dX12_highOf_84
    · rw [if_neg h5] at hf
      refine aw_aload_n X 1 dX12_highOf_18 rfl rfl ?_
      refine aw_bipush X dX12_highOf_19 (by decide) ?_
      refine aw_iconst X dX12_highOf_21 ?_
      refine aw_iload X 4 dX12_highOf_22 rfl ?_
      refine aw_imul X dX12_highOf_24 ?_
      refine aw_iadd X dX12_highOf_25 ?_
      obtain ⟨g11, hf⟩ := z_gd hf
      refine aw_iald X (j := (z_w (47 + (z_w (5 * v4)))).toNat) h_a1 (z_w_in _) g11.1 g11.2 rfl dX12_highOf_26 (fun c12 => ?_)
      refine aw_iload_n X 2 dX12_highOf_27 rfl rfl ?_
      refine aw_icmp_ne X (tgt := 54) c12 c_v2 dX12_highOf_28 (by decide) (fun h13 => ?_) (fun h13 => ?_)
      · rw [if_neg h13] at hf
        refine aw_iinc X 4 [(4, z_i (z_w (v4 + 1))), (0, .ref (ad 758)), (1, .ref (ad a1)), (2, z_i v2), (3, z_i v3)] dX12_highOf_54 rfl (by decide) rfl ?_
        refine aw_goto X (tgt := 9) dX12_highOf_57 (by decide) ?_
        refine aw_sub [1, 2, 3, 4, 0] rfl ?_
        exact ih a1 h_a1 v2 c_v2 v3 c_v3 (z_w (v4 + 1)) (z_w_in _) hf
      · rw [if_pos h13] at hf
        refine aw_aload_n X 1 dX12_highOf_31 rfl rfl ?_
        refine aw_bipush X dX12_highOf_32 (by decide) ?_
        refine aw_iconst X dX12_highOf_34 ?_
        refine aw_iload X 4 dX12_highOf_35 rfl ?_
        refine aw_imul X dX12_highOf_37 ?_
        refine aw_iadd X dX12_highOf_38 ?_
        obtain ⟨g14, hf⟩ := z_gd hf
        refine aw_iald X (j := (z_w (49 + (z_w (5 * v4)))).toNat) h_a1 (z_w_in _) g14.1 g14.2 rfl dX12_highOf_39 (fun c15 => ?_)
        refine aw_iload_n X 3 dX12_highOf_40 rfl rfl ?_
        refine aw_icmp_ge X (tgt := 54) c15 c_v3 dX12_highOf_41 (by decide) (fun h16 => ?_) (fun h16 => ?_)
        · rw [if_pos h16] at hf
          refine aw_iinc X 4 [(4, z_i (z_w (v4 + 1))), (0, .ref (ad 758)), (1, .ref (ad a1)), (2, z_i v2), (3, z_i v3)] dX12_highOf_54 rfl (by decide) rfl ?_
          refine aw_goto X (tgt := 9) dX12_highOf_57 (by decide) ?_
          refine aw_sub [1, 2, 3, 4, 0] rfl ?_
          exact ih a1 h_a1 v2 c_v2 v3 c_v3 (z_w (v4 + 1)) (z_w_in _) hf
        · rw [if_neg h16] at hf
          refine aw_aload_n X 1 dX12_highOf_44 rfl rfl ?_
          refine aw_bipush X dX12_highOf_45 (by decide) ?_
          refine aw_iconst X dX12_highOf_47 ?_
          refine aw_iload X 4 dX12_highOf_48 rfl ?_
          refine aw_imul X dX12_highOf_50 ?_
          refine aw_iadd X dX12_highOf_51 ?_
          obtain ⟨g17, hf⟩ := z_gd hf
          refine aw_iald X (j := (z_w (49 + (z_w (5 * v4)))).toNat) h_a1 (z_w_in _) g17.1 g17.2 rfl dX12_highOf_52 (fun c18 => ?_)
          refine aw_istore_n X [(3, z_i (σ a1 (z_w (49 + (z_w (5 * v4)))).toNat)), (0, .ref (ad 758)), (1, .ref (ad a1)), (2, z_i v2), (4, z_i v4)] dX12_highOf_53 rfl (by decide) rfl ?_
          refine aw_iinc X 4 [(4, z_i (z_w (v4 + 1))), (3, z_i (σ a1 (z_w (49 + (z_w (5 * v4)))).toNat)), (0, .ref (ad 758)), (1, .ref (ad a1)), (2, z_i v2)] dX12_highOf_54 rfl (by decide) rfl ?_
          refine aw_goto X (tgt := 9) dX12_highOf_57 (by decide) ?_
          refine aw_sub [2, 3, 4, 1, 0] rfl ?_
          exact ih a1 h_a1 v2 c_v2 (σ a1 (z_w (49 + (z_w (5 * v4)))).toNat) c18 (z_w (v4 + 1)) (z_w_in _) hf
end S_X12_highOf
set_option maxHeartbeats 4000000 in
set_option maxRecDepth 100000 in
theorem C_X12_highOf (l : Launch) (D : va_G) (cA : Nat → ClassId) (sa ad : Nat → Nat) (bs : Nat) (a1 : Nat) (h_a1 : a1 < 788 ∧ SHp a1 = .inr (0, 256, [])) (v2 : Int) (c_v2 : Z_I v2) (σ : Nat → Nat → Int) (q : Int) (hf : f_X12_highOf a1 v2 σ = some q) : AM l D cA sa ad bs 788 SHp yX12_highOf cX12_highOf 5 (some .int) 1 [.ref (ad 758), .ref (ad a1), z_i v2] σ (some (z_i q)) (Z_I q) σ := by
  refine am_of (by decide +kernel) (Nat.le_of_ble_eq_true rfl) (fun p e s m args below meth c X hr => ?_)
  refine aw_lv (lv' := [(0, .ref (ad 758)), (1, .ref (ad a1)), (2, z_i v2)]) rfl ?_
  unfold f_X12_highOf at hf
  refine aw_aload_n X 0 dX12_highOf_0 rfl rfl ?_
  refine aw_iload_n X 2 dX12_highOf_1 rfl rfl ?_
  obtain ⟨q1, e2, hf⟩ := z_bd hf
  refine aw_callV X [z_i v2] [] [z_i q1] cX12_246 s_758 ciX12 (C_X12_lastPoint l D cA sa ad bs v2 c_v2 σ q1 e2) rfl ⟨(Nat.le_of_ble_eq_true rfl), (Nat.le_of_ble_eq_true rfl), (Nat.le_of_ble_eq_true rfl), (Nat.le_of_ble_eq_true rfl)⟩ rfl (Nat.le_of_ble_eq_true rfl) rfl dX12_highOf_2 (fun p3 => ?_)
  refine aw_istore_n X [(3, z_i q1), (0, .ref (ad 758)), (1, .ref (ad a1)), (2, z_i v2)] dX12_highOf_5 rfl (by decide) rfl ?_
  refine aw_iconst X dX12_highOf_6 ?_
  refine aw_istore X [(4, z_i 0), (3, z_i q1), (0, .ref (ad 758)), (1, .ref (ad a1)), (2, z_i v2)] dX12_highOf_7 (by decide) rfl ?_
  refine aw_sub [2, 3, 4, 1, 0] rfl ?_
  exact A_X12_highOf_9 X hr σ 100000 a1 h_a1 v2 c_v2 q1 p3 0 (z_lit (x := 0) (by decide)) hf
-- SpeedDeskModel.bounded([III)I
section S_X12_bounded
variable {p : Program} {l : Launch} {e : Env} {s : State} {m : MethodId} {args : Array Value} {below : List Frame} {meth : Method} {c : Code} {D : va_G} {cA : Nat → ClassId} {sa ad : Nat → Nat} {bs : Nat} {q : Int}
set_option maxHeartbeats 4000000 in
set_option maxRecDepth 100000 in
theorem A_X12_bounded_20 (X : AX p s m args meth c D cA sa bs cX12_bounded 5 RX12) (hr : meth.sig.returnType = (some .int)) (σ : Nat → Nat → Int) (a1 : Nat) (h_a1 : a1 < 788 ∧ SHp a1 = .inr (0, 256, [])) (v2 : Int) (c_v2 : Z_I v2) (t0 : Int) (c_t0 : Z_I t0) (hf : f_X12_bounded_20 a1 v2 t0 σ = some q) : AW p l e (ax_rm 2 0 0) s m args below meth c D cA ad bs 788 SHp 0 0 (ax_MQ below args s D cA ad bs 788 SHp 0 0 (some (z_i q)) (Z_I q) σ) 5 20 [(0, .ref (ad 758)), (1, .ref (ad a1)), (2, z_i v2)] [z_i t0] σ := by
  unfold f_X12_bounded_20 at hf
  refine aw_istore X [(4, z_i t0), (0, .ref (ad 758)), (1, .ref (ad a1)), (2, z_i v2)] dX12_bounded_20 (by decide) rfl ?_
  refine aw_iload X 0 dX12_bounded_22 rfl ?_
  refine aw_aload_n X 1 dX12_bounded_24 rfl rfl ?_
  refine aw_aload_n X 2 dX12_bounded_25 rfl rfl ?_
  refine aw_iload_n X 3 dX12_bounded_26 rfl rfl ?_
  obtain ⟨q8, e9, hf⟩ := z_bd hf
  refine aw_callV X [.ref (ad a1), z_i v2] [z_i t0] [z_i q8, z_i t0] cX12_277 s_758 ciX12 (C_X12_highOf l D cA sa ad bs a1 h_a1 v2 c_v2 σ q8 e9) rfl ⟨(Nat.le_of_ble_eq_true rfl), (Nat.le_of_ble_eq_true rfl), (Nat.le_of_ble_eq_true rfl), (Nat.le_of_ble_eq_true rfl)⟩ rfl (Nat.le_of_ble_eq_true rfl) rfl dX12_bounded_27 (fun p10 => ?_)
  refine aw_icmp_le X (tgt := 42) c_t0 p10 dX12_bounded_30 (by decide) (fun h11 => ?_) (fun h11 => ?_)
  · rw [if_pos h11] at hf
    refine aw_iload X 0 dX12_bounded_42 rfl ?_
    obtain rfl := Option.some.inj hf
    exact aw_iret X c_t0 hr rfl dX12_bounded_44
  · rw [if_neg h11] at hf
    refine aw_aload_n X 1 dX12_bounded_33 rfl rfl ?_
    refine aw_aload_n X 2 dX12_bounded_34 rfl rfl ?_
    refine aw_iload_n X 3 dX12_bounded_35 rfl rfl ?_
    obtain ⟨q12, e13, hf⟩ := z_bd hf
    refine aw_callV X [.ref (ad a1), z_i v2] [] [z_i q12] cX12_277 s_758 ciX12 (C_X12_highOf l D cA sa ad bs a1 h_a1 v2 c_v2 σ q12 e13) rfl ⟨(Nat.le_of_ble_eq_true rfl), (Nat.le_of_ble_eq_true rfl), (Nat.le_of_ble_eq_true rfl), (Nat.le_of_ble_eq_true rfl)⟩ rfl (Nat.le_of_ble_eq_true rfl) rfl dX12_bounded_36 (fun p14 => ?_)
    refine aw_goto X (tgt := 44) dX12_bounded_39 (by decide) ?_
    obtain rfl := Option.some.inj hf
    exact aw_iret X p14 hr rfl dX12_bounded_44
end S_X12_bounded
set_option maxHeartbeats 4000000 in
set_option maxRecDepth 100000 in
theorem C_X12_bounded (l : Launch) (D : va_G) (cA : Nat → ClassId) (sa ad : Nat → Nat) (bs : Nat) (a1 : Nat) (h_a1 : a1 < 788 ∧ SHp a1 = .inr (0, 256, [])) (v2 : Int) (c_v2 : Z_I v2) (v3 : Int) (c_v3 : Z_I v3) (σ : Nat → Nat → Int) (q : Int) (hf : f_X12_bounded a1 v2 v3 σ = some q) : AM l D cA sa ad bs 788 SHp yX12_bounded cX12_bounded 5 (some .int) 2 [.ref (ad 758), .ref (ad a1), z_i v2, z_i v3] σ (some (z_i q)) (Z_I q) σ := by
  refine am_of (by decide +kernel) (Nat.le_of_ble_eq_true rfl) (fun p e s m args below meth c X hr => ?_)
  refine aw_lv (lv' := [(0, .ref (ad 758)), (1, .ref (ad a1)), (2, z_i v2), (3, z_i v3)]) rfl ?_
  unfold f_X12_bounded at hf
  refine aw_iload_n X 3 dX12_bounded_0 rfl rfl ?_
  refine aw_aload_n X 0 dX12_bounded_1 rfl rfl ?_
  refine aw_aload_n X 1 dX12_bounded_2 rfl rfl ?_
  refine aw_iload_n X 2 dX12_bounded_3 rfl rfl ?_
  obtain ⟨q1, e2, hf⟩ := z_bd hf
  refine aw_callV X [.ref (ad a1), z_i v2] [z_i v3] [z_i q1, z_i v3] cX12_273 s_758 ciX12 (C_X12_lowOf l D cA sa ad bs a1 h_a1 v2 c_v2 σ q1 e2) rfl ⟨(Nat.le_of_ble_eq_true rfl), (Nat.le_of_ble_eq_true rfl), (Nat.le_of_ble_eq_true rfl), (Nat.le_of_ble_eq_true rfl)⟩ rfl (Nat.le_of_ble_eq_true rfl) rfl dX12_bounded_4 (fun p3 => ?_)
  refine aw_icmp_ge X (tgt := 19) c_v3 p3 dX12_bounded_7 (by decide) (fun h4 => ?_) (fun h4 => ?_)
  · rw [if_pos h4] at hf
    refine aw_iload_n X 3 dX12_bounded_19 rfl rfl ?_
    refine aw_sub [0, 1, 2] rfl ?_
    exact A_X12_bounded_20 X hr σ a1 h_a1 v2 c_v2 v3 c_v3 hf
  · rw [if_neg h4] at hf
    refine aw_aload_n X 0 dX12_bounded_10 rfl rfl ?_
    refine aw_aload_n X 1 dX12_bounded_11 rfl rfl ?_
    refine aw_iload_n X 2 dX12_bounded_12 rfl rfl ?_
    obtain ⟨q5, e6, hf⟩ := z_bd hf
    refine aw_callV X [.ref (ad a1), z_i v2] [] [z_i q5] cX12_273 s_758 ciX12 (C_X12_lowOf l D cA sa ad bs a1 h_a1 v2 c_v2 σ q5 e6) rfl ⟨(Nat.le_of_ble_eq_true rfl), (Nat.le_of_ble_eq_true rfl), (Nat.le_of_ble_eq_true rfl), (Nat.le_of_ble_eq_true rfl)⟩ rfl (Nat.le_of_ble_eq_true rfl) rfl dX12_bounded_13 (fun p7 => ?_)
    refine aw_goto X (tgt := 20) dX12_bounded_16 (by decide) ?_
    refine aw_sub [0, 1, 2] rfl ?_
    exact A_X12_bounded_20 X hr σ a1 h_a1 v2 c_v2 q5 p7 hf
-- SpeedDeskModel.nameOf([II)J
section S_X12_nameOf
variable {p : Program} {l : Launch} {e : Env} {s : State} {m : MethodId} {args : Array Value} {below : List Frame} {meth : Method} {c : Code} {D : va_G} {cA : Nat → ClassId} {sa ad : Nat → Nat} {bs : Nat} {q : Int}

end S_X12_nameOf
set_option maxHeartbeats 4000000 in
set_option maxRecDepth 100000 in
theorem C_X12_nameOf (l : Launch) (D : va_G) (cA : Nat → ClassId) (sa ad : Nat → Nat) (bs : Nat) (a0 : Nat) (h_a0 : a0 < 788 ∧ SHp a0 = .inr (0, 256, [])) (v1 : Int) (c_v1 : Z_I v1) (σ : Nat → Nat → Int) (q : Int) (hf : f_X12_nameOf a0 v1 σ = some q) : AM l D cA sa ad bs 788 SHp yX12_nameOf cX12_nameOf 2 (some .long) 0 [.ref (ad a0), z_i v1] σ (some (z_v q)) (Z_L q) σ := by
  refine am_of (by decide +kernel) (Nat.le_of_ble_eq_true rfl) (fun p e s m args below meth c X hr => ?_)
  refine aw_lv (lv' := [(0, .ref (ad a0)), (1, z_i v1)]) rfl ?_
  unfold f_X12_nameOf at hf
  refine aw_aload_n X 0 dX12_nameOf_0 rfl rfl ?_
  refine aw_bipush X dX12_nameOf_1 (by decide) ?_
  refine aw_iconst X dX12_nameOf_3 ?_
  refine aw_iload_n X 1 dX12_nameOf_4 rfl rfl ?_
  refine aw_imul X dX12_nameOf_5 ?_
  refine aw_iadd X dX12_nameOf_6 ?_
  obtain ⟨g1, hf⟩ := z_gd hf
  refine aw_iald X (j := (z_w (45 + (z_w (5 * v1)))).toNat) h_a0 (z_w_in _) g1.1 g1.2 rfl dX12_nameOf_7 (fun c2 => ?_)
  refine aw_i2l X c2 dX12_nameOf_8 ?_
  refine aw_bipush X dX12_nameOf_9 (by decide) ?_
  refine aw_lshl X dX12_nameOf_11 ?_
  refine aw_aload_n X 0 dX12_nameOf_12 rfl rfl ?_
  refine aw_bipush X dX12_nameOf_13 (by decide) ?_
  refine aw_iconst X dX12_nameOf_15 ?_
  refine aw_iload_n X 1 dX12_nameOf_16 rfl rfl ?_
  refine aw_imul X dX12_nameOf_17 ?_
  refine aw_iadd X dX12_nameOf_18 ?_
  obtain ⟨g3, hf⟩ := z_gd hf
  refine aw_iald X (j := (z_w (46 + (z_w (5 * v1)))).toNat) h_a0 (z_w_in _) g3.1 g3.2 rfl dX12_nameOf_19 (fun c4 => ?_)
  refine aw_i2l X c4 dX12_nameOf_20 ?_
  refine aw_ldc2 X (x := 4294967295) dX12_nameOf_21 kX12_280 (by decide) ?_
  refine aw_land X dX12_nameOf_24 ?_
  refine aw_lor X dX12_nameOf_25 ?_
  obtain rfl := Option.some.inj hf
  exact aw_lret X (z_orL_in _ _) hr rfl dX12_nameOf_26
-- SpeedDeskModel.askOf([IJI)I
section S_X12_askOf
variable {p : Program} {l : Launch} {e : Env} {s : State} {m : MethodId} {args : Array Value} {below : List Frame} {meth : Method} {c : Code} {D : va_G} {cA : Nat → ClassId} {sa ad : Nat → Nat} {bs : Nat} {q : Int}
set_option maxHeartbeats 4000000 in
set_option maxRecDepth 100000 in
theorem A_X12_askOf_3 (X : AX p s m args meth c D cA sa bs cX12_askOf 5 RX12) (hr : meth.sig.returnType = (some .int)) (σ : Nat → Nat → Int) : ∀ (k : Nat) (a0 : Nat) (h_a0 : a0 < 788 ∧ SHp a0 = .inr (0, 256, [])) (v1 : Int) (c_v1 : Z_L v1) (v3 : Int) (c_v3 : Z_I v3) (v4 : Int) (c_v4 : Z_I v4), f_X12_askOf_3 k a0 v1 v3 v4 σ = some q → AW p l e (ax_rm 1 0 0) s m args below meth c D cA ad bs 788 SHp 0 0 (ax_MQ below args s D cA ad bs 788 SHp 0 0 (some (z_i q)) (Z_I q) σ) 5 3 [(0, .ref (ad a0)), (1, z_v v1), (3, z_i v3), (4, z_i v4)] [] σ := by
  intro k
  induction k with
  | zero =>
    intro a0 h_a0 v1 c_v1 v3 c_v3 v4 c_v4 hf
    unfold f_X12_askOf_3 at hf
    cases hf
  | succ k ih =>
    intro a0 h_a0 v1 c_v1 v3 c_v3 v4 c_v4 hf
    unfold f_X12_askOf_3 at hf
    refine aw_iload X 3 dX12_askOf_3 rfl ?_
    refine aw_aload_n X 0 dX12_askOf_5 rfl rfl ?_
    refine aw_bipush X dX12_askOf_6 (by decide) ?_
    refine aw_iald X (j := 44) h_a0 (z_lit (x := 44) (by decide)) (by decide) (by decide) rfl dX12_askOf_8 (fun c1 => ?_)
    refine aw_icmp_ge X (tgt := 45) c_v4 c1 dX12_askOf_9 (by decide) (fun h2 => ?_) (fun h2 => ?_)
    · rw [if_pos h2] at hf
      refine aw_iconst X dX12_askOf_45 ?_
      obtain rfl := Option.some.inj hf
      exact aw_iret X (z_lit (x := (-1)) (by decide)) hr rfl dX12_askOf_46
    · rw [if_neg h2] at hf
      refine aw_aload_n X 0 dX12_askOf_12 rfl rfl ?_
      refine aw_iload X 3 dX12_askOf_13 rfl ?_
      obtain ⟨q3, e4, hf⟩ := z_bd hf
      refine aw_callS X [.ref (ad a0), z_i v4] [] [z_v q3] cX12_282 (C_X12_nameOf l D cA sa ad bs a0 h_a0 v4 c_v4 σ q3 e4) rfl ⟨(Nat.le_of_ble_eq_true rfl), (Nat.le_of_ble_eq_true rfl), (Nat.le_of_ble_eq_true rfl), (Nat.le_of_ble_eq_true rfl)⟩ rfl (Nat.le_of_ble_eq_true rfl) rfl dX12_askOf_15 (fun p5 => ?_)
      refine aw_lload_n X 1 dX12_askOf_18 rfl rfl ?_
      refine aw_lcmp X p5 c_v1 dX12_askOf_19 ?_
      refine aw_if_ne X (tgt := 39) (z_cmp_in _ _) dX12_askOf_20 (by decide) (fun h6 => ?_) (fun h6 => ?_)
      · rw [if_neg h6] at hf
        refine aw_iinc X 3 [(4, z_i (z_w (v4 + 1))), (0, .ref (ad a0)), (1, z_v v1), (3, z_i v3)] dX12_askOf_39 rfl (by decide) rfl ?_
        refine aw_goto X (tgt := 3) dX12_askOf_42 (by decide) ?_
        refine aw_sub [1, 2, 3, 0] rfl ?_
        exact ih a0 h_a0 v1 c_v1 v3 c_v3 (z_w (v4 + 1)) (z_w_in _) hf
      · rw [if_pos h6] at hf
        refine aw_aload_n X 0 dX12_askOf_23 rfl rfl ?_
        refine aw_bipush X dX12_askOf_24 (by decide) ?_
        refine aw_iconst X dX12_askOf_26 ?_
        refine aw_iload X 3 dX12_askOf_27 rfl ?_
        refine aw_imul X dX12_askOf_29 ?_
        refine aw_iadd X dX12_askOf_30 ?_
        obtain ⟨g7, hf⟩ := z_gd hf
        refine aw_iald X (j := (z_w (47 + (z_w (5 * v4)))).toNat) h_a0 (z_w_in _) g7.1 g7.2 rfl dX12_askOf_31 (fun c8 => ?_)
        refine aw_iload_n X 2 dX12_askOf_32 rfl rfl ?_
        refine aw_icmp_ne X (tgt := 39) c8 c_v3 dX12_askOf_33 (by decide) (fun h9 => ?_) (fun h9 => ?_)
        · rw [if_neg h9] at hf
          refine aw_iinc X 3 [(4, z_i (z_w (v4 + 1))), (0, .ref (ad a0)), (1, z_v v1), (3, z_i v3)] dX12_askOf_39 rfl (by decide) rfl ?_
          refine aw_goto X (tgt := 3) dX12_askOf_42 (by decide) ?_
          refine aw_sub [1, 2, 3, 0] rfl ?_
          exact ih a0 h_a0 v1 c_v1 v3 c_v3 (z_w (v4 + 1)) (z_w_in _) hf
        · rw [if_pos h9] at hf
          refine aw_iload X 3 dX12_askOf_36 rfl ?_
          obtain rfl := Option.some.inj hf
          exact aw_iret X c_v4 hr rfl dX12_askOf_38
end S_X12_askOf
set_option maxHeartbeats 4000000 in
set_option maxRecDepth 100000 in
theorem C_X12_askOf (l : Launch) (D : va_G) (cA : Nat → ClassId) (sa ad : Nat → Nat) (bs : Nat) (a0 : Nat) (h_a0 : a0 < 788 ∧ SHp a0 = .inr (0, 256, [])) (v1 : Int) (c_v1 : Z_L v1) (v3 : Int) (c_v3 : Z_I v3) (σ : Nat → Nat → Int) (q : Int) (hf : f_X12_askOf a0 v1 v3 σ = some q) : AM l D cA sa ad bs 788 SHp yX12_askOf cX12_askOf 5 (some .int) 1 [.ref (ad a0), z_v v1, z_i v3] σ (some (z_i q)) (Z_I q) σ := by
  refine am_of (by decide +kernel) (Nat.le_of_ble_eq_true rfl) (fun p e s m args below meth c X hr => ?_)
  refine aw_lv (lv' := [(0, .ref (ad a0)), (1, z_v v1), (3, z_i v3)]) rfl ?_
  unfold f_X12_askOf at hf
  refine aw_iconst X dX12_askOf_0 ?_
  refine aw_istore X [(4, z_i 0), (0, .ref (ad a0)), (1, z_v v1), (3, z_i v3)] dX12_askOf_1 (by decide) rfl ?_
  refine aw_sub [1, 2, 3, 0] rfl ?_
  exact A_X12_askOf_3 X hr σ 100000 a0 h_a0 v1 c_v1 v3 c_v3 0 (z_lit (x := 0) (by decide)) hf
-- SpeedDeskModel.loadOn([II)I
section S_X12_loadOn
variable {p : Program} {l : Launch} {e : Env} {s : State} {m : MethodId} {args : Array Value} {below : List Frame} {meth : Method} {c : Code} {D : va_G} {cA : Nat → ClassId} {sa ad : Nat → Nat} {bs : Nat} {q : Int}
set_option maxHeartbeats 4000000 in
set_option maxRecDepth 100000 in
theorem A_X12_loadOn_5 (X : AX p s m args meth c D cA sa bs cX12_loadOn 5 RX12) (hr : meth.sig.returnType = (some .int)) (σ : Nat → Nat → Int) : ∀ (k : Nat) (a1 : Nat) (h_a1 : a1 < 788 ∧ SHp a1 = .inr (0, 256, [])) (v2 : Int) (c_v2 : Z_I v2) (v3 : Int) (c_v3 : Z_I v3) (v4 : Int) (c_v4 : Z_I v4), f_X12_loadOn_5 k a1 v2 v3 v4 σ = some q → AW p l e (ax_rm 0 0 0) s m args below meth c D cA ad bs 788 SHp 0 0 (ax_MQ below args s D cA ad bs 788 SHp 0 0 (some (z_i q)) (Z_I q) σ) 5 5 [(0, .ref (ad 758)), (1, .ref (ad a1)), (2, z_i v2), (3, z_i v3), (4, z_i v4)] [] σ := by
  intro k
  induction k with
  | zero =>
    intro a1 h_a1 v2 c_v2 v3 c_v3 v4 c_v4 hf
    unfold f_X12_loadOn_5 at hf
    cases hf
  | succ k ih =>
    intro a1 h_a1 v2 c_v2 v3 c_v3 v4 c_v4 hf
    unfold f_X12_loadOn_5 at hf
    refine aw_iload X 4 dX12_loadOn_5 rfl ?_
    refine aw_aload_n X 0 dX12_loadOn_7 rfl rfl ?_
    refine aw_getI X s_758 fX12_237 rfl dX12_loadOn_8 (fun c1 => ?_)
    refine aw_icmp_ge X (tgt := 45) c_v4 c1 dX12_loadOn_11 (by decide) (fun h2 => ?_) (fun h2 => ?_)
    · rw [if_pos h2] at hf
      refine aw_iload_n X 3 dX12_loadOn_45 rfl rfl ?_
      obtain rfl := Option.some.inj hf
      exact aw_iret X c_v3 hr rfl dX12_loadOn_46
    · rw [if_neg h2] at hf
      refine aw_iload_n X 3 dX12_loadOn_14 rfl rfl ?_
      refine aw_aload_n X 1 dX12_loadOn_15 rfl rfl ?_
      refine aw_bipush X dX12_loadOn_16 (by decide) ?_
      refine aw_iload X 4 dX12_loadOn_18 rfl ?_
      refine aw_iadd X dX12_loadOn_20 ?_
      obtain ⟨g3, hf⟩ := z_gd hf
      refine aw_iald X (j := (z_w (21 + v4)).toNat) h_a1 (z_w_in _) g3.1 g3.2 rfl dX12_loadOn_21 (fun c4 => ?_)
      refine aw_iload_n X 2 dX12_loadOn_22 rfl rfl ?_
      refine aw_icmp_ne X (tgt := 36) c4 c_v2 dX12_loadOn_23 (by decide) (fun h5 => ?_) (fun h5 => ?_)
      · rw [if_neg h5] at hf
        refine aw_iconst X dX12_loadOn_36 ?_
        refine aw_iadd X dX12_loadOn_37 ?_
        refine aw_istore_n X [(3, z_i (z_w (v3 + 0))), (0, .ref (ad 758)), (1, .ref (ad a1)), (2, z_i v2), (4, z_i v4)] dX12_loadOn_38 rfl (by decide) rfl ?_
        refine aw_iinc X 4 [(4, z_i (z_w (v4 + 1))), (3, z_i (z_w (v3 + 0))), (0, .ref (ad 758)), (1, .ref (ad a1)), (2, z_i v2)] dX12_loadOn_39 rfl (by decide) rfl ?_
        refine aw_goto X (tgt := 5) dX12_loadOn_42 (by decide) ?_
        refine aw_sub [2, 3, 4, 1, 0] rfl ?_
        exact ih a1 h_a1 v2 c_v2 (z_w (v3 + 0)) (z_w_in _) (z_w (v4 + 1)) (z_w_in _) hf
      · rw [if_pos h5] at hf
        refine aw_aload_n X 1 dX12_loadOn_26 rfl rfl ?_
        refine aw_bipush X dX12_loadOn_27 (by decide) ?_
        refine aw_iload X 4 dX12_loadOn_29 rfl ?_
        refine aw_iadd X dX12_loadOn_31 ?_
        obtain ⟨g6, hf⟩ := z_gd hf
        refine aw_iald X (j := (z_w (29 + v4)).toNat) h_a1 (z_w_in _) g6.1 g6.2 rfl dX12_loadOn_32 (fun c7 => ?_)
        refine aw_goto X (tgt := 37) dX12_loadOn_33 (by decide) ?_
        refine aw_iadd X dX12_loadOn_37 ?_
        refine aw_istore_n X [(3, z_i (z_w (v3 + (σ a1 (z_w (29 + v4)).toNat)))), (0, .ref (ad 758)), (1, .ref (ad a1)), (2, z_i v2), (4, z_i v4)] dX12_loadOn_38 rfl (by decide) rfl ?_
        refine aw_iinc X 4 [(4, z_i (z_w (v4 + 1))), (3, z_i (z_w (v3 + (σ a1 (z_w (29 + v4)).toNat)))), (0, .ref (ad 758)), (1, .ref (ad a1)), (2, z_i v2)] dX12_loadOn_39 rfl (by decide) rfl ?_
        refine aw_goto X (tgt := 5) dX12_loadOn_42 (by decide) ?_
        refine aw_sub [2, 3, 4, 1, 0] rfl ?_
        exact ih a1 h_a1 v2 c_v2 (z_w (v3 + (σ a1 (z_w (29 + v4)).toNat))) (z_w_in _) (z_w (v4 + 1)) (z_w_in _) hf
end S_X12_loadOn
set_option maxHeartbeats 4000000 in
set_option maxRecDepth 100000 in
theorem C_X12_loadOn (l : Launch) (D : va_G) (cA : Nat → ClassId) (sa ad : Nat → Nat) (bs : Nat) (a1 : Nat) (h_a1 : a1 < 788 ∧ SHp a1 = .inr (0, 256, [])) (v2 : Int) (c_v2 : Z_I v2) (σ : Nat → Nat → Int) (q : Int) (hf : f_X12_loadOn a1 v2 σ = some q) : AM l D cA sa ad bs 788 SHp yX12_loadOn cX12_loadOn 5 (some .int) 0 [.ref (ad 758), .ref (ad a1), z_i v2] σ (some (z_i q)) (Z_I q) σ := by
  refine am_of (by decide +kernel) (Nat.le_of_ble_eq_true rfl) (fun p e s m args below meth c X hr => ?_)
  refine aw_lv (lv' := [(0, .ref (ad 758)), (1, .ref (ad a1)), (2, z_i v2)]) rfl ?_
  unfold f_X12_loadOn at hf
  refine aw_iconst X dX12_loadOn_0 ?_
  refine aw_istore_n X [(3, z_i 0), (0, .ref (ad 758)), (1, .ref (ad a1)), (2, z_i v2)] dX12_loadOn_1 rfl (by decide) rfl ?_
  refine aw_iconst X dX12_loadOn_2 ?_
  refine aw_istore X [(4, z_i 0), (3, z_i 0), (0, .ref (ad 758)), (1, .ref (ad a1)), (2, z_i v2)] dX12_loadOn_3 (by decide) rfl ?_
  refine aw_sub [2, 3, 4, 1, 0] rfl ?_
  exact A_X12_loadOn_5 X hr σ 100000 a1 h_a1 v2 c_v2 0 (z_lit (x := 0) (by decide)) 0 (z_lit (x := 0) (by decide)) hf
-- SpeedDeskModel.needOf([II)I
section S_X12_needOf
variable {p : Program} {l : Launch} {e : Env} {s : State} {m : MethodId} {args : Array Value} {below : List Frame} {meth : Method} {c : Code} {D : va_G} {cA : Nat → ClassId} {sa ad : Nat → Nat} {bs : Nat} {q : Int}
set_option maxHeartbeats 4000000 in
set_option maxRecDepth 100000 in
theorem A_X12_needOf_9 (X : AX p s m args meth c D cA sa bs cX12_needOf 6 RX12) (hr : meth.sig.returnType = (some .int)) (σ : Nat → Nat → Int) : ∀ (k : Nat) (a1 : Nat) (h_a1 : a1 < 788 ∧ SHp a1 = .inr (0, 256, [])) (v2 : Int) (c_v2 : Z_I v2) (v3 : Int) (c_v3 : Z_I v3) (v4 : Int) (c_v4 : Z_I v4), f_X12_needOf_9 k a1 v2 v3 v4 σ = some q → AW p l e (ax_rm 1 0 0) s m args below meth c D cA ad bs 788 SHp 0 0 (ax_MQ below args s D cA ad bs 788 SHp 0 0 (some (z_i q)) (Z_I q) σ) 6 9 [(0, .ref (ad 758)), (1, .ref (ad a1)), (2, z_i v2), (3, z_i v3), (4, z_i v4)] [] σ := by
  intro k
  induction k with
  | zero =>
    intro a1 h_a1 v2 c_v2 v3 c_v3 v4 c_v4 hf
    unfold f_X12_needOf_9 at hf
    cases hf
  | succ k ih =>
    intro a1 h_a1 v2 c_v2 v3 c_v3 v4 c_v4 hf
    unfold f_X12_needOf_9 at hf
    refine aw_iload X 4 dX12_needOf_9 rfl ?_
    refine aw_aload_n X 0 dX12_needOf_11 rfl rfl ?_
    refine aw_iload_n X 2 dX12_needOf_12 rfl rfl ?_
    obtain ⟨q4, e5, hf⟩ := z_bd hf
    refine aw_callV X [z_i v2] [z_i v4] [z_i q4, z_i v4] cX12_267 s_758 ciX12 (C_X12_firstCore l D cA sa ad bs v2 c_v2 σ q4 e5) rfl ⟨(Nat.le_of_ble_eq_true rfl), (Nat.le_of_ble_eq_true rfl), (Nat.le_of_ble_eq_true rfl), (Nat.le_of_ble_eq_true rfl)⟩ rfl (Nat.le_of_ble_eq_true rfl) rfl dX12_needOf_13 (fun p6 => ?_)
    refine aw_aload_n X 0 dX12_needOf_16 rfl rfl ?_
    refine aw_getR X s_758 fX12_23 rfl dX12_needOf_17 ?_
    refine aw_iconst X dX12_needOf_20 ?_
    refine aw_iload_n X 2 dX12_needOf_21 rfl rfl ?_
    refine aw_imul X dX12_needOf_22 ?_
    obtain ⟨g7, hf⟩ := z_gd hf
    refine aw_iald X (j := (z_w (4 * v2)).toNat) s_763 (z_w_in _) g7.1 g7.2 rfl dX12_needOf_23 (fun c8 => ?_)
    refine aw_iadd X dX12_needOf_24 ?_
    refine aw_icmp_ge X (tgt := 57) c_v4 (z_w_in _) dX12_needOf_25 (by decide) (fun h9 => ?_) (fun h9 => ?_)
    · rw [if_pos h9] at hf
      refine aw_iload_n X 3 dX12_needOf_57 rfl rfl ?_
      refine aw_i2l X c_v3 dX12_needOf_58 ?_
      refine aw_aload_n X 0 dX12_needOf_59 rfl rfl ?_
      refine aw_getI X s_758 fX12_243 rfl dX12_needOf_60 (fun c10 => ?_)
      refine aw_i2l X c10 dX12_needOf_63 ?_
      refine aw_lmul X dX12_needOf_64 ?_
      refine aw_bipush X dX12_needOf_65 (by decide) ?_
      refine aw_aload_n X 0 dX12_needOf_67 rfl rfl ?_
      refine aw_getR X s_758 fX12_17 rfl dX12_needOf_68 ?_
      refine aw_iconst X dX12_needOf_71 ?_
      refine aw_iald X (j := 0) s_761 (z_lit (x := 0) (by decide)) (by decide) (by decide) rfl dX12_needOf_72 (fun c11 => ?_)
      refine aw_iadd X dX12_needOf_73 ?_
      refine aw_i2l X (z_w_in _) dX12_needOf_74 ?_
      refine aw_lmul X dX12_needOf_75 ?_
      refine aw_lstore X [(4, z_v (z_l ((z_l (v3 * (σ 758 26))) * (z_w (100 + (σ 761 0)))))), (0, .ref (ad 758)), (1, .ref (ad a1)), (2, z_i v2), (3, z_i v3)] dX12_needOf_76 (by decide) rfl ?_
      refine aw_lload X 0 dX12_needOf_78 rfl ?_
      refine aw_ldc2 X (x := 102399) dX12_needOf_80 kX12_289 (by decide) ?_
      refine aw_ladd X dX12_needOf_83 ?_
      refine aw_ldc2 X (x := 102400) dX12_needOf_84 kX12_291 (by decide) ?_
      refine aw_ldiv X (z_l_in _) (z_litL (x := 102400) (by decide)) (by decide) dX12_needOf_87 ?_
      refine aw_l2i X dX12_needOf_88 ?_
      obtain rfl := Option.some.inj hf
      exact aw_iret X (z_w_in _) hr rfl dX12_needOf_89
    · rw [if_neg h9] at hf
      refine aw_aload_n X 0 dX12_needOf_28 rfl rfl ?_
      refine aw_aload_n X 1 dX12_needOf_29 rfl rfl ?_
      refine aw_iload X 4 dX12_needOf_30 rfl ?_
      obtain ⟨q12, e13, hf⟩ := z_bd hf
      refine aw_callV X [.ref (ad a1), z_i v4] [] [z_i q12] cX12_286 s_758 ciX12 (C_X12_loadOn l D cA sa ad bs a1 h_a1 v4 c_v4 σ q12 e13) rfl ⟨(Nat.le_of_ble_eq_true rfl), (Nat.le_of_ble_eq_true rfl), (Nat.le_of_ble_eq_true rfl), (Nat.le_of_ble_eq_true rfl)⟩ rfl (Nat.le_of_ble_eq_true rfl) rfl dX12_needOf_32 (fun p14 => ?_)
      refine aw_iload_n X 3 dX12_needOf_35 rfl rfl ?_
      refine aw_icmp_le X (tgt := 49) p14 c_v3 dX12_needOf_36 (by decide) (fun h15 => ?_) (fun h15 => ?_)
      · rw [if_pos h15] at hf
        refine aw_iload_n X 3 dX12_needOf_49 rfl rfl ?_
        refine aw_istore_n X [(3, z_i v3), (0, .ref (ad 758)), (1, .ref (ad a1)), (2, z_i v2), (4, z_i v4)] dX12_needOf_50 rfl (by decide) rfl ?_
        refine aw_iinc X 4 [(4, z_i (z_w (v4 + 1))), (3, z_i v3), (0, .ref (ad 758)), (1, .ref (ad a1)), (2, z_i v2)] dX12_needOf_51 rfl (by decide) rfl ?_
        refine aw_goto X (tgt := 9) dX12_needOf_54 (by decide) ?_
        refine aw_sub [2, 3, 4, 1, 0] rfl ?_
        exact ih a1 h_a1 v2 c_v2 v3 c_v3 (z_w (v4 + 1)) (z_w_in _) hf
      · rw [if_neg h15] at hf
        refine aw_aload_n X 0 dX12_needOf_39 rfl rfl ?_
        refine aw_aload_n X 1 dX12_needOf_40 rfl rfl ?_
        refine aw_iload X 4 dX12_needOf_41 rfl ?_
        obtain ⟨q16, e17, hf⟩ := z_bd hf
        refine aw_callV X [.ref (ad a1), z_i v4] [] [z_i q16] cX12_286 s_758 ciX12 (C_X12_loadOn l D cA sa ad bs a1 h_a1 v4 c_v4 σ q16 e17) rfl ⟨(Nat.le_of_ble_eq_true rfl), (Nat.le_of_ble_eq_true rfl), (Nat.le_of_ble_eq_true rfl), (Nat.le_of_ble_eq_true rfl)⟩ rfl (Nat.le_of_ble_eq_true rfl) rfl dX12_needOf_43 (fun p18 => ?_)
        refine aw_goto X (tgt := 50) dX12_needOf_46 (by decide) ?_
        refine aw_istore_n X [(3, z_i q16), (0, .ref (ad 758)), (1, .ref (ad a1)), (2, z_i v2), (4, z_i v4)] dX12_needOf_50 rfl (by decide) rfl ?_
        refine aw_iinc X 4 [(4, z_i (z_w (v4 + 1))), (3, z_i q16), (0, .ref (ad 758)), (1, .ref (ad a1)), (2, z_i v2)] dX12_needOf_51 rfl (by decide) rfl ?_
        refine aw_goto X (tgt := 9) dX12_needOf_54 (by decide) ?_
        refine aw_sub [2, 3, 4, 1, 0] rfl ?_
        exact ih a1 h_a1 v2 c_v2 q16 p18 (z_w (v4 + 1)) (z_w_in _) hf
end S_X12_needOf
set_option maxHeartbeats 4000000 in
set_option maxRecDepth 100000 in
theorem C_X12_needOf (l : Launch) (D : va_G) (cA : Nat → ClassId) (sa ad : Nat → Nat) (bs : Nat) (a1 : Nat) (h_a1 : a1 < 788 ∧ SHp a1 = .inr (0, 256, [])) (v2 : Int) (c_v2 : Z_I v2) (σ : Nat → Nat → Int) (q : Int) (hf : f_X12_needOf a1 v2 σ = some q) : AM l D cA sa ad bs 788 SHp yX12_needOf cX12_needOf 6 (some .int) 1 [.ref (ad 758), .ref (ad a1), z_i v2] σ (some (z_i q)) (Z_I q) σ := by
  refine am_of (by decide +kernel) (Nat.le_of_ble_eq_true rfl) (fun p e s m args below meth c X hr => ?_)
  refine aw_lv (lv' := [(0, .ref (ad 758)), (1, .ref (ad a1)), (2, z_i v2)]) rfl ?_
  unfold f_X12_needOf at hf
  refine aw_iconst X dX12_needOf_0 ?_
  refine aw_istore_n X [(3, z_i 0), (0, .ref (ad 758)), (1, .ref (ad a1)), (2, z_i v2)] dX12_needOf_1 rfl (by decide) rfl ?_
  refine aw_aload_n X 1 dX12_needOf_2 rfl rfl ?_
  refine aw_iload_n X 3 dX12_needOf_3 rfl rfl ?_
  obtain ⟨q1, e2, hf⟩ := z_bd hf
  refine aw_callV X [z_i v2] [] [z_i q1] cX12_267 s_758 ciX12 (C_X12_firstCore l D cA sa ad bs v2 c_v2 σ q1 e2) rfl ⟨(Nat.le_of_ble_eq_true rfl), (Nat.le_of_ble_eq_true rfl), (Nat.le_of_ble_eq_true rfl), (Nat.le_of_ble_eq_true rfl)⟩ rfl (Nat.le_of_ble_eq_true rfl) rfl dX12_needOf_4 (fun p3 => ?_)
  refine aw_istore X [(4, z_i q1), (3, z_i 0), (0, .ref (ad 758)), (1, .ref (ad a1)), (2, z_i v2)] dX12_needOf_7 (by decide) rfl ?_
  refine aw_sub [2, 3, 4, 1, 0] rfl ?_
  exact A_X12_needOf_9 X hr σ 100000 a1 h_a1 v2 c_v2 0 (z_lit (x := 0) (by decide)) q1 p3 hf
