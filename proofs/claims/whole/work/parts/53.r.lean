-- SpeedDeskModel.bestWay([I)I
section S_X12_bestWay
variable {p : Program} {l : Launch} {e : Env} {s : State} {m : MethodId} {args : Array Value} {below : List Frame} {meth : Method} {c : Code} {D : va_G} {cA : Nat → ClassId} {sa ad : Nat → Nat} {bs : Nat} {q : (Int × (Nat → Nat → Int))}
set_option maxHeartbeats 4000000 in
set_option maxRecDepth 100000 in
theorem A_X12_bestWay_4 (X : AX p s m args meth c D cA sa bs cX12_bestWay 5 RX12) (hr : meth.sig.returnType = (some .int)) : ∀ (k : Nat) (a1 : Nat) (h_a1 : a1 < 788 ∧ SHp a1 = .inr (0, 256, [])) (v2 : Int) (c_v2 : Z_I v2) (v3 : Int) (c_v3 : Z_I v3) (σ : Nat → Nat → Int), f_X12_bestWay_4 k a1 v2 v3 σ = some q → AW p l e (ax_rm 5 0 0) s m args below meth c D cA ad bs 788 SHp 0 0 (ax_MQ below args s D cA ad bs 788 SHp 0 0 (some (z_i q.1)) (Z_I q.1) q.2) 5 4 [(0, .ref (ad 758)), (1, .ref (ad a1)), (2, z_i v2), (3, z_i v3)] [] σ := by
  intro k
  induction k with
  | zero =>
    intro a1 h_a1 v2 c_v2 v3 c_v3 σ hf
    unfold f_X12_bestWay_4 at hf
    cases hf
  | succ k ih =>
    intro a1 h_a1 v2 c_v2 v3 c_v3 σ hf
    unfold f_X12_bestWay_4 at hf
    refine aw_iload_n X 3 dX12_bestWay_4 rfl rfl ?_
    refine aw_aload_n X 0 dX12_bestWay_5 rfl rfl ?_
    refine aw_aload_n X 0 dX12_bestWay_6 rfl rfl ?_
    refine aw_getI X s_758 fX12_237 rfl dX12_bestWay_7 (fun c1 => ?_)
    obtain ⟨q2, e3, hf⟩ := z_bd hf
    refine aw_callV X [z_i (σ 758 23)] [z_i v3] [z_i q2, z_i v3] cX12_438 s_758 ciX12 (C_X12_power l D cA sa ad bs (σ 758 23) c1 σ q2 e3) rfl ⟨(Nat.le_of_ble_eq_true rfl), (Nat.le_of_ble_eq_true rfl), (Nat.le_of_ble_eq_true rfl), (Nat.le_of_ble_eq_true rfl)⟩ rfl (Nat.le_of_ble_eq_true rfl) rfl dX12_bestWay_10 (fun p4 => ?_)
    refine aw_icmp_ge X (tgt := 61) c_v3 p4 dX12_bestWay_13 (by decide) (fun h5 => ?_) (fun h5 => ?_)
    · rw [if_pos h5] at hf
      refine aw_iload_n X 2 dX12_bestWay_61 rfl rfl ?_
      obtain rfl := Option.some.inj hf
      exact aw_iret X c_v2 hr rfl dX12_bestWay_62
    · rw [if_neg h5] at hf
      refine aw_aload_n X 0 dX12_bestWay_16 rfl rfl ?_
      refine aw_aload_n X 1 dX12_bestWay_17 rfl rfl ?_
      refine aw_iload_n X 3 dX12_bestWay_18 rfl rfl ?_
      obtain ⟨q6, e7, hf⟩ := z_bd hf
      refine aw_callV X [.ref (ad a1), z_i v3] [] [z_i q6.1] cX12_444 s_758 ciX12 (C_X12_priceOf l D cA sa ad bs a1 h_a1 v3 c_v3 σ q6 e7) rfl ⟨(Nat.le_of_ble_eq_true rfl), (Nat.le_of_ble_eq_true rfl), (Nat.le_of_ble_eq_true rfl), (Nat.le_of_ble_eq_true rfl)⟩ rfl (Nat.le_of_ble_eq_true rfl) rfl dX12_bestWay_19 (fun p8 => ?_)
      refine aw_istore X [(4, z_i q6.1), (0, .ref (ad 758)), (1, .ref (ad a1)), (2, z_i v2), (3, z_i v3)] dX12_bestWay_22 (by decide) rfl ?_
      refine aw_iload X 0 dX12_bestWay_24 rfl ?_
      refine aw_iconst X dX12_bestWay_26 ?_
      refine aw_icmp_eq X (tgt := 55) p8 (z_lit (x := (-1)) (by decide)) dX12_bestWay_27 (by decide) (fun h9 => ?_) (fun h9 => ?_)
      · rw [if_pos h9] at hf
        refine aw_iinc X 4 [(3, z_i (z_w (v3 + 1))), (4, z_i q6.1), (0, .ref (ad 758)), (1, .ref (ad a1)), (2, z_i v2)] dX12_bestWay_55 rfl (by decide) rfl ?_
        refine aw_goto X (tgt := 4) dX12_bestWay_58 (by decide) ?_
        refine aw_sub [2, 3, 4, 0] rfl ?_
        exact ih a1 h_a1 v2 c_v2 (z_w (v3 + 1)) (z_w_in _) q6.2 hf
      · rw [if_neg h9] at hf
        refine aw_iload_n X 3 dX12_bestWay_30 rfl rfl ?_
        refine aw_iconst X dX12_bestWay_31 ?_
        refine aw_icmp_eq X (tgt := 47) c_v2 (z_lit (x := (-1)) (by decide)) dX12_bestWay_32 (by decide) (fun h10 => ?_) (fun h10 => ?_)
        · rw [if_pos h10] at hf
          refine aw_iload_n X 4 dX12_bestWay_47 rfl rfl ?_
          refine aw_istore_n X [(2, z_i v3), (4, z_i q6.1), (0, .ref (ad 758)), (1, .ref (ad a1)), (3, z_i v3)] dX12_bestWay_48 rfl (by decide) rfl ?_
          refine aw_aload_n X 2 dX12_bestWay_49 rfl rfl ?_
          refine aw_iload X 1 dX12_bestWay_50 rfl ?_
          refine aw_putI X s_758 pX12_447 rfl p8 dX12_bestWay_52 ?_
          refine aw_iinc X 4 [(3, z_i (z_w (v3 + 1))), (2, z_i v3), (4, z_i q6.1), (0, .ref (ad 758)), (1, .ref (ad a1))] dX12_bestWay_55 rfl (by decide) rfl ?_
          refine aw_goto X (tgt := 4) dX12_bestWay_58 (by decide) ?_
          refine aw_sub [3, 4, 1, 0] rfl ?_
          exact ih a1 h_a1 v3 c_v3 (z_w (v3 + 1)) (z_w_in _) (u2 q6.2 758 47 q6.1) hf
        · rw [if_neg h10] at hf
          refine aw_iload X 0 dX12_bestWay_35 rfl ?_
          refine aw_aload_n X 1 dX12_bestWay_37 rfl rfl ?_
          refine aw_getI X s_758 fX12_447 rfl dX12_bestWay_38 (fun c11 => ?_)
          refine aw_icmp_lt X (tgt := 47) p8 c11 dX12_bestWay_41 (by decide) (fun h12 => ?_) (fun h12 => ?_)
          · rw [if_pos h12] at hf
            refine aw_iload_n X 4 dX12_bestWay_47 rfl rfl ?_
            refine aw_istore_n X [(2, z_i v3), (4, z_i q6.1), (0, .ref (ad 758)), (1, .ref (ad a1)), (3, z_i v3)] dX12_bestWay_48 rfl (by decide) rfl ?_
            refine aw_aload_n X 2 dX12_bestWay_49 rfl rfl ?_
            refine aw_iload X 1 dX12_bestWay_50 rfl ?_
            refine aw_putI X s_758 pX12_447 rfl p8 dX12_bestWay_52 ?_
            refine aw_iinc X 4 [(3, z_i (z_w (v3 + 1))), (2, z_i v3), (4, z_i q6.1), (0, .ref (ad 758)), (1, .ref (ad a1))] dX12_bestWay_55 rfl (by decide) rfl ?_
            refine aw_goto X (tgt := 4) dX12_bestWay_58 (by decide) ?_
            refine aw_sub [3, 4, 1, 0] rfl ?_
            exact ih a1 h_a1 v3 c_v3 (z_w (v3 + 1)) (z_w_in _) (u2 q6.2 758 47 q6.1) hf
          · rw [if_neg h12] at hf
            refine aw_goto X (tgt := 55) dX12_bestWay_44 (by decide) ?_
            refine aw_iinc X 4 [(3, z_i (z_w (v3 + 1))), (4, z_i q6.1), (0, .ref (ad 758)), (1, .ref (ad a1)), (2, z_i v2)] dX12_bestWay_55 rfl (by decide) rfl ?_
            refine aw_goto X (tgt := 4) dX12_bestWay_58 (by decide) ?_
            refine aw_sub [2, 3, 4, 0] rfl ?_
            exact ih a1 h_a1 v2 c_v2 (z_w (v3 + 1)) (z_w_in _) q6.2 hf
end S_X12_bestWay
set_option maxHeartbeats 4000000 in
set_option maxRecDepth 100000 in
theorem C_X12_bestWay (l : Launch) (D : va_G) (cA : Nat → ClassId) (sa ad : Nat → Nat) (bs : Nat) (a1 : Nat) (h_a1 : a1 < 788 ∧ SHp a1 = .inr (0, 256, [])) (σ : Nat → Nat → Int) (q : (Int × (Nat → Nat → Int))) (hf : f_X12_bestWay a1 σ = some q) : AM l D cA sa ad bs 788 SHp yX12_bestWay cX12_bestWay 5 (some .int) 5 [.ref (ad 758), .ref (ad a1)] σ (some (z_i q.1)) (Z_I q.1) q.2 := by
  refine am_of (by decide +kernel) (Nat.le_of_ble_eq_true rfl) (fun p e s m args below meth c X hr => ?_)
  refine aw_lv (lv' := [(0, .ref (ad 758)), (1, .ref (ad a1))]) rfl ?_
  unfold f_X12_bestWay at hf
  refine aw_iconst X dX12_bestWay_0 ?_
  refine aw_istore_n X [(2, z_i (-1)), (0, .ref (ad 758)), (1, .ref (ad a1))] dX12_bestWay_1 rfl (by decide) rfl ?_
  refine aw_iconst X dX12_bestWay_2 ?_
  refine aw_istore_n X [(3, z_i 0), (2, z_i (-1)), (0, .ref (ad 758)), (1, .ref (ad a1))] dX12_bestWay_3 rfl (by decide) rfl ?_
  refine aw_sub [2, 3, 1, 0] rfl ?_
  exact A_X12_bestWay_4 X hr 100000 a1 h_a1 (-1) (z_lit (x := (-1)) (by decide)) 0 (z_lit (x := 0) (by decide)) σ hf
-- SpeedDeskModel.wayOf([I)I
section S_X12_wayOf
variable {p : Program} {l : Launch} {e : Env} {s : State} {m : MethodId} {args : Array Value} {below : List Frame} {meth : Method} {c : Code} {D : va_G} {cA : Nat → ClassId} {sa ad : Nat → Nat} {bs : Nat} {q : Int}
set_option maxHeartbeats 4000000 in
set_option maxRecDepth 100000 in
theorem A_X12_wayOf_4 (X : AX p s m args meth c D cA sa bs cX12_wayOf 4 RX12) (hr : meth.sig.returnType = (some .int)) (σ : Nat → Nat → Int) : ∀ (k : Nat) (a1 : Nat) (h_a1 : a1 < 788 ∧ SHp a1 = .inr (0, 256, [])) (v2 : Int) (c_v2 : Z_I v2) (v3 : Int) (c_v3 : Z_I v3), f_X12_wayOf_4 k a1 v2 v3 σ = some q → AW p l e (ax_rm 0 0 0) s m args below meth c D cA ad bs 788 SHp 0 0 (ax_MQ below args s D cA ad bs 788 SHp 0 0 (some (z_i q)) (Z_I q) σ) 4 4 [(0, .ref (ad 758)), (1, .ref (ad a1)), (2, z_i v2), (3, z_i v3)] [] σ := by
  intro k
  induction k with
  | zero =>
    intro a1 h_a1 v2 c_v2 v3 c_v3 hf
    unfold f_X12_wayOf_4 at hf
    cases hf
  | succ k ih =>
    intro a1 h_a1 v2 c_v2 v3 c_v3 hf
    unfold f_X12_wayOf_4 at hf
    refine aw_iload_n X 3 dX12_wayOf_4 rfl rfl ?_
    refine aw_aload_n X 0 dX12_wayOf_5 rfl rfl ?_
    refine aw_getI X s_758 fX12_237 rfl dX12_wayOf_6 (fun c1 => ?_)
    refine aw_icmp_ge X (tgt := 32) c_v3 c1 dX12_wayOf_9 (by decide) (fun h2 => ?_) (fun h2 => ?_)
    · rw [if_pos h2] at hf
      refine aw_iload_n X 2 dX12_wayOf_32 rfl rfl ?_
      obtain rfl := Option.some.inj hf
      exact aw_iret X c_v2 hr rfl dX12_wayOf_33
    · rw [if_neg h2] at hf
      refine aw_iload_n X 2 dX12_wayOf_12 rfl rfl ?_
      refine aw_aload_n X 0 dX12_wayOf_13 rfl rfl ?_
      refine aw_getI X s_758 fX12_240 rfl dX12_wayOf_14 (fun c3 => ?_)
      refine aw_imul X dX12_wayOf_17 ?_
      refine aw_aload_n X 1 dX12_wayOf_18 rfl rfl ?_
      refine aw_bipush X dX12_wayOf_19 (by decide) ?_
      refine aw_iload_n X 3 dX12_wayOf_21 rfl rfl ?_
      refine aw_iadd X dX12_wayOf_22 ?_
      obtain ⟨g4, hf⟩ := z_gd hf
      refine aw_iald X (j := (z_w (21 + v3)).toNat) h_a1 (z_w_in _) g4.1 g4.2 rfl dX12_wayOf_23 (fun c5 => ?_)
      refine aw_iadd X dX12_wayOf_24 ?_
      refine aw_istore_n X [(2, z_i (z_w ((z_w (v2 * (σ 758 25))) + (σ a1 (z_w (21 + v3)).toNat)))), (0, .ref (ad 758)), (1, .ref (ad a1)), (3, z_i v3)] dX12_wayOf_25 rfl (by decide) rfl ?_
      refine aw_iinc X 3 [(3, z_i (z_w (v3 + 1))), (2, z_i (z_w ((z_w (v2 * (σ 758 25))) + (σ a1 (z_w (21 + v3)).toNat)))), (0, .ref (ad 758)), (1, .ref (ad a1))] dX12_wayOf_26 rfl (by decide) rfl ?_
      refine aw_goto X (tgt := 4) dX12_wayOf_29 (by decide) ?_
      refine aw_sub [2, 3, 1, 0] rfl ?_
      exact ih a1 h_a1 (z_w ((z_w (v2 * (σ 758 25))) + (σ a1 (z_w (21 + v3)).toNat))) (z_w_in _) (z_w (v3 + 1)) (z_w_in _) hf
end S_X12_wayOf
set_option maxHeartbeats 4000000 in
set_option maxRecDepth 100000 in
theorem C_X12_wayOf (l : Launch) (D : va_G) (cA : Nat → ClassId) (sa ad : Nat → Nat) (bs : Nat) (a1 : Nat) (h_a1 : a1 < 788 ∧ SHp a1 = .inr (0, 256, [])) (σ : Nat → Nat → Int) (q : Int) (hf : f_X12_wayOf a1 σ = some q) : AM l D cA sa ad bs 788 SHp yX12_wayOf cX12_wayOf 4 (some .int) 0 [.ref (ad 758), .ref (ad a1)] σ (some (z_i q)) (Z_I q) σ := by
  refine am_of (by decide +kernel) (Nat.le_of_ble_eq_true rfl) (fun p e s m args below meth c X hr => ?_)
  refine aw_lv (lv' := [(0, .ref (ad 758)), (1, .ref (ad a1))]) rfl ?_
  unfold f_X12_wayOf at hf
  refine aw_iconst X dX12_wayOf_0 ?_
  refine aw_istore_n X [(2, z_i 0), (0, .ref (ad 758)), (1, .ref (ad a1))] dX12_wayOf_1 rfl (by decide) rfl ?_
  refine aw_iconst X dX12_wayOf_2 ?_
  refine aw_istore_n X [(3, z_i 0), (2, z_i 0), (0, .ref (ad 758)), (1, .ref (ad a1))] dX12_wayOf_3 rfl (by decide) rfl ?_
  refine aw_sub [2, 3, 1, 0] rfl ?_
  exact A_X12_wayOf_4 X hr σ 100000 a1 h_a1 0 (z_lit (x := 0) (by decide)) 0 (z_lit (x := 0) (by decide)) hf
-- SpeedDeskModel.stopsSettling([I)I
section S_X12_stopsSettling
variable {p : Program} {l : Launch} {e : Env} {s : State} {m : MethodId} {args : Array Value} {below : List Frame} {meth : Method} {c : Code} {D : va_G} {cA : Nat → ClassId} {sa ad : Nat → Nat} {bs : Nat} {q : (Int × (Nat → Nat → Int))}

end S_X12_stopsSettling
set_option maxHeartbeats 4000000 in
set_option maxRecDepth 100000 in
theorem C_X12_stopsSettling (l : Launch) (D : va_G) (cA : Nat → ClassId) (sa ad : Nat → Nat) (bs : Nat) (a1 : Nat) (h_a1 : a1 < 788 ∧ SHp a1 = .inr (0, 256, [])) (σ : Nat → Nat → Int) (q : (Int × (Nat → Nat → Int))) (hf : f_X12_stopsSettling a1 σ = some q) : AM l D cA sa ad bs 788 SHp yX12_stopsSettling cX12_stopsSettling 3 (some .int) 6 [.ref (ad 758), .ref (ad a1)] σ (some (z_i q.1)) (Z_I q.1) q.2 := by
  refine am_of (by decide +kernel) (Nat.le_of_ble_eq_true rfl) (fun p e s m args below meth c X hr => ?_)
  refine aw_lv (lv' := [(0, .ref (ad 758)), (1, .ref (ad a1))]) rfl ?_
  unfold f_X12_stopsSettling at hf
  refine aw_aload_n X 0 dX12_stopsSettling_0 rfl rfl ?_
  refine aw_aload_n X 1 dX12_stopsSettling_1 rfl rfl ?_
  obtain ⟨q1, e2, hf⟩ := z_bd hf
  refine aw_callV X [.ref (ad a1)] [] [] cX12_363 s_758 ciX12 (C_X12_laysShares l D cA sa ad bs a1 h_a1 σ q1 e2) rfl ⟨(Nat.le_of_ble_eq_true rfl), (Nat.le_of_ble_eq_true rfl), (Nat.le_of_ble_eq_true rfl), (Nat.le_of_ble_eq_true rfl)⟩ rfl (Nat.le_of_ble_eq_true rfl) rfl dX12_stopsSettling_2 (fun p3 => ?_)
  refine aw_aload_n X 0 dX12_stopsSettling_5 rfl rfl ?_
  refine aw_aload_n X 1 dX12_stopsSettling_6 rfl rfl ?_
  obtain ⟨q4, e5, hf⟩ := z_bd hf
  refine aw_callV X [.ref (ad a1)] [] [z_i q4.1] cX12_367 s_758 ciX12 (C_X12_bestWay l D cA sa ad bs a1 h_a1 q1 q4 e5) rfl ⟨(Nat.le_of_ble_eq_true rfl), (Nat.le_of_ble_eq_true rfl), (Nat.le_of_ble_eq_true rfl), (Nat.le_of_ble_eq_true rfl)⟩ rfl (Nat.le_of_ble_eq_true rfl) rfl dX12_stopsSettling_7 (fun p6 => ?_)
  refine aw_istore_n X [(2, z_i q4.1), (0, .ref (ad 758)), (1, .ref (ad a1))] dX12_stopsSettling_10 rfl (by decide) rfl ?_
  refine aw_iload_n X 0 dX12_stopsSettling_11 rfl rfl ?_
  refine aw_iconst X dX12_stopsSettling_12 ?_
  refine aw_icmp_ne X (tgt := 20) p6 (z_lit (x := (-1)) (by decide)) dX12_stopsSettling_13 (by decide) (fun h7 => ?_) (fun h7 => ?_)
  · rw [if_neg h7] at hf
    refine aw_iload_n X 0 dX12_stopsSettling_20 rfl rfl ?_
    refine aw_aload_n X 1 dX12_stopsSettling_21 rfl rfl ?_
    refine aw_aload_n X 2 dX12_stopsSettling_22 rfl rfl ?_
    obtain ⟨q8, e9, hf⟩ := z_bd hf
    refine aw_callV X [.ref (ad a1)] [z_i q4.1] [z_i q8, z_i q4.1] cX12_370 s_758 ciX12 (C_X12_wayOf l D cA sa ad bs a1 h_a1 q4.2 q8 e9) rfl ⟨(Nat.le_of_ble_eq_true rfl), (Nat.le_of_ble_eq_true rfl), (Nat.le_of_ble_eq_true rfl), (Nat.le_of_ble_eq_true rfl)⟩ rfl (Nat.le_of_ble_eq_true rfl) rfl dX12_stopsSettling_23 (fun p10 => ?_)
    refine aw_icmp_ne X (tgt := 33) p6 p10 dX12_stopsSettling_26 (by decide) (fun h11 => ?_) (fun h11 => ?_)
    · rw [if_neg h11] at hf
      refine aw_iconst X dX12_stopsSettling_33 ?_
      obtain rfl := Option.some.inj hf
      exact aw_iret X (z_lit (x := (-1)) (by decide)) hr rfl dX12_stopsSettling_34
    · rw [if_pos h11] at hf
      refine aw_iconst X dX12_stopsSettling_29 ?_
      refine aw_goto X (tgt := 34) dX12_stopsSettling_30 (by decide) ?_
      obtain rfl := Option.some.inj hf
      exact aw_iret X (z_lit (x := 2) (by decide)) hr rfl dX12_stopsSettling_34
  · rw [if_pos h7] at hf
    refine aw_iconst X dX12_stopsSettling_16 ?_
    refine aw_goto X (tgt := 34) dX12_stopsSettling_17 (by decide) ?_
    obtain rfl := Option.some.inj hf
    exact aw_iret X (z_lit (x := 3) (by decide)) hr rfl dX12_stopsSettling_34
-- SpeedDeskModel.stops([IIIII)I
section S_X12_stops
variable {p : Program} {l : Launch} {e : Env} {s : State} {m : MethodId} {args : Array Value} {below : List Frame} {meth : Method} {c : Code} {D : va_G} {cA : Nat → ClassId} {sa ad : Nat → Nat} {bs : Nat} {q : (Int × (Nat → Nat → Int))}

end S_X12_stops
set_option maxHeartbeats 4000000 in
set_option maxRecDepth 100000 in
theorem C_X12_stops (l : Launch) (D : va_G) (cA : Nat → ClassId) (sa ad : Nat → Nat) (bs : Nat) (a1 : Nat) (h_a1 : a1 < 788 ∧ SHp a1 = .inr (0, 256, [])) (v2 : Int) (c_v2 : Z_I v2) (v3 : Int) (c_v3 : Z_I v3) (v4 : Int) (c_v4 : Z_I v4) (v5 : Int) (c_v5 : Z_I v5) (σ : Nat → Nat → Int) (q : (Int × (Nat → Nat → Int))) (hf : f_X12_stops a1 v2 v3 v4 v5 σ = some q) : AM l D cA sa ad bs 788 SHp yX12_stops cX12_stops 6 (some .int) 7 [.ref (ad 758), .ref (ad a1), z_i v2, z_i v3, z_i v4, z_i v5] σ (some (z_i q.1)) (Z_I q.1) q.2 := by
  refine am_of (by decide +kernel) (Nat.le_of_ble_eq_true rfl) (fun p e s m args below meth c X hr => ?_)
  refine aw_lv (lv' := [(0, .ref (ad 758)), (1, .ref (ad a1)), (2, z_i v2), (3, z_i v3), (4, z_i v4), (5, z_i v5)]) rfl ?_
  unfold f_X12_stops at hf
  refine aw_aload_n X 0 dX12_stops_0 rfl rfl ?_
  refine aw_getI X s_758 fX12_234 rfl dX12_stops_1 (fun c1 => ?_)
  refine aw_if_ne X (tgt := 9) c1 dX12_stops_4 (by decide) (fun h2 => ?_) (fun h2 => ?_)
  · rw [if_neg h2] at hf
    refine aw_iload_n X 2 dX12_stops_9 rfl rfl ?_
    by_cases h3 : v2 = 0
    · rw [if_pos h3] at hf
      refine aw_tabIn X (tgt := 48) c_v2 dX12_stops_10 (by omega) (by omega) (by rw [h3]; rfl) (by decide) ?_
      refine aw_iload_n X 3 dX12_stops_48 rfl rfl ?_
      refine aw_i2l X c_v3 dX12_stops_49 ?_
      refine aw_lconst X (x := 1) dX12_stops_50 (by decide) ?_
      refine aw_ldc2 X (x := 60) dX12_stops_51 kX12_337 (by decide) ?_
      obtain ⟨q4, e5, hf⟩ := z_bd hf
      refine aw_callS X [z_v v3, z_v 1, z_v 60] [] [z_i q4] cX12_156 (C_X12_isIn l D cA sa ad bs v3 (z_IL c_v3) 1 (z_litL (x := 1) (by decide)) 60 (z_litL (x := 60) (by decide)) σ q4 e5) rfl ⟨(Nat.le_of_ble_eq_true rfl), (Nat.le_of_ble_eq_true rfl), (Nat.le_of_ble_eq_true rfl), (Nat.le_of_ble_eq_true rfl)⟩ rfl (Nat.le_of_ble_eq_true rfl) rfl dX12_stops_54 (fun p6 => ?_)
      refine aw_if_ne X (tgt := 64) (z_zI p6) dX12_stops_57 (by decide) (fun h7 => ?_) (fun h7 => ?_)
      · rw [if_neg h7] at hf
        refine aw_aload_n X 1 dX12_stops_64 rfl rfl ?_
        refine aw_bipush X dX12_stops_65 (by decide) ?_
        refine aw_iald X (j := 41) h_a1 (z_lit (x := 41) (by decide)) (by decide) (by decide) rfl dX12_stops_67 (fun c8 => ?_)
        refine aw_iload_n X 3 dX12_stops_68 rfl rfl ?_
        refine aw_iadd X dX12_stops_69 ?_
        refine aw_sipush X dX12_stops_70 (by decide) ?_
        refine aw_icmp_le X (tgt := 80) (z_w_in _) (z_lit (x := 9999) (by decide)) dX12_stops_73 (by decide) (fun h9 => ?_) (fun h9 => ?_)
        · rw [if_pos h9] at hf
          refine aw_iconst X dX12_stops_80 ?_
          obtain rfl := Option.some.inj hf
          exact aw_iret X (z_lit (x := (-1)) (by decide)) hr rfl dX12_stops_81
        · rw [if_neg h9] at hf
          refine aw_iconst X dX12_stops_76 ?_
          refine aw_goto X (tgt := 81) dX12_stops_77 (by decide) ?_
          obtain rfl := Option.some.inj hf
          exact aw_iret X (z_lit (x := 3) (by decide)) hr rfl dX12_stops_81
      · rw [if_pos h7] at hf
        refine aw_iconst X dX12_stops_60 ?_
        refine aw_goto X (tgt := 81) dX12_stops_61 (by decide) ?_
        obtain rfl := Option.some.inj hf
        exact aw_iret X (z_lit (x := 1) (by decide)) hr rfl dX12_stops_81
    rw [if_neg h3] at hf
    by_cases h10 : v2 = 1
    · rw [if_pos h10] at hf
      refine aw_tabIn X (tgt := 82) c_v2 dX12_stops_10 (by omega) (by omega) (by rw [h10]; rfl) (by decide) ?_
      refine aw_aload_n X 0 dX12_stops_82 rfl rfl ?_
      refine aw_iload_n X 3 dX12_stops_83 rfl rfl ?_
      obtain ⟨q11, e12, hf⟩ := z_bd hf
      refine aw_callV X [z_i v3] [] [z_i q11] cX12_339 s_758 ciX12 (C_X12_isTask l D cA sa ad bs v3 c_v3 σ q11 e12) rfl ⟨(Nat.le_of_ble_eq_true rfl), (Nat.le_of_ble_eq_true rfl), (Nat.le_of_ble_eq_true rfl), (Nat.le_of_ble_eq_true rfl)⟩ rfl (Nat.le_of_ble_eq_true rfl) rfl dX12_stops_84 (fun p13 => ?_)
      refine aw_if_eq X (tgt := 99) (z_zI p13) dX12_stops_87 (by decide) (fun h14 => ?_) (fun h14 => ?_)
      · rw [if_pos h14] at hf
        refine aw_iconst X dX12_stops_99 ?_
        refine aw_goto X (tgt := 119) dX12_stops_100 (by decide) ?_
        obtain rfl := Option.some.inj hf
        exact aw_iret X (z_lit (x := 0) (by decide)) hr rfl dX12_stops_119
      · rw [if_neg h14] at hf
        refine aw_aload_n X 0 dX12_stops_90 rfl rfl ?_
        refine aw_iload X 4 dX12_stops_91 rfl ?_
        obtain ⟨q15, e16, hf⟩ := z_bd hf
        refine aw_callV X [z_i v4] [] [z_i q15] cX12_343 s_758 ciX12 (C_X12_isCore l D cA sa ad bs v4 c_v4 σ q15 e16) rfl ⟨(Nat.le_of_ble_eq_true rfl), (Nat.le_of_ble_eq_true rfl), (Nat.le_of_ble_eq_true rfl), (Nat.le_of_ble_eq_true rfl)⟩ rfl (Nat.le_of_ble_eq_true rfl) rfl dX12_stops_93 (fun p17 => ?_)
        refine aw_if_ne X (tgt := 103) (z_zI p17) dX12_stops_96 (by decide) (fun h18 => ?_) (fun h18 => ?_)
        · rw [if_neg h18] at hf
          refine aw_aload_n X 1 dX12_stops_103 rfl rfl ?_
          refine aw_bipush X dX12_stops_104 (by decide) ?_
          refine aw_iload_n X 3 dX12_stops_106 rfl rfl ?_
          refine aw_iadd X dX12_stops_107 ?_
          obtain ⟨g19, hf⟩ := z_gd hf
          refine aw_iald X (j := (z_w (21 + v3)).toNat) h_a1 (z_w_in _) g19.1 g19.2 rfl dX12_stops_108 (fun c20 => ?_)
          refine aw_iload X 4 dX12_stops_109 rfl ?_
          refine aw_icmp_ne X (tgt := 118) c20 c_v4 dX12_stops_111 (by decide) (fun h21 => ?_) (fun h21 => ?_)
          · rw [if_neg h21] at hf
            refine aw_iconst X dX12_stops_118 ?_
            obtain rfl := Option.some.inj hf
            exact aw_iret X (z_lit (x := (-1)) (by decide)) hr rfl dX12_stops_119
          · rw [if_pos h21] at hf
            refine aw_iconst X dX12_stops_114 ?_
            refine aw_goto X (tgt := 119) dX12_stops_115 (by decide) ?_
            obtain rfl := Option.some.inj hf
            exact aw_iret X (z_lit (x := 2) (by decide)) hr rfl dX12_stops_119
        · rw [if_pos h18] at hf
          refine aw_iconst X dX12_stops_99 ?_
          refine aw_goto X (tgt := 119) dX12_stops_100 (by decide) ?_
          obtain rfl := Option.some.inj hf
          exact aw_iret X (z_lit (x := 0) (by decide)) hr rfl dX12_stops_119
    rw [if_neg h10] at hf
    by_cases h22 : v2 = 2
    · rw [if_pos h22] at hf
      refine aw_tabIn X (tgt := 120) c_v2 dX12_stops_10 (by omega) (by omega) (by rw [h22]; rfl) (by decide) ?_
      refine aw_aload_n X 0 dX12_stops_120 rfl rfl ?_
      refine aw_aload_n X 1 dX12_stops_121 rfl rfl ?_
      refine aw_iload_n X 3 dX12_stops_122 rfl rfl ?_
      refine aw_iload X 4 dX12_stops_123 rfl ?_
      refine aw_iload X 5 dX12_stops_125 rfl ?_
      obtain ⟨q23, e24, hf⟩ := z_bd hf
      refine aw_callV X [.ref (ad a1), z_i v3, z_i v4, z_i v5] [] [z_i q23] cX12_346 s_758 ciX12 (C_X12_stopsAsking l D cA sa ad bs a1 h_a1 v3 c_v3 v4 c_v4 v5 c_v5 σ q23 e24) rfl ⟨(Nat.le_of_ble_eq_true rfl), (Nat.le_of_ble_eq_true rfl), (Nat.le_of_ble_eq_true rfl), (Nat.le_of_ble_eq_true rfl)⟩ rfl (Nat.le_of_ble_eq_true rfl) rfl dX12_stops_127 (fun p25 => ?_)
      obtain rfl := Option.some.inj hf
      exact aw_iret X p25 hr rfl dX12_stops_130
    rw [if_neg h22] at hf
    by_cases h26 : v2 = 3
    · rw [if_pos h26] at hf
      refine aw_tabIn X (tgt := 131) c_v2 dX12_stops_10 (by omega) (by omega) (by rw [h26]; rfl) (by decide) ?_
      refine aw_aload_n X 0 dX12_stops_131 rfl rfl ?_
      refine aw_iload_n X 3 dX12_stops_132 rfl rfl ?_
      obtain ⟨q27, e28, hf⟩ := z_bd hf
      refine aw_callV X [z_i v3] [] [z_i q27] cX12_350 s_758 ciX12 (C_X12_isCluster l D cA sa ad bs v3 c_v3 σ q27 e28) rfl ⟨(Nat.le_of_ble_eq_true rfl), (Nat.le_of_ble_eq_true rfl), (Nat.le_of_ble_eq_true rfl), (Nat.le_of_ble_eq_true rfl)⟩ rfl (Nat.le_of_ble_eq_true rfl) rfl dX12_stops_133 (fun p29 => ?_)
      refine aw_if_ne X (tgt := 143) (z_zI p29) dX12_stops_136 (by decide) (fun h30 => ?_) (fun h30 => ?_)
      · rw [if_neg h30] at hf
        refine aw_aload_n X 1 dX12_stops_143 rfl rfl ?_
        refine aw_aload_n X 0 dX12_stops_144 rfl rfl ?_
        refine aw_getL X s_758 fX12_353 rfl dX12_stops_145 (fun c31 => ?_)
        refine aw_iload_n X 3 dX12_stops_148 rfl rfl ?_
        obtain ⟨q32, e33, hf⟩ := z_bd hf
        refine aw_callS X [.ref (ad a1), z_v (σ 758 41), z_i v3] [] [z_i q32] cX12_356 (C_X12_askOf l D cA sa ad bs a1 h_a1 (σ 758 41) c31 v3 c_v3 σ q32 e33) rfl ⟨(Nat.le_of_ble_eq_true rfl), (Nat.le_of_ble_eq_true rfl), (Nat.le_of_ble_eq_true rfl), (Nat.le_of_ble_eq_true rfl)⟩ rfl (Nat.le_of_ble_eq_true rfl) rfl dX12_stops_149 (fun p34 => ?_)
        refine aw_iconst X dX12_stops_152 ?_
        refine aw_icmp_ne X (tgt := 160) p34 (z_lit (x := (-1)) (by decide)) dX12_stops_153 (by decide) (fun h35 => ?_) (fun h35 => ?_)
        · rw [if_neg h35] at hf
          refine aw_iconst X dX12_stops_160 ?_
          obtain rfl := Option.some.inj hf
          exact aw_iret X (z_lit (x := (-1)) (by decide)) hr rfl dX12_stops_161
        · rw [if_pos h35] at hf
          refine aw_iconst X dX12_stops_156 ?_
          refine aw_goto X (tgt := 161) dX12_stops_157 (by decide) ?_
          obtain rfl := Option.some.inj hf
          exact aw_iret X (z_lit (x := 2) (by decide)) hr rfl dX12_stops_161
      · rw [if_pos h30] at hf
        refine aw_iconst X dX12_stops_139 ?_
        refine aw_goto X (tgt := 161) dX12_stops_140 (by decide) ?_
        obtain rfl := Option.some.inj hf
        exact aw_iret X (z_lit (x := 0) (by decide)) hr rfl dX12_stops_161
    rw [if_neg h26] at hf
    by_cases h36 : v2 = 4
    · rw [if_pos h36] at hf
      refine aw_tabIn X (tgt := 162) c_v2 dX12_stops_10 (by omega) (by omega) (by rw [h36]; rfl) (by decide) ?_
      refine aw_aload_n X 0 dX12_stops_162 rfl rfl ?_
      refine aw_iload_n X 3 dX12_stops_163 rfl rfl ?_
      obtain ⟨q37, e38, hf⟩ := z_bd hf
      refine aw_callV X [z_i v3] [] [z_i q37] cX12_339 s_758 ciX12 (C_X12_isTask l D cA sa ad bs v3 c_v3 σ q37 e38) rfl ⟨(Nat.le_of_ble_eq_true rfl), (Nat.le_of_ble_eq_true rfl), (Nat.le_of_ble_eq_true rfl), (Nat.le_of_ble_eq_true rfl)⟩ rfl (Nat.le_of_ble_eq_true rfl) rfl dX12_stops_164 (fun p39 => ?_)
      refine aw_if_ne X (tgt := 174) (z_zI p39) dX12_stops_167 (by decide) (fun h40 => ?_) (fun h40 => ?_)
      · rw [if_neg h40] at hf
        refine aw_aload_n X 1 dX12_stops_174 rfl rfl ?_
        refine aw_bipush X dX12_stops_175 (by decide) ?_
        refine aw_iload_n X 3 dX12_stops_177 rfl rfl ?_
        refine aw_iadd X dX12_stops_178 ?_
        obtain ⟨g41, hf⟩ := z_gd hf
        refine aw_iald X (j := (z_w (37 + v3)).toNat) h_a1 (z_w_in _) g41.1 g41.2 rfl dX12_stops_179 (fun c42 => ?_)
        refine aw_iconst X dX12_stops_180 ?_
        refine aw_icmp_ne X (tgt := 188) c42 (z_lit (x := 1) (by decide)) dX12_stops_181 (by decide) (fun h43 => ?_) (fun h43 => ?_)
        · rw [if_neg h43] at hf
          refine aw_iconst X dX12_stops_188 ?_
          obtain rfl := Option.some.inj hf
          exact aw_iret X (z_lit (x := (-1)) (by decide)) hr rfl dX12_stops_189
        · rw [if_pos h43] at hf
          refine aw_iconst X dX12_stops_184 ?_
          refine aw_goto X (tgt := 189) dX12_stops_185 (by decide) ?_
          obtain rfl := Option.some.inj hf
          exact aw_iret X (z_lit (x := 2) (by decide)) hr rfl dX12_stops_189
      · rw [if_pos h40] at hf
        refine aw_iconst X dX12_stops_170 ?_
        refine aw_goto X (tgt := 189) dX12_stops_171 (by decide) ?_
        obtain rfl := Option.some.inj hf
        exact aw_iret X (z_lit (x := 0) (by decide)) hr rfl dX12_stops_189
    rw [if_neg h36] at hf
    by_cases h44 : v2 = 5
    · rw [if_pos h44] at hf
      refine aw_tabIn X (tgt := 190) c_v2 dX12_stops_10 (by omega) (by omega) (by rw [h44]; rfl) (by decide) ?_
      refine aw_aload_n X 0 dX12_stops_190 rfl rfl ?_
      refine aw_iload_n X 3 dX12_stops_191 rfl rfl ?_
      obtain ⟨q45, e46, hf⟩ := z_bd hf
      refine aw_callV X [z_i v3] [] [z_i q45] cX12_339 s_758 ciX12 (C_X12_isTask l D cA sa ad bs v3 c_v3 σ q45 e46) rfl ⟨(Nat.le_of_ble_eq_true rfl), (Nat.le_of_ble_eq_true rfl), (Nat.le_of_ble_eq_true rfl), (Nat.le_of_ble_eq_true rfl)⟩ rfl (Nat.le_of_ble_eq_true rfl) rfl dX12_stops_192 (fun p47 => ?_)
      refine aw_if_ne X (tgt := 202) (z_zI p47) dX12_stops_195 (by decide) (fun h48 => ?_) (fun h48 => ?_)
      · rw [if_neg h48] at hf
        refine aw_aload_n X 1 dX12_stops_202 rfl rfl ?_
        refine aw_bipush X dX12_stops_203 (by decide) ?_
        refine aw_iload_n X 3 dX12_stops_205 rfl rfl ?_
        refine aw_iadd X dX12_stops_206 ?_
        obtain ⟨g49, hf⟩ := z_gd hf
        refine aw_iald X (j := (z_w (37 + v3)).toNat) h_a1 (z_w_in _) g49.1 g49.2 rfl dX12_stops_207 (fun c50 => ?_)
        refine aw_if_ne X (tgt := 215) c50 dX12_stops_208 (by decide) (fun h51 => ?_) (fun h51 => ?_)
        · rw [if_neg h51] at hf
          refine aw_iconst X dX12_stops_215 ?_
          obtain rfl := Option.some.inj hf
          exact aw_iret X (z_lit (x := (-1)) (by decide)) hr rfl dX12_stops_216
        · rw [if_pos h51] at hf
          refine aw_iconst X dX12_stops_211 ?_
          refine aw_goto X (tgt := 216) dX12_stops_212 (by decide) ?_
          obtain rfl := Option.some.inj hf
          exact aw_iret X (z_lit (x := 2) (by decide)) hr rfl dX12_stops_216
      · rw [if_pos h48] at hf
        refine aw_iconst X dX12_stops_198 ?_
        refine aw_goto X (tgt := 216) dX12_stops_199 (by decide) ?_
        obtain rfl := Option.some.inj hf
        exact aw_iret X (z_lit (x := 0) (by decide)) hr rfl dX12_stops_216
    rw [if_neg h44] at hf
    refine aw_tabOut X (tgt := 217) c_v2 dX12_stops_10 (by omega) (by decide) ?_
    refine aw_aload_n X 0 dX12_stops_217 rfl rfl ?_
    refine aw_aload_n X 1 dX12_stops_218 rfl rfl ?_
    obtain ⟨q52, e53, hf⟩ := z_bd hf
    refine aw_callV X [.ref (ad a1)] [] [z_i q52.1] cX12_360 s_758 ciX12 (C_X12_stopsSettling l D cA sa ad bs a1 h_a1 σ q52 e53) rfl ⟨(Nat.le_of_ble_eq_true rfl), (Nat.le_of_ble_eq_true rfl), (Nat.le_of_ble_eq_true rfl), (Nat.le_of_ble_eq_true rfl)⟩ rfl (Nat.le_of_ble_eq_true rfl) rfl dX12_stops_219 (fun p54 => ?_)
    obtain rfl := Option.some.inj hf
    exact aw_iret X p54 hr rfl dX12_stops_222
  · rw [if_pos h2] at hf
    refine aw_iconst X dX12_stops_7 ?_
    obtain rfl := Option.some.inj hf
    exact aw_iret X (z_lit (x := 0) (by decide)) hr rfl dX12_stops_8
-- SpeedDeskModel.asksAs([IIII)V
section S_X12_asksAs
variable {p : Program} {l : Launch} {e : Env} {s : State} {m : MethodId} {args : Array Value} {below : List Frame} {meth : Method} {c : Code} {D : va_G} {cA : Nat → ClassId} {sa ad : Nat → Nat} {bs : Nat} {q : (Nat → Nat → Int)}
set_option maxHeartbeats 4000000 in
set_option maxRecDepth 100000 in
theorem A_X12_asksAs_72 (X : AX p s m args meth c D cA sa bs cX12_asksAs 6 RX12) (hr : meth.sig.returnType = none) (a1 : Nat) (h_a1 : a1 < 788 ∧ SHp a1 = .inr (0, 256, [])) (v3 : Int) (c_v3 : Z_I v3) (v4 : Int) (c_v4 : Z_I v4) (v5 : Int) (c_v5 : Z_I v5) (σ : Nat → Nat → Int) (hf : f_X12_asksAs_72 a1 v3 v4 v5 σ = some q) : AW p l e (ax_rm 2 0 0) s m args below meth c D cA ad bs 788 SHp 0 0 (ax_MQ below args s D cA ad bs 788 SHp 0 0 none True q) 6 72 [(0, .ref (ad 758)), (1, .ref (ad a1)), (3, z_i v3), (4, z_i v4), (5, z_i v5)] [] σ := by
  unfold f_X12_asksAs_72 at hf
  refine aw_aload_n X 1 dX12_asksAs_72 rfl rfl ?_
  refine aw_bipush X dX12_asksAs_73 (by decide) ?_
  refine aw_iconst X dX12_asksAs_75 ?_
  refine aw_iload X 4 dX12_asksAs_76 rfl ?_
  refine aw_imul X dX12_asksAs_78 ?_
  refine aw_iadd X dX12_asksAs_79 ?_
  refine aw_iload_n X 2 dX12_asksAs_80 rfl rfl ?_
  obtain ⟨g13, hf⟩ := z_gd hf
  refine aw_iast X (j := (z_w (48 + (z_w (5 * v5)))).toNat) h_a1 (z_w_in _) g13.1 g13.2 rfl c_v3 dX12_asksAs_81 ?_
  refine aw_aload_n X 1 dX12_asksAs_82 rfl rfl ?_
  refine aw_bipush X dX12_asksAs_83 (by decide) ?_
  refine aw_iconst X dX12_asksAs_85 ?_
  refine aw_iload X 4 dX12_asksAs_86 rfl ?_
  refine aw_imul X dX12_asksAs_88 ?_
  refine aw_iadd X dX12_asksAs_89 ?_
  refine aw_iload X 3 dX12_asksAs_90 rfl ?_
  obtain ⟨g14, hf⟩ := z_gd hf
  refine aw_iast X (j := (z_w (49 + (z_w (5 * v5)))).toNat) h_a1 (z_w_in _) g14.1 g14.2 rfl c_v4 dX12_asksAs_92 ?_
  refine aw_aload_n X 0 dX12_asksAs_93 rfl rfl ?_
  refine aw_iload X 4 dX12_asksAs_94 rfl ?_
  refine aw_putI X s_758 pX12_373 rfl c_v5 dX12_asksAs_96 ?_
  obtain rfl := Option.some.inj hf
  exact aw_vret X trivial hr rfl dX12_asksAs_99
end S_X12_asksAs
set_option maxHeartbeats 4000000 in
set_option maxRecDepth 100000 in
theorem C_X12_asksAs (l : Launch) (D : va_G) (cA : Nat → ClassId) (sa ad : Nat → Nat) (bs : Nat) (a1 : Nat) (h_a1 : a1 < 788 ∧ SHp a1 = .inr (0, 256, [])) (v2 : Int) (c_v2 : Z_I v2) (v3 : Int) (c_v3 : Z_I v3) (v4 : Int) (c_v4 : Z_I v4) (σ : Nat → Nat → Int) (q : (Nat → Nat → Int)) (hf : f_X12_asksAs a1 v2 v3 v4 σ = some q) : AM l D cA sa ad bs 788 SHp yX12_asksAs cX12_asksAs 6 none 2 [.ref (ad 758), .ref (ad a1), z_i v2, z_i v3, z_i v4] σ none True q := by
  refine am_of (by decide +kernel) (Nat.le_of_ble_eq_true rfl) (fun p e s m args below meth c X hr => ?_)
  refine aw_lv (lv' := [(0, .ref (ad 758)), (1, .ref (ad a1)), (2, z_i v2), (3, z_i v3), (4, z_i v4)]) rfl ?_
  unfold f_X12_asksAs at hf
  refine aw_aload_n X 1 dX12_asksAs_0 rfl rfl ?_
  refine aw_aload_n X 0 dX12_asksAs_1 rfl rfl ?_
  refine aw_getL X s_758 fX12_353 rfl dX12_asksAs_2 (fun c1 => ?_)
  refine aw_iload_n X 2 dX12_asksAs_5 rfl rfl ?_
  obtain ⟨q2, e3, hf⟩ := z_bd hf
  refine aw_callS X [.ref (ad a1), z_v (σ 758 41), z_i v2] [] [z_i q2] cX12_356 (C_X12_askOf l D cA sa ad bs a1 h_a1 (σ 758 41) c1 v2 c_v2 σ q2 e3) rfl ⟨(Nat.le_of_ble_eq_true rfl), (Nat.le_of_ble_eq_true rfl), (Nat.le_of_ble_eq_true rfl), (Nat.le_of_ble_eq_true rfl)⟩ rfl (Nat.le_of_ble_eq_true rfl) rfl dX12_asksAs_6 (fun p4 => ?_)
  refine aw_istore X [(5, z_i q2), (0, .ref (ad 758)), (1, .ref (ad a1)), (2, z_i v2), (3, z_i v3), (4, z_i v4)] dX12_asksAs_9 (by decide) rfl ?_
  refine aw_iload X 0 dX12_asksAs_11 rfl ?_
  refine aw_iconst X dX12_asksAs_13 ?_
  refine aw_icmp_ne X (tgt := 72) p4 (z_lit (x := (-1)) (by decide)) dX12_asksAs_14 (by decide) (fun h5 => ?_) (fun h5 => ?_)
  · rw [if_neg h5] at hf
    refine aw_sub [1, 2, 4, 5, 0] rfl ?_
    exact A_X12_asksAs_72 X hr a1 h_a1 v3 c_v3 v4 c_v4 q2 p4 σ hf
  · rw [if_pos h5] at hf
    refine aw_aload_n X 2 dX12_asksAs_17 rfl rfl ?_
    refine aw_bipush X dX12_asksAs_18 (by decide) ?_
    refine aw_iald X (j := 44) h_a1 (z_lit (x := 44) (by decide)) (by decide) (by decide) rfl dX12_asksAs_20 (fun c6 => ?_)
    refine aw_istore X [(5, z_i (σ a1 44)), (0, .ref (ad 758)), (1, .ref (ad a1)), (2, z_i v2), (3, z_i v3), (4, z_i v4)] dX12_asksAs_21 (by decide) rfl ?_
    refine aw_aload_n X 2 dX12_asksAs_23 rfl rfl ?_
    refine aw_bipush X dX12_asksAs_24 (by decide) ?_
    refine aw_dup2 X dX12_asksAs_26 rfl rfl ?_
    refine aw_iald X (j := 44) h_a1 (z_lit (x := 44) (by decide)) (by decide) (by decide) rfl dX12_asksAs_27 (fun c7 => ?_)
    refine aw_iconst X dX12_asksAs_28 ?_
    refine aw_iadd X dX12_asksAs_29 ?_
    refine aw_iast X (j := 44) h_a1 (z_lit (x := 44) (by decide)) (by decide) (by decide) rfl (z_w_in _) dX12_asksAs_30 ?_
    refine aw_aload_n X 2 dX12_asksAs_31 rfl rfl ?_
    refine aw_bipush X dX12_asksAs_32 (by decide) ?_
    refine aw_iconst X dX12_asksAs_34 ?_
    refine aw_iload X 0 dX12_asksAs_35 rfl ?_
    refine aw_imul X dX12_asksAs_37 ?_
    refine aw_iadd X dX12_asksAs_38 ?_
    refine aw_aload_n X 1 dX12_asksAs_39 rfl rfl ?_
    refine aw_getL X s_758 fX12_353 rfl dX12_asksAs_40 (fun c8 => ?_)
    refine aw_bipush X dX12_asksAs_43 (by decide) ?_
    refine aw_lshr X dX12_asksAs_45 ?_
    refine aw_l2i X dX12_asksAs_46 ?_
    obtain ⟨g9, hf⟩ := z_gd hf
    refine aw_iast X (j := (z_w (45 + (z_w (5 * (σ a1 44))))).toNat) h_a1 (z_w_in _) g9.1 g9.2 rfl (z_w_in _) dX12_asksAs_47 ?_
    refine aw_aload_n X 2 dX12_asksAs_48 rfl rfl ?_
    refine aw_bipush X dX12_asksAs_49 (by decide) ?_
    refine aw_iconst X dX12_asksAs_51 ?_
    refine aw_iload X 0 dX12_asksAs_52 rfl ?_
    refine aw_imul X dX12_asksAs_54 ?_
    refine aw_iadd X dX12_asksAs_55 ?_
    refine aw_aload_n X 1 dX12_asksAs_56 rfl rfl ?_
    refine aw_getL X s_758 fX12_353 rfl dX12_asksAs_57 (fun c10 => ?_)
    refine aw_l2i X dX12_asksAs_60 ?_
    obtain ⟨g11, hf⟩ := z_gd hf
    refine aw_iast X (j := (z_w (46 + (z_w (5 * (σ a1 44))))).toNat) h_a1 (z_w_in _) g11.1 g11.2 rfl (z_w_in _) dX12_asksAs_61 ?_
    refine aw_aload_n X 2 dX12_asksAs_62 rfl rfl ?_
    refine aw_bipush X dX12_asksAs_63 (by decide) ?_
    refine aw_iconst X dX12_asksAs_65 ?_
    refine aw_iload X 0 dX12_asksAs_66 rfl ?_
    refine aw_imul X dX12_asksAs_68 ?_
    refine aw_iadd X dX12_asksAs_69 ?_
    refine aw_iload_n X 3 dX12_asksAs_70 rfl rfl ?_
    obtain ⟨g12, hf⟩ := z_gd hf
    refine aw_iast X (j := (z_w (47 + (z_w (5 * (σ a1 44))))).toNat) h_a1 (z_w_in _) g12.1 g12.2 rfl c_v2 dX12_asksAs_71 ?_
    refine aw_sub [1, 2, 4, 5, 0] rfl ?_
    exact A_X12_asksAs_72 X hr a1 h_a1 v3 c_v3 v4 c_v4 (σ a1 44) c6 (u2 (u2 (u2 (u2 σ a1 44 (z_w ((σ a1 44) + 1))) a1 (z_w (45 + (z_w (5 * (σ a1 44))))).toNat (z_w (z_shrL ((u2 σ a1 44 (z_w ((σ a1 44) + 1))) 758 41) 32))) a1 (z_w (46 + (z_w (5 * (σ a1 44))))).toNat (z_w ((u2 (u2 σ a1 44 (z_w ((σ a1 44) + 1))) a1 (z_w (45 + (z_w (5 * (σ a1 44))))).toNat (z_w (z_shrL ((u2 σ a1 44 (z_w ((σ a1 44) + 1))) 758 41) 32))) 758 41))) a1 (z_w (47 + (z_w (5 * (σ a1 44))))).toNat v2) hf
-- SpeedDeskModel.settles([I)V
section S_X12_settles
variable {p : Program} {l : Launch} {e : Env} {s : State} {m : MethodId} {args : Array Value} {below : List Frame} {meth : Method} {c : Code} {D : va_G} {cA : Nat → ClassId} {sa ad : Nat → Nat} {bs : Nat} {q : (Nat → Nat → Int)}
set_option maxHeartbeats 4000000 in
set_option maxRecDepth 100000 in
theorem A_X12_settles_55 (X : AX p s m args meth c D cA sa bs cX12_settles 5 RX12) (hr : meth.sig.returnType = none) (K18 : Nat → Int → Int → (Nat → Nat → Int) → Option (Nat → Nat → Int)) (hK18 : ∀ (a1 : Nat) (h_a1 : a1 < 788 ∧ SHp a1 = .inr (0, 256, [])) (v2 : Int) (c_v2 : Z_I v2) (v3 : Int) (c_v3 : Z_I v3) (σ : Nat → Nat → Int), K18 a1 v2 v3 σ = some q → AW p l e (ax_rm 6 0 0) s m args below meth c D cA ad bs 788 SHp 0 0 (ax_MQ below args s D cA ad bs 788 SHp 0 0 none True q) 5 18 [(0, .ref (ad 758)), (1, .ref (ad a1)), (2, z_i v2), (3, z_i v3)] [] σ) (a1 : Nat) (h_a1 : a1 < 788 ∧ SHp a1 = .inr (0, 256, [])) (v2 : Int) (c_v2 : Z_I v2) (v3 : Int) (c_v3 : Z_I v3) (v4 : Int) (c_v4 : Z_I v4) (t0 : Int) (c_t0 : Z_I t0) (t1 : Int) (c_t1 : Z_I t1) (σ : Nat → Nat → Int) (hf : f_X12_settles_55 K18 a1 v2 v3 v4 t0 t1 σ = some q) : AW p l e (ax_rm 6 0 0) s m args below meth c D cA ad bs 788 SHp 0 0 (ax_MQ below args s D cA ad bs 788 SHp 0 0 none True q) 5 55 [(0, .ref (ad 758)), (1, .ref (ad a1)), (2, z_i v2), (3, z_i v3), (4, z_i v4)] [z_i t0, z_i t1, .ref (ad 758)] σ := by
  unfold f_X12_settles_55 at hf
  refine aw_iadd X dX12_settles_55 ?_
  refine aw_putI X s_758 pX12_373 rfl (z_w_in _) dX12_settles_56 ?_
  refine aw_aload_n X 1 dX12_settles_59 rfl rfl ?_
  refine aw_bipush X dX12_settles_60 (by decide) ?_
  refine aw_iload_n X 3 dX12_settles_62 rfl rfl ?_
  refine aw_iadd X dX12_settles_63 ?_
  refine aw_iload X 4 dX12_settles_64 rfl ?_
  obtain ⟨g16, hf⟩ := z_gd hf
  refine aw_iast X (j := (z_w (21 + v3)).toNat) h_a1 (z_w_in _) g16.1 g16.2 rfl c_v4 dX12_settles_66 ?_
  refine aw_iinc X 3 [(3, z_i (z_w (v3 + 1))), (0, .ref (ad 758)), (1, .ref (ad a1)), (2, z_i v2), (4, z_i v4)] dX12_settles_67 rfl (by decide) rfl ?_
  refine aw_goto X (tgt := 18) dX12_settles_70 (by decide) ?_
  refine aw_sub [1, 2, 3, 0] rfl ?_
  exact hK18 a1 h_a1 v2 c_v2 (z_w (v3 + 1)) (z_w_in _) (u2 (u2 σ 758 42 (z_w (t1 + t0))) a1 (z_w (21 + v3)).toNat v4) hf
set_option maxHeartbeats 4000000 in
set_option maxRecDepth 100000 in
theorem A_X12_settles_18 (X : AX p s m args meth c D cA sa bs cX12_settles 5 RX12) (hr : meth.sig.returnType = none) : ∀ (k : Nat) (a1 : Nat) (h_a1 : a1 < 788 ∧ SHp a1 = .inr (0, 256, [])) (v2 : Int) (c_v2 : Z_I v2) (v3 : Int) (c_v3 : Z_I v3) (σ : Nat → Nat → Int), f_X12_settles_18 k a1 v2 v3 σ = some q → AW p l e (ax_rm 6 0 0) s m args below meth c D cA ad bs 788 SHp 0 0 (ax_MQ below args s D cA ad bs 788 SHp 0 0 none True q) 5 18 [(0, .ref (ad 758)), (1, .ref (ad a1)), (2, z_i v2), (3, z_i v3)] [] σ := by
  intro k
  induction k with
  | zero =>
    intro a1 h_a1 v2 c_v2 v3 c_v3 σ hf
    unfold f_X12_settles_18 at hf
    cases hf
  | succ k ih =>
    intro a1 h_a1 v2 c_v2 v3 c_v3 σ hf
    unfold f_X12_settles_18 at hf
    refine aw_iload_n X 3 dX12_settles_18 rfl rfl ?_
    refine aw_aload_n X 0 dX12_settles_19 rfl rfl ?_
    refine aw_getI X s_758 fX12_237 rfl dX12_settles_20 (fun c7 => ?_)
    refine aw_icmp_ge X (tgt := 73) c_v3 c7 dX12_settles_23 (by decide) (fun h8 => ?_) (fun h8 => ?_)
    · rw [if_pos h8] at hf
      obtain rfl := Option.some.inj hf
      exact aw_vret X trivial hr rfl dX12_settles_73
    · rw [if_neg h8] at hf
      refine aw_aload_n X 0 dX12_settles_26 rfl rfl ?_
      refine aw_iload_n X 2 dX12_settles_27 rfl rfl ?_
      refine aw_iload_n X 3 dX12_settles_28 rfl rfl ?_
      obtain ⟨q9, e10, hf⟩ := z_bd hf
      refine aw_callV X [z_i v2, z_i v3] [] [z_i q9] cX12_386 s_758 ciX12 (C_X12_coreIn l D cA sa ad bs v2 c_v2 v3 c_v3 σ q9 e10) rfl ⟨(Nat.le_of_ble_eq_true rfl), (Nat.le_of_ble_eq_true rfl), (Nat.le_of_ble_eq_true rfl), (Nat.le_of_ble_eq_true rfl)⟩ rfl (Nat.le_of_ble_eq_true rfl) rfl dX12_settles_29 (fun p11 => ?_)
      refine aw_istore X [(4, z_i q9), (0, .ref (ad 758)), (1, .ref (ad a1)), (2, z_i v2), (3, z_i v3)] dX12_settles_32 (by decide) rfl ?_
      refine aw_aload_n X 1 dX12_settles_34 rfl rfl ?_
      refine aw_dup X dX12_settles_35 rfl ?_
      refine aw_getI X s_758 fX12_373 rfl dX12_settles_36 (fun c12 => ?_)
      refine aw_aload_n X 2 dX12_settles_39 rfl rfl ?_
      refine aw_bipush X dX12_settles_40 (by decide) ?_
      refine aw_iload_n X 4 dX12_settles_42 rfl rfl ?_
      refine aw_iadd X dX12_settles_43 ?_
      obtain ⟨g13, hf⟩ := z_gd hf
      refine aw_iald X (j := (z_w (21 + v3)).toNat) h_a1 (z_w_in _) g13.1 g13.2 rfl dX12_settles_44 (fun c14 => ?_)
      refine aw_iload X 0 dX12_settles_45 rfl ?_
      refine aw_icmp_ne X (tgt := 54) c14 p11 dX12_settles_47 (by decide) (fun h15 => ?_) (fun h15 => ?_)
      · simp only [if_neg h15] at hf
        refine aw_iconst X dX12_settles_54 ?_
        refine aw_sub [1, 2, 3, 4, 0] rfl ?_
        exact A_X12_settles_55 X hr (f_X12_settles_18 k) ih a1 h_a1 v2 c_v2 v3 c_v3 q9 p11 1 (z_lit (x := 1) (by decide)) (σ 758 42) c12 σ hf
      · simp only [if_pos h15] at hf
        refine aw_iconst X dX12_settles_50 ?_
        refine aw_goto X (tgt := 55) dX12_settles_51 (by decide) ?_
        refine aw_sub [1, 2, 3, 4, 0] rfl ?_
        exact A_X12_settles_55 X hr (f_X12_settles_18 k) ih a1 h_a1 v2 c_v2 v3 c_v3 q9 p11 0 (z_lit (x := 0) (by decide)) (σ 758 42) c12 σ hf
end S_X12_settles
set_option maxHeartbeats 4000000 in
set_option maxRecDepth 100000 in
theorem C_X12_settles (l : Launch) (D : va_G) (cA : Nat → ClassId) (sa ad : Nat → Nat) (bs : Nat) (a1 : Nat) (h_a1 : a1 < 788 ∧ SHp a1 = .inr (0, 256, [])) (σ : Nat → Nat → Int) (q : (Nat → Nat → Int)) (hf : f_X12_settles a1 σ = some q) : AM l D cA sa ad bs 788 SHp yX12_settles cX12_settles 5 none 6 [.ref (ad 758), .ref (ad a1)] σ none True q := by
  refine am_of (by decide +kernel) (Nat.le_of_ble_eq_true rfl) (fun p e s m args below meth c X hr => ?_)
  refine aw_lv (lv' := [(0, .ref (ad 758)), (1, .ref (ad a1))]) rfl ?_
  unfold f_X12_settles at hf
  refine aw_aload_n X 0 dX12_settles_0 rfl rfl ?_
  refine aw_aload_n X 1 dX12_settles_1 rfl rfl ?_
  obtain ⟨q1, e2, hf⟩ := z_bd hf
  refine aw_callV X [.ref (ad a1)] [] [] cX12_363 s_758 ciX12 (C_X12_laysShares l D cA sa ad bs a1 h_a1 σ q1 e2) rfl ⟨(Nat.le_of_ble_eq_true rfl), (Nat.le_of_ble_eq_true rfl), (Nat.le_of_ble_eq_true rfl), (Nat.le_of_ble_eq_true rfl)⟩ rfl (Nat.le_of_ble_eq_true rfl) rfl dX12_settles_2 (fun p3 => ?_)
  refine aw_aload_n X 0 dX12_settles_5 rfl rfl ?_
  refine aw_aload_n X 1 dX12_settles_6 rfl rfl ?_
  obtain ⟨q4, e5, hf⟩ := z_bd hf
  refine aw_callV X [.ref (ad a1)] [] [z_i q4.1] cX12_367 s_758 ciX12 (C_X12_bestWay l D cA sa ad bs a1 h_a1 q1 q4 e5) rfl ⟨(Nat.le_of_ble_eq_true rfl), (Nat.le_of_ble_eq_true rfl), (Nat.le_of_ble_eq_true rfl), (Nat.le_of_ble_eq_true rfl)⟩ rfl (Nat.le_of_ble_eq_true rfl) rfl dX12_settles_7 (fun p6 => ?_)
  refine aw_istore_n X [(2, z_i q4.1), (0, .ref (ad 758)), (1, .ref (ad a1))] dX12_settles_10 rfl (by decide) rfl ?_
  refine aw_aload_n X 1 dX12_settles_11 rfl rfl ?_
  refine aw_iconst X dX12_settles_12 ?_
  refine aw_putI X s_758 pX12_373 rfl (z_lit (x := 0) (by decide)) dX12_settles_13 ?_
  refine aw_iconst X dX12_settles_16 ?_
  refine aw_istore_n X [(3, z_i 0), (2, z_i q4.1), (0, .ref (ad 758)), (1, .ref (ad a1))] dX12_settles_17 rfl (by decide) rfl ?_
  refine aw_sub [2, 3, 1, 0] rfl ?_
  exact A_X12_settles_18 X hr 100000 a1 h_a1 q4.1 p6 0 (z_lit (x := 0) (by decide)) (u2 q4.2 758 42 0) hf
