-- SpeedDesk$Planner.priceOf(LSpeedDesk$Chip;)I
section S_X5_priceOf
variable {p : Program} {l : Launch} {e : Env} {s : State} {m : MethodId} {args : Array Value} {below : List Frame} {meth : Method} {c : Code} {D : va_G} {cA : Nat → ClassId} {sa ad : Nat → Nat} {bs : Nat} {q : (Int × (Nat → Nat → Int))}
set_option maxHeartbeats 4000000 in
set_option maxRecDepth 100000 in
theorem A_X5_priceOf_9 (X : AX p s m args meth c D cA sa bs cX5_priceOf 5 RX5) (hr : meth.sig.returnType = (some .int)) : ∀ (k : Nat) (a1 : Nat) (h_a1 : a1 ∈ ax_iX1) (v2 : Int) (c_v2 : Z_I v2) (v3 : Int) (c_v3 : Z_I v3) (σ : Nat → Nat → Int), f_X5_priceOf_9 k a1 v2 v3 σ = some q → AW p l e (ax_rm 2 0 0) s m args below meth c D cA ad bs 788 SHp 0 0 (ax_MQ below args s D cA ad bs 788 SHp 0 0 (some (z_i q.1)) (Z_I q.1) q.2) 5 9 [(0, .ref (ad 745)), (1, .ref (ad a1)), (2, z_i v2), (3, z_i v3)] [] σ := by
  intro k
  induction k with
  | zero =>
    intro a1 h_a1 v2 c_v2 v3 c_v3 σ hf
    unfold f_X5_priceOf_9 at hf
    cases hf
  | succ k ih =>
    intro a1 h_a1 v2 c_v2 v3 c_v3 σ hf
    unfold f_X5_priceOf_9 at hf
    refine aw_iload_n X 3 dX5_priceOf_9 rfl rfl ?_
    refine aw_aload_n X 1 dX5_priceOf_10 rfl rfl ?_
    refine aw_getI X (sX1_0 a1 h_a1) fX5_111 rfl dX5_priceOf_11 (fun c4 => ?_)
    refine aw_icmp_ge X (tgt := 44) c_v3 c4 dX5_priceOf_14 (by decide) (fun h5 => ?_) (fun h5 => ?_)
    · rw [if_pos h5] at hf
      refine aw_iload_n X 2 dX5_priceOf_44 rfl rfl ?_
      obtain rfl := Option.some.inj hf
      exact aw_iret X c_v2 hr rfl dX5_priceOf_45
    · rw [if_neg h5] at hf
      refine aw_aload_n X 0 dX5_priceOf_17 rfl rfl ?_
      refine aw_aload_n X 1 dX5_priceOf_18 rfl rfl ?_
      refine aw_iload_n X 3 dX5_priceOf_19 rfl rfl ?_
      obtain ⟨q6, e7, hf⟩ := z_bd hf
      refine aw_callV X [.ref (ad a1), z_i v3] [] [z_i q6] cX5_114 s_745 ciX5 (C_X5_clusterPrice l D cA sa ad bs a1 h_a1 v3 c_v3 σ q6 e7) rfl ⟨(Nat.le_of_ble_eq_true rfl), (Nat.le_of_ble_eq_true rfl), (Nat.le_of_ble_eq_true rfl), (Nat.le_of_ble_eq_true rfl)⟩ rfl (Nat.le_of_ble_eq_true rfl) rfl dX5_priceOf_20 (fun p8 => ?_)
      refine aw_istore X [(4, z_i q6), (0, .ref (ad 745)), (1, .ref (ad a1)), (2, z_i v2), (3, z_i v3)] dX5_priceOf_23 (by decide) rfl ?_
      refine aw_iload X 0 dX5_priceOf_25 rfl ?_
      refine aw_iconst X dX5_priceOf_27 ?_
      refine aw_icmp_ne X (tgt := 33) p8 (z_lit (x := (-1)) (by decide)) dX5_priceOf_28 (by decide) (fun h9 => ?_) (fun h9 => ?_)
      · rw [if_neg h9] at hf
        refine aw_iload_n X 3 dX5_priceOf_33 rfl rfl ?_
        refine aw_iload X 0 dX5_priceOf_34 rfl ?_
        refine aw_iadd X dX5_priceOf_36 ?_
        refine aw_istore_n X [(2, z_i (z_w (v2 + q6))), (4, z_i q6), (0, .ref (ad 745)), (1, .ref (ad a1)), (3, z_i v3)] dX5_priceOf_37 rfl (by decide) rfl ?_
        refine aw_iinc X 4 [(3, z_i (z_w (v3 + 1))), (2, z_i (z_w (v2 + q6))), (4, z_i q6), (0, .ref (ad 745)), (1, .ref (ad a1))] dX5_priceOf_38 rfl (by decide) rfl ?_
        refine aw_goto X (tgt := 9) dX5_priceOf_41 (by decide) ?_
        refine aw_sub [3, 4, 1, 0] rfl ?_
        exact ih a1 h_a1 (z_w (v2 + q6)) (z_w_in _) (z_w (v3 + 1)) (z_w_in _) σ hf
      · rw [if_pos h9] at hf
        refine aw_iconst X dX5_priceOf_31 ?_
        obtain rfl := Option.some.inj hf
        exact aw_iret X (z_lit (x := (-1)) (by decide)) hr rfl dX5_priceOf_32
end S_X5_priceOf
set_option maxHeartbeats 4000000 in
set_option maxRecDepth 100000 in
theorem C_X5_priceOf (l : Launch) (D : va_G) (cA : Nat → ClassId) (sa ad : Nat → Nat) (bs : Nat) (a1 : Nat) (h_a1 : a1 ∈ ax_iX1) (σ : Nat → Nat → Int) (q : (Int × (Nat → Nat → Int))) (hf : f_X5_priceOf a1 σ = some q) : AM l D cA sa ad bs 788 SHp yX5_priceOf cX5_priceOf 5 (some .int) 2 [.ref (ad 745), .ref (ad a1)] σ (some (z_i q.1)) (Z_I q.1) q.2 := by
  refine am_of (by decide +kernel) (Nat.le_of_ble_eq_true rfl) (fun p e s m args below meth c X hr => ?_)
  refine aw_lv (lv' := [(0, .ref (ad 745)), (1, .ref (ad a1))]) rfl ?_
  unfold f_X5_priceOf at hf
  refine aw_aload_n X 0 dX5_priceOf_0 rfl rfl ?_
  refine aw_aload_n X 1 dX5_priceOf_1 rfl rfl ?_
  obtain ⟨q1, e2, hf⟩ := z_bd hf
  refine aw_callV X [.ref (ad a1)] [] [] cX5_107 s_745 ciX5 (C_X5_addUp l D cA sa ad bs a1 h_a1 σ q1 e2) rfl ⟨(Nat.le_of_ble_eq_true rfl), (Nat.le_of_ble_eq_true rfl), (Nat.le_of_ble_eq_true rfl), (Nat.le_of_ble_eq_true rfl)⟩ rfl (Nat.le_of_ble_eq_true rfl) rfl dX5_priceOf_2 (fun p3 => ?_)
  refine aw_iconst X dX5_priceOf_5 ?_
  refine aw_istore_n X [(2, z_i 0), (0, .ref (ad 745)), (1, .ref (ad a1))] dX5_priceOf_6 rfl (by decide) rfl ?_
  refine aw_iconst X dX5_priceOf_7 ?_
  refine aw_istore_n X [(3, z_i 0), (2, z_i 0), (0, .ref (ad 745)), (1, .ref (ad a1))] dX5_priceOf_8 rfl (by decide) rfl ?_
  refine aw_sub [2, 3, 1, 0] rfl ?_
  exact A_X5_priceOf_9 X hr 100000 a1 h_a1 0 (z_lit (x := 0) (by decide)) 0 (z_lit (x := 0) (by decide)) q1 hf
-- SpeedDesk$Planner.priceAsItIs(LSpeedDesk$Chip;LSpeedDesk$State;)I
section S_X5_priceAsItIs
variable {p : Program} {l : Launch} {e : Env} {s : State} {m : MethodId} {args : Array Value} {below : List Frame} {meth : Method} {c : Code} {D : va_G} {cA : Nat → ClassId} {sa ad : Nat → Nat} {bs : Nat} {q : (Int × (Nat → Nat → Int))}

end S_X5_priceAsItIs
set_option maxHeartbeats 4000000 in
set_option maxRecDepth 100000 in
theorem C_X5_priceAsItIs (l : Launch) (D : va_G) (cA : Nat → ClassId) (sa ad : Nat → Nat) (bs : Nat) (a1 : Nat) (h_a1 : a1 ∈ ax_iX1) (a2 : Nat) (h_a2 : a2 ∈ ax_iX7) (σ : Nat → Nat → Int) (q : (Int × (Nat → Nat → Int))) (hf : f_X5_priceAsItIs a1 a2 σ = some q) : AM l D cA sa ad bs 788 SHp yX5_priceAsItIs cX5_priceAsItIs 3 (some .int) 3 [.ref (ad 745), .ref (ad a1), .ref (ad a2)] σ (some (z_i q.1)) (Z_I q.1) q.2 := by
  refine am_of (by decide +kernel) (Nat.le_of_ble_eq_true rfl) (fun p e s m args below meth c X hr => ?_)
  refine aw_lv (lv' := [(0, .ref (ad 745)), (1, .ref (ad a1)), (2, .ref (ad a2))]) rfl ?_
  unfold f_X5_priceAsItIs at hf
  refine aw_aload_n X 0 dX5_priceAsItIs_0 rfl rfl ?_
  refine aw_aload_n X 1 dX5_priceAsItIs_1 rfl rfl ?_
  refine aw_aload_n X 2 dX5_priceAsItIs_2 rfl rfl ?_
  obtain ⟨q1, e2, hf⟩ := z_bd hf
  refine aw_callV X [.ref (ad a1), .ref (ad a2)] [] [] cX5_39 s_745 ciX5 (C_X5_look l D cA sa ad bs a1 h_a1 a2 h_a2 σ q1 e2) rfl ⟨(Nat.le_of_ble_eq_true rfl), (Nat.le_of_ble_eq_true rfl), (Nat.le_of_ble_eq_true rfl), (Nat.le_of_ble_eq_true rfl)⟩ rfl (Nat.le_of_ble_eq_true rfl) rfl dX5_priceAsItIs_3 (fun p3 => ?_)
  refine aw_aload_n X 2 dX5_priceAsItIs_6 rfl rfl ?_
  refine aw_getR X (sX7_0 a2 h_a2) fX5_43 rfl dX5_priceAsItIs_7 ?_
  refine aw_iconst X dX5_priceAsItIs_10 ?_
  refine aw_aload_n X 0 dX5_priceAsItIs_11 rfl rfl ?_
  refine aw_getR X s_745 fX5_9 rfl dX5_priceAsItIs_12 ?_
  refine aw_iconst X dX5_priceAsItIs_15 ?_
  refine aw_iconst X dX5_priceAsItIs_16 ?_
  refine aw_cpyI X cX5_48 (sX7_1 a2 h_a2) s_746 (z_lit (x := 0) (by decide)) (z_lit (x := 0) (by decide)) (z_lit (x := 4) (by decide)) (by decide) (by decide) (by decide) (by decide) (by decide) ⟨(Nat.le_of_ble_eq_true rfl), (Nat.le_of_ble_eq_true rfl)⟩ dX5_priceAsItIs_17 ?_
  refine aw_aload_n X 0 dX5_priceAsItIs_20 rfl rfl ?_
  refine aw_aload_n X 1 dX5_priceAsItIs_21 rfl rfl ?_
  obtain ⟨q4, e5, hf⟩ := z_bd hf
  refine aw_callV X [.ref (ad a1)] [] [z_i q4.1] cX5_54 s_745 ciX5 (C_X5_priceOf l D cA sa ad bs a1 h_a1 (z_cpy q1 (a2 + 1) 746 0 0 4) q4 e5) rfl ⟨(Nat.le_of_ble_eq_true rfl), (Nat.le_of_ble_eq_true rfl), (Nat.le_of_ble_eq_true rfl), (Nat.le_of_ble_eq_true rfl)⟩ rfl (Nat.le_of_ble_eq_true rfl) rfl dX5_priceAsItIs_22 (fun p6 => ?_)
  obtain rfl := Option.some.inj hf
  exact aw_iret X p6 hr rfl dX5_priceAsItIs_25
-- SpeedDesk$Planner.waysOf(LSpeedDesk$Chip;)I
section S_X5_waysOf
variable {p : Program} {l : Launch} {e : Env} {s : State} {m : MethodId} {args : Array Value} {below : List Frame} {meth : Method} {c : Code} {D : va_G} {cA : Nat → ClassId} {sa ad : Nat → Nat} {bs : Nat} {q : Int}
set_option maxHeartbeats 4000000 in
set_option maxRecDepth 100000 in
theorem A_X5_waysOf_4 (X : AX p s m args meth c D cA sa bs cX5_waysOf 4 RX5) (hr : meth.sig.returnType = (some .int)) (σ : Nat → Nat → Int) : ∀ (k : Nat) (a1 : Nat) (h_a1 : a1 ∈ ax_iX1) (v2 : Int) (c_v2 : Z_I v2) (v3 : Int) (c_v3 : Z_I v3), f_X5_waysOf_4 k a1 v2 v3 σ = some q → AW p l e (ax_rm 1 0 0) s m args below meth c D cA ad bs 788 SHp 0 0 (ax_MQ below args s D cA ad bs 788 SHp 0 0 (some (z_i q)) (Z_I q) σ) 4 4 [(1, .ref (ad a1)), (2, z_i v2), (3, z_i v3)] [] σ := by
  intro k
  induction k with
  | zero =>
    intro a1 h_a1 v2 c_v2 v3 c_v3 hf
    unfold f_X5_waysOf_4 at hf
    cases hf
  | succ k ih =>
    intro a1 h_a1 v2 c_v2 v3 c_v3 hf
    unfold f_X5_waysOf_4 at hf
    refine aw_iload_n X 2 dX5_waysOf_4 rfl rfl ?_
    refine aw_aload_n X 0 dX5_waysOf_5 rfl rfl ?_
    refine aw_getI X (sX1_0 a1 h_a1) fX5_69 rfl dX5_waysOf_6 (fun c1 => ?_)
    refine aw_icmp_ge X (tgt := 25) c_v3 c1 dX5_waysOf_9 (by decide) (fun h2 => ?_) (fun h2 => ?_)
    · rw [if_pos h2] at hf
      refine aw_iload_n X 1 dX5_waysOf_25 rfl rfl ?_
      refine aw_sipush X dX5_waysOf_26 (by decide) ?_
      refine aw_min X c_v2 (z_lit (x := 1296) (by decide)) cX5_150 ⟨(Nat.le_of_ble_eq_true rfl), (Nat.le_of_ble_eq_true rfl), (Nat.le_of_ble_eq_true rfl), (Nat.le_of_ble_eq_true rfl)⟩ dX5_waysOf_29 ?_
      obtain rfl := Option.some.inj hf
      exact aw_iret X (z_min_in c_v2 (z_lit (x := 1296) (by decide))) hr rfl dX5_waysOf_32
    · rw [if_neg h2] at hf
      refine aw_iload_n X 1 dX5_waysOf_12 rfl rfl ?_
      refine aw_aload_n X 0 dX5_waysOf_13 rfl rfl ?_
      refine aw_getI X (sX1_0 a1 h_a1) fX5_132 rfl dX5_waysOf_14 (fun c3 => ?_)
      refine aw_imul X dX5_waysOf_17 ?_
      refine aw_istore_n X [(2, z_i (z_w (v2 * (σ a1 2)))), (1, .ref (ad a1)), (3, z_i v3)] dX5_waysOf_18 rfl (by decide) rfl ?_
      refine aw_iinc X 2 [(3, z_i (z_w (v3 + 1))), (2, z_i (z_w (v2 * (σ a1 2)))), (1, .ref (ad a1))] dX5_waysOf_19 rfl (by decide) rfl ?_
      refine aw_goto X (tgt := 4) dX5_waysOf_22 (by decide) ?_
      refine aw_sub [2, 1, 0] rfl ?_
      exact ih a1 h_a1 (z_w (v2 * (σ a1 2))) (z_w_in _) (z_w (v3 + 1)) (z_w_in _) hf
end S_X5_waysOf
set_option maxHeartbeats 4000000 in
set_option maxRecDepth 100000 in
theorem C_X5_waysOf (l : Launch) (D : va_G) (cA : Nat → ClassId) (sa ad : Nat → Nat) (bs : Nat) (a1 : Nat) (h_a1 : a1 ∈ ax_iX1) (σ : Nat → Nat → Int) (q : Int) (hf : f_X5_waysOf a1 σ = some q) : AM l D cA sa ad bs 788 SHp yX5_waysOf cX5_waysOf 4 (some .int) 1 [.ref (ad 745), .ref (ad a1)] σ (some (z_i q)) (Z_I q) σ := by
  refine am_of (by decide +kernel) (Nat.le_of_ble_eq_true rfl) (fun p e s m args below meth c X hr => ?_)
  refine aw_lv (lv' := [(0, .ref (ad 745)), (1, .ref (ad a1))]) rfl ?_
  unfold f_X5_waysOf at hf
  refine aw_iconst X dX5_waysOf_0 ?_
  refine aw_istore_n X [(2, z_i 1), (0, .ref (ad 745)), (1, .ref (ad a1))] dX5_waysOf_1 rfl (by decide) rfl ?_
  refine aw_iconst X dX5_waysOf_2 ?_
  refine aw_istore_n X [(3, z_i 0), (2, z_i 1), (0, .ref (ad 745)), (1, .ref (ad a1))] dX5_waysOf_3 rfl (by decide) rfl ?_
  refine aw_sub [3, 1, 0] rfl ?_
  exact A_X5_waysOf_4 X hr σ 100000 a1 h_a1 1 (z_lit (x := 1) (by decide)) 0 (z_lit (x := 0) (by decide)) hf
-- SpeedDesk$Planner.spread(LSpeedDesk$Chip;I)V
section S_X5_spread
variable {p : Program} {l : Launch} {e : Env} {s : State} {m : MethodId} {args : Array Value} {below : List Frame} {meth : Method} {c : Code} {D : va_G} {cA : Nat → ClassId} {sa ad : Nat → Nat} {bs : Nat} {q : (Nat → Nat → Int)}
set_option maxHeartbeats 4000000 in
set_option maxRecDepth 100000 in
theorem A_X5_spread_10 (X : AX p s m args meth c D cA sa bs cX5_spread 5 RX5) (hr : meth.sig.returnType = none) : ∀ (k : Nat) (a1 : Nat) (h_a1 : a1 ∈ ax_iX1) (v3 : Int) (c_v3 : Z_I v3) (v4 : Int) (c_v4 : Z_I v4) (σ : Nat → Nat → Int), f_X5_spread_10 k a1 v3 v4 σ = some q → AW p l e (ax_rm 0 0 0) s m args below meth c D cA ad bs 788 SHp 0 0 (ax_MQ below args s D cA ad bs 788 SHp 0 0 none True q) 5 10 [(0, .ref (ad 745)), (1, .ref (ad a1)), (3, z_i v3), (4, z_i v4)] [] σ := by
  intro k
  induction k with
  | zero =>
    intro a1 h_a1 v3 c_v3 v4 c_v4 σ hf
    unfold f_X5_spread_10 at hf
    cases hf
  | succ k ih =>
    intro a1 h_a1 v3 c_v3 v4 c_v4 σ hf
    unfold f_X5_spread_10 at hf
    refine aw_iload X 3 dX5_spread_10 rfl ?_
    refine aw_if_lt X (tgt := 48) c_v4 dX5_spread_12 (by decide) (fun h2 => ?_) (fun h2 => ?_)
    · rw [if_pos h2] at hf
      obtain rfl := Option.some.inj hf
      exact aw_vret X trivial hr rfl dX5_spread_48
    · rw [if_neg h2] at hf
      refine aw_aload_n X 1 dX5_spread_15 rfl rfl ?_
      refine aw_getI X (sX1_0 a1 h_a1) fX5_132 rfl dX5_spread_16 (fun c3 => ?_)
      refine aw_if_le X (tgt := 48) c3 dX5_spread_19 (by decide) (fun h4 => ?_) (fun h4 => ?_)
      · rw [if_pos h4] at hf
        obtain rfl := Option.some.inj hf
        exact aw_vret X trivial hr rfl dX5_spread_48
      · rw [if_neg h4] at hf
        refine aw_aload_n X 0 dX5_spread_22 rfl rfl ?_
        refine aw_getR X s_745 fX5_9 rfl dX5_spread_23 ?_
        refine aw_iload X 3 dX5_spread_26 rfl ?_
        refine aw_iload_n X 2 dX5_spread_28 rfl rfl ?_
        refine aw_aload_n X 1 dX5_spread_29 rfl rfl ?_
        refine aw_getI X (sX1_0 a1 h_a1) fX5_132 rfl dX5_spread_30 (fun c5 => ?_)
        obtain ⟨g6, hf⟩ := z_gd hf
        refine aw_irem X c_v3 c5 g6 dX5_spread_33 ?_
        obtain ⟨g7, hf⟩ := z_gd hf
        refine aw_iast X (j := v4.toNat) s_746 c_v4 g7.1 g7.2 rfl (z_w_in _) dX5_spread_34 ?_
        refine aw_iload_n X 2 dX5_spread_35 rfl rfl ?_
        refine aw_aload_n X 1 dX5_spread_36 rfl rfl ?_
        refine aw_getI X (sX1_0 a1 h_a1) fX5_132 rfl dX5_spread_37 (fun c8 => ?_)
        obtain ⟨g9, hf⟩ := z_gd hf
        refine aw_idiv X c_v3 c8 g9 dX5_spread_40 ?_
        refine aw_istore_n X [(3, z_i (z_w (Int.tdiv v3 ((u2 σ 746 v4.toNat (z_w (Int.tmod v3 (σ a1 2)))) a1 2)))), (0, .ref (ad 745)), (1, .ref (ad a1)), (4, z_i v4)] dX5_spread_41 rfl (by decide) rfl ?_
        refine aw_iinc X 3 [(4, z_i (z_w (v4 + (-1)))), (3, z_i (z_w (Int.tdiv v3 ((u2 σ 746 v4.toNat (z_w (Int.tmod v3 (σ a1 2)))) a1 2)))), (0, .ref (ad 745)), (1, .ref (ad a1))] dX5_spread_42 rfl (by decide) rfl ?_
        refine aw_goto X (tgt := 10) dX5_spread_45 (by decide) ?_
        refine aw_sub [2, 3, 1, 0] rfl ?_
        exact ih a1 h_a1 (z_w (Int.tdiv v3 ((u2 σ 746 v4.toNat (z_w (Int.tmod v3 (σ a1 2)))) a1 2))) (z_w_in _) (z_w (v4 + (-1))) (z_w_in _) (u2 σ 746 v4.toNat (z_w (Int.tmod v3 (σ a1 2)))) hf
end S_X5_spread
set_option maxHeartbeats 4000000 in
set_option maxRecDepth 100000 in
theorem C_X5_spread (l : Launch) (D : va_G) (cA : Nat → ClassId) (sa ad : Nat → Nat) (bs : Nat) (a1 : Nat) (h_a1 : a1 ∈ ax_iX1) (v2 : Int) (c_v2 : Z_I v2) (σ : Nat → Nat → Int) (q : (Nat → Nat → Int)) (hf : f_X5_spread a1 v2 σ = some q) : AM l D cA sa ad bs 788 SHp yX5_spread cX5_spread 5 none 0 [.ref (ad 745), .ref (ad a1), z_i v2] σ none True q := by
  refine am_of (by decide +kernel) (Nat.le_of_ble_eq_true rfl) (fun p e s m args below meth c X hr => ?_)
  refine aw_lv (lv' := [(0, .ref (ad 745)), (1, .ref (ad a1)), (2, z_i v2)]) rfl ?_
  unfold f_X5_spread at hf
  refine aw_iload_n X 2 dX5_spread_0 rfl rfl ?_
  refine aw_istore_n X [(3, z_i v2), (0, .ref (ad 745)), (1, .ref (ad a1)), (2, z_i v2)] dX5_spread_1 rfl (by decide) rfl ?_
  refine aw_aload_n X 2 dX5_spread_2 rfl rfl ?_
  refine aw_getI X (sX1_0 a1 h_a1) fX5_69 rfl dX5_spread_3 (fun c1 => ?_)
  refine aw_iconst X dX5_spread_6 ?_
  refine aw_isub X dX5_spread_7 ?_
  refine aw_istore X [(4, z_i (z_w ((σ a1 1) - 1))), (3, z_i v2), (0, .ref (ad 745)), (1, .ref (ad a1)), (2, z_i v2)] dX5_spread_8 (by decide) rfl ?_
  refine aw_sub [2, 3, 1, 0] rfl ?_
  exact A_X5_spread_10 X hr 100000 a1 h_a1 v2 c_v2 (z_w ((σ a1 1) - 1)) (z_w_in _) σ hf
-- SpeedDesk$Planner.findBest(LSpeedDesk$Chip;LSpeedDesk$State;)Z
section S_X5_findBest
variable {p : Program} {l : Launch} {e : Env} {s : State} {m : MethodId} {args : Array Value} {below : List Frame} {meth : Method} {c : Code} {D : va_G} {cA : Nat → ClassId} {sa ad : Nat → Nat} {bs : Nat} {q : (Int × (Nat → Nat → Int))}
set_option maxHeartbeats 4000000 in
set_option maxRecDepth 100000 in
theorem A_X5_findBest_72 (X : AX p s m args meth c D cA sa bs cX5_findBest 6 RX5) (hr : meth.sig.returnType = (some .boolean)) (K20 : Nat → Int → Int → (Nat → Nat → Int) → Option (Int × (Nat → Nat → Int))) (hK20 : ∀ (a1 : Nat) (h_a1 : a1 ∈ ax_iX1) (v3 : Int) (c_v3 : Z_I v3) (v4 : Int) (c_v4 : Z_I v4) (σ : Nat → Nat → Int), K20 a1 v3 v4 σ = some q → AW p l e (ax_rm 3 0 0) s m args below meth c D cA ad bs 788 SHp 0 0 (ax_MQ below args s D cA ad bs 788 SHp 0 0 (some (z_i q.1)) (q.1 = 0 ∨ q.1 = 1) q.2) 6 20 [(0, .ref (ad 745)), (1, .ref (ad a1)), (3, z_i v3), (4, z_i v4)] [] σ) (a1 : Nat) (h_a1 : a1 ∈ ax_iX1) (v3 : Int) (c_v3 : Z_I v3) (v4 : Int) (c_v4 : Z_I v4) (v5 : Int) (c_v5 : Z_I v5) (σ : Nat → Nat → Int) (hf : f_X5_findBest_72 K20 a1 v3 v4 v5 σ = some q) : AW p l e (ax_rm 3 0 0) s m args below meth c D cA ad bs 788 SHp 0 0 (ax_MQ below args s D cA ad bs 788 SHp 0 0 (some (z_i q.1)) (q.1 = 0 ∨ q.1 = 1) q.2) 6 72 [(0, .ref (ad 745)), (1, .ref (ad a1)), (3, z_i v3), (4, z_i v4), (5, z_i v5)] [] σ := by
  unfold f_X5_findBest_72 at hf
  refine aw_aload_n X 0 dX5_findBest_72 rfl rfl ?_
  refine aw_iload X 4 dX5_findBest_73 rfl ?_
  refine aw_putI X s_745 pX5_58 rfl c_v5 dX5_findBest_75 ?_
  refine aw_aload_n X 0 dX5_findBest_78 rfl rfl ?_
  refine aw_getR X s_745 fX5_9 rfl dX5_findBest_79 ?_
  refine aw_iconst X dX5_findBest_82 ?_
  refine aw_aload_n X 0 dX5_findBest_83 rfl rfl ?_
  refine aw_getR X s_745 fX5_15 rfl dX5_findBest_84 ?_
  refine aw_iconst X dX5_findBest_87 ?_
  refine aw_iconst X dX5_findBest_88 ?_
  refine aw_cpyI X cX5_48 s_746 s_747 (z_lit (x := 0) (by decide)) (z_lit (x := 0) (by decide)) (z_lit (x := 4) (by decide)) (by decide) (by decide) (by decide) (by decide) (by decide) ⟨(Nat.le_of_ble_eq_true rfl), (Nat.le_of_ble_eq_true rfl)⟩ dX5_findBest_89 ?_
  refine aw_iinc X 3 [(4, z_i (z_w (v4 + 1))), (0, .ref (ad 745)), (1, .ref (ad a1)), (3, z_i v3), (5, z_i v5)] dX5_findBest_92 rfl (by decide) rfl ?_
  refine aw_goto X (tgt := 20) dX5_findBest_95 (by decide) ?_
  refine aw_sub [1, 2, 3, 0] rfl ?_
  exact hK20 a1 h_a1 v3 c_v3 (z_w (v4 + 1)) (z_w_in _) (z_cpy (u2 σ 745 2 v5) 746 747 0 0 4) hf
set_option maxHeartbeats 4000000 in
set_option maxRecDepth 100000 in
theorem A_X5_findBest_20 (X : AX p s m args meth c D cA sa bs cX5_findBest 6 RX5) (hr : meth.sig.returnType = (some .boolean)) : ∀ (k : Nat) (a1 : Nat) (h_a1 : a1 ∈ ax_iX1) (v3 : Int) (c_v3 : Z_I v3) (v4 : Int) (c_v4 : Z_I v4) (σ : Nat → Nat → Int), f_X5_findBest_20 k a1 v3 v4 σ = some q → AW p l e (ax_rm 3 0 0) s m args below meth c D cA ad bs 788 SHp 0 0 (ax_MQ below args s D cA ad bs 788 SHp 0 0 (some (z_i q.1)) (q.1 = 0 ∨ q.1 = 1) q.2) 6 20 [(0, .ref (ad 745)), (1, .ref (ad a1)), (3, z_i v3), (4, z_i v4)] [] σ := by
  intro k
  induction k with
  | zero =>
    intro a1 h_a1 v3 c_v3 v4 c_v4 σ hf
    unfold f_X5_findBest_20 at hf
    cases hf
  | succ k ih =>
    intro a1 h_a1 v3 c_v3 v4 c_v4 σ hf
    unfold f_X5_findBest_20 at hf
    refine aw_iload X 3 dX5_findBest_20 rfl ?_
    refine aw_iload_n X 2 dX5_findBest_22 rfl rfl ?_
    refine aw_icmp_ge X (tgt := 98) c_v4 c_v3 dX5_findBest_23 (by decide) (fun h7 => ?_) (fun h7 => ?_)
    · rw [if_pos h7] at hf
      refine aw_aload_n X 0 dX5_findBest_98 rfl rfl ?_
      refine aw_getI X s_745 fX5_58 rfl dX5_findBest_99 (fun c8 => ?_)
      refine aw_iconst X dX5_findBest_102 ?_
      refine aw_icmp_eq X (tgt := 110) c8 (z_lit (x := (-1)) (by decide)) dX5_findBest_103 (by decide) (fun h9 => ?_) (fun h9 => ?_)
      · rw [if_pos h9] at hf
        refine aw_iconst X dX5_findBest_110 ?_
        obtain rfl := Option.some.inj hf
        exact aw_zret X (Or.inl rfl) hr (Or.inl rfl) rfl dX5_findBest_111
      · rw [if_neg h9] at hf
        refine aw_iconst X dX5_findBest_106 ?_
        refine aw_goto X (tgt := 111) dX5_findBest_107 (by decide) ?_
        obtain rfl := Option.some.inj hf
        exact aw_zret X (Or.inr rfl) hr (Or.inr rfl) rfl dX5_findBest_111
    · rw [if_neg h7] at hf
      refine aw_aload_n X 0 dX5_findBest_26 rfl rfl ?_
      refine aw_aload_n X 1 dX5_findBest_27 rfl rfl ?_
      refine aw_iload X 3 dX5_findBest_28 rfl ?_
      obtain ⟨q10, e11, hf⟩ := z_bd hf
      refine aw_callV X [.ref (ad a1), z_i v4] [] [] cX5_65 s_745 ciX5 (C_X5_spread l D cA sa ad bs a1 h_a1 v4 c_v4 σ q10 e11) rfl ⟨(Nat.le_of_ble_eq_true rfl), (Nat.le_of_ble_eq_true rfl), (Nat.le_of_ble_eq_true rfl), (Nat.le_of_ble_eq_true rfl)⟩ rfl (Nat.le_of_ble_eq_true rfl) rfl dX5_findBest_30 (fun p12 => ?_)
      refine aw_aload_n X 0 dX5_findBest_33 rfl rfl ?_
      refine aw_aload_n X 1 dX5_findBest_34 rfl rfl ?_
      obtain ⟨q13, e14, hf⟩ := z_bd hf
      refine aw_callV X [.ref (ad a1)] [] [z_i q13.1] cX5_54 s_745 ciX5 (C_X5_priceOf l D cA sa ad bs a1 h_a1 q10 q13 e14) rfl ⟨(Nat.le_of_ble_eq_true rfl), (Nat.le_of_ble_eq_true rfl), (Nat.le_of_ble_eq_true rfl), (Nat.le_of_ble_eq_true rfl)⟩ rfl (Nat.le_of_ble_eq_true rfl) rfl dX5_findBest_35 (fun p15 => ?_)
      refine aw_istore X [(5, z_i q13.1), (0, .ref (ad 745)), (1, .ref (ad a1)), (3, z_i v3), (4, z_i v4)] dX5_findBest_38 (by decide) rfl ?_
      refine aw_aload_n X 1 dX5_findBest_40 rfl rfl ?_
      refine aw_getR X s_745 fX5_30 rfl dX5_findBest_41 ?_
      refine aw_iload X 4 dX5_findBest_44 rfl ?_
      refine aw_iload X 0 dX5_findBest_46 rfl ?_
      obtain ⟨g16, hf⟩ := z_gd hf
      refine aw_iast X (j := v4.toNat) s_752 c_v4 g16.1 g16.2 rfl p15 dX5_findBest_48 ?_
      refine aw_iload X 0 dX5_findBest_49 rfl ?_
      refine aw_iconst X dX5_findBest_51 ?_
      refine aw_icmp_eq X (tgt := 92) p15 (z_lit (x := (-1)) (by decide)) dX5_findBest_52 (by decide) (fun h17 => ?_) (fun h17 => ?_)
      · rw [if_pos h17] at hf
        refine aw_iinc X 4 [(4, z_i (z_w (v4 + 1))), (5, z_i q13.1), (0, .ref (ad 745)), (1, .ref (ad a1)), (3, z_i v3)] dX5_findBest_92 rfl (by decide) rfl ?_
        refine aw_goto X (tgt := 20) dX5_findBest_95 (by decide) ?_
        refine aw_sub [2, 3, 4, 0] rfl ?_
        exact ih a1 h_a1 v3 c_v3 (z_w (v4 + 1)) (z_w_in _) (u2 q13.2 752 v4.toNat q13.1) hf
      · rw [if_neg h17] at hf
        refine aw_aload_n X 1 dX5_findBest_55 rfl rfl ?_
        refine aw_getI X s_745 fX5_58 rfl dX5_findBest_56 (fun c18 => ?_)
        refine aw_iconst X dX5_findBest_59 ?_
        refine aw_icmp_eq X (tgt := 72) c18 (z_lit (x := (-1)) (by decide)) dX5_findBest_60 (by decide) (fun h19 => ?_) (fun h19 => ?_)
        · rw [if_pos h19] at hf
          refine aw_sub [1, 2, 3, 4, 0] rfl ?_
          exact A_X5_findBest_72 X hr (f_X5_findBest_20 k) ih a1 h_a1 v3 c_v3 v4 c_v4 q13.1 p15 (u2 q13.2 752 v4.toNat q13.1) hf
        · rw [if_neg h19] at hf
          refine aw_iload X 0 dX5_findBest_63 rfl ?_
          refine aw_aload_n X 1 dX5_findBest_65 rfl rfl ?_
          refine aw_getI X s_745 fX5_58 rfl dX5_findBest_66 (fun c20 => ?_)
          refine aw_icmp_ge X (tgt := 92) p15 c20 dX5_findBest_69 (by decide) (fun h21 => ?_) (fun h21 => ?_)
          · rw [if_pos h21] at hf
            refine aw_iinc X 4 [(4, z_i (z_w (v4 + 1))), (5, z_i q13.1), (0, .ref (ad 745)), (1, .ref (ad a1)), (3, z_i v3)] dX5_findBest_92 rfl (by decide) rfl ?_
            refine aw_goto X (tgt := 20) dX5_findBest_95 (by decide) ?_
            refine aw_sub [2, 3, 4, 0] rfl ?_
            exact ih a1 h_a1 v3 c_v3 (z_w (v4 + 1)) (z_w_in _) (u2 q13.2 752 v4.toNat q13.1) hf
          · rw [if_neg h21] at hf
            refine aw_sub [1, 2, 3, 4, 0] rfl ?_
            exact A_X5_findBest_72 X hr (f_X5_findBest_20 k) ih a1 h_a1 v3 c_v3 v4 c_v4 q13.1 p15 (u2 q13.2 752 v4.toNat q13.1) hf
end S_X5_findBest
set_option maxHeartbeats 4000000 in
set_option maxRecDepth 100000 in
theorem C_X5_findBest (l : Launch) (D : va_G) (cA : Nat → ClassId) (sa ad : Nat → Nat) (bs : Nat) (a1 : Nat) (h_a1 : a1 ∈ ax_iX1) (a2 : Nat) (h_a2 : a2 ∈ ax_iX7) (σ : Nat → Nat → Int) (q : (Int × (Nat → Nat → Int))) (hf : f_X5_findBest a1 a2 σ = some q) : AM l D cA sa ad bs 788 SHp yX5_findBest cX5_findBest 6 (some .boolean) 3 [.ref (ad 745), .ref (ad a1), .ref (ad a2)] σ (some (z_i q.1)) (q.1 = 0 ∨ q.1 = 1) q.2 := by
  refine am_of (by decide +kernel) (Nat.le_of_ble_eq_true rfl) (fun p e s m args below meth c X hr => ?_)
  refine aw_lv (lv' := [(0, .ref (ad 745)), (1, .ref (ad a1)), (2, .ref (ad a2))]) rfl ?_
  unfold f_X5_findBest at hf
  refine aw_aload_n X 0 dX5_findBest_0 rfl rfl ?_
  refine aw_aload_n X 1 dX5_findBest_1 rfl rfl ?_
  refine aw_aload_n X 2 dX5_findBest_2 rfl rfl ?_
  obtain ⟨q1, e2, hf⟩ := z_bd hf
  refine aw_callV X [.ref (ad a1), .ref (ad a2)] [] [] cX5_39 s_745 ciX5 (C_X5_look l D cA sa ad bs a1 h_a1 a2 h_a2 σ q1 e2) rfl ⟨(Nat.le_of_ble_eq_true rfl), (Nat.le_of_ble_eq_true rfl), (Nat.le_of_ble_eq_true rfl), (Nat.le_of_ble_eq_true rfl)⟩ rfl (Nat.le_of_ble_eq_true rfl) rfl dX5_findBest_3 (fun p3 => ?_)
  refine aw_aload_n X 0 dX5_findBest_6 rfl rfl ?_
  refine aw_iconst X dX5_findBest_7 ?_
  refine aw_putI X s_745 pX5_58 rfl (z_lit (x := (-1)) (by decide)) dX5_findBest_8 ?_
  refine aw_aload_n X 0 dX5_findBest_11 rfl rfl ?_
  refine aw_aload_n X 1 dX5_findBest_12 rfl rfl ?_
  obtain ⟨q4, e5, hf⟩ := z_bd hf
  refine aw_callV X [.ref (ad a1)] [] [z_i q4] cX5_62 s_745 ciX5 (C_X5_waysOf l D cA sa ad bs a1 h_a1 (u2 q1 745 2 (-1)) q4 e5) rfl ⟨(Nat.le_of_ble_eq_true rfl), (Nat.le_of_ble_eq_true rfl), (Nat.le_of_ble_eq_true rfl), (Nat.le_of_ble_eq_true rfl)⟩ rfl (Nat.le_of_ble_eq_true rfl) rfl dX5_findBest_13 (fun p6 => ?_)
  refine aw_istore_n X [(3, z_i q4), (0, .ref (ad 745)), (1, .ref (ad a1)), (2, .ref (ad a2))] dX5_findBest_16 rfl (by decide) rfl ?_
  refine aw_iconst X dX5_findBest_17 ?_
  refine aw_istore X [(4, z_i 0), (3, z_i q4), (0, .ref (ad 745)), (1, .ref (ad a1)), (2, .ref (ad a2))] dX5_findBest_18 (by decide) rfl ?_
  refine aw_sub [2, 3, 1, 0] rfl ?_
  exact A_X5_findBest_20 X hr 100000 a1 h_a1 q4 p6 0 (z_lit (x := 0) (by decide)) (u2 q1 745 2 (-1)) hf
-- SpeedDesk$Planner.greatestNotPut(LSpeedDesk$Chip;)I
section S_X5_greatestNotPut
variable {p : Program} {l : Launch} {e : Env} {s : State} {m : MethodId} {args : Array Value} {below : List Frame} {meth : Method} {c : Code} {D : va_G} {cA : Nat → ClassId} {sa ad : Nat → Nat} {bs : Nat} {q : Int}
set_option maxHeartbeats 4000000 in
set_option maxRecDepth 100000 in
theorem A_X5_greatestNotPut_4 (X : AX p s m args meth c D cA sa bs cX5_greatestNotPut 4 RX5) (hr : meth.sig.returnType = (some .int)) (σ : Nat → Nat → Int) : ∀ (k : Nat) (a1 : Nat) (h_a1 : a1 ∈ ax_iX1) (v2 : Int) (c_v2 : Z_I v2) (v3 : Int) (c_v3 : Z_I v3), f_X5_greatestNotPut_4 k a1 v2 v3 σ = some q → AW p l e (ax_rm 0 0 0) s m args below meth c D cA ad bs 788 SHp 0 0 (ax_MQ below args s D cA ad bs 788 SHp 0 0 (some (z_i q)) (Z_I q) σ) 4 4 [(0, .ref (ad 745)), (1, .ref (ad a1)), (2, z_i v2), (3, z_i v3)] [] σ := by
  intro k
  induction k with
  | zero =>
    intro a1 h_a1 v2 c_v2 v3 c_v3 hf
    unfold f_X5_greatestNotPut_4 at hf
    cases hf
  | succ k ih =>
    intro a1 h_a1 v2 c_v2 v3 c_v3 hf
    unfold f_X5_greatestNotPut_4 at hf
    refine aw_iload_n X 3 dX5_greatestNotPut_4 rfl rfl ?_
    refine aw_aload_n X 1 dX5_greatestNotPut_5 rfl rfl ?_
    refine aw_getI X (sX1_0 a1 h_a1) fX5_69 rfl dX5_greatestNotPut_6 (fun c1 => ?_)
    refine aw_icmp_ge X (tgt := 50) c_v3 c1 dX5_greatestNotPut_9 (by decide) (fun h2 => ?_) (fun h2 => ?_)
    · rw [if_pos h2] at hf
      refine aw_iload_n X 2 dX5_greatestNotPut_50 rfl rfl ?_
      obtain rfl := Option.some.inj hf
      exact aw_iret X c_v2 hr rfl dX5_greatestNotPut_51
    · rw [if_neg h2] at hf
      refine aw_aload_n X 0 dX5_greatestNotPut_12 rfl rfl ?_
      refine aw_getR X s_745 fX5_9 rfl dX5_greatestNotPut_13 ?_
      refine aw_iload_n X 3 dX5_greatestNotPut_16 rfl rfl ?_
      obtain ⟨g3, hf⟩ := z_gd hf
      refine aw_iald X (j := v3.toNat) s_746 c_v3 g3.1 g3.2 rfl dX5_greatestNotPut_17 (fun c4 => ?_)
      refine aw_iconst X dX5_greatestNotPut_18 ?_
      refine aw_icmp_ne X (tgt := 44) c4 (z_lit (x := (-1)) (by decide)) dX5_greatestNotPut_19 (by decide) (fun h5 => ?_) (fun h5 => ?_)
      · rw [if_neg h5] at hf
        refine aw_iinc X 3 [(3, z_i (z_w (v3 + 1))), (0, .ref (ad 745)), (1, .ref (ad a1)), (2, z_i v2)] dX5_greatestNotPut_44 rfl (by decide) rfl ?_
        refine aw_goto X (tgt := 4) dX5_greatestNotPut_47 (by decide) ?_
        refine aw_sub [1, 2, 3, 0] rfl ?_
        exact ih a1 h_a1 v2 c_v2 (z_w (v3 + 1)) (z_w_in _) hf
      · rw [if_pos h5] at hf
        refine aw_iload_n X 2 dX5_greatestNotPut_22 rfl rfl ?_
        refine aw_iconst X dX5_greatestNotPut_23 ?_
        refine aw_icmp_eq X (tgt := 42) c_v2 (z_lit (x := (-1)) (by decide)) dX5_greatestNotPut_24 (by decide) (fun h6 => ?_) (fun h6 => ?_)
        · rw [if_pos h6] at hf
          refine aw_iload_n X 3 dX5_greatestNotPut_42 rfl rfl ?_
          refine aw_istore_n X [(2, z_i v3), (0, .ref (ad 745)), (1, .ref (ad a1)), (3, z_i v3)] dX5_greatestNotPut_43 rfl (by decide) rfl ?_
          refine aw_iinc X 3 [(3, z_i (z_w (v3 + 1))), (2, z_i v3), (0, .ref (ad 745)), (1, .ref (ad a1))] dX5_greatestNotPut_44 rfl (by decide) rfl ?_
          refine aw_goto X (tgt := 4) dX5_greatestNotPut_47 (by decide) ?_
          refine aw_sub [2, 3, 1, 0] rfl ?_
          exact ih a1 h_a1 v3 c_v3 (z_w (v3 + 1)) (z_w_in _) hf
        · rw [if_neg h6] at hf
          refine aw_aload_n X 0 dX5_greatestNotPut_27 rfl rfl ?_
          refine aw_getR X s_745 fX5_18 rfl dX5_greatestNotPut_28 ?_
          refine aw_iload_n X 3 dX5_greatestNotPut_31 rfl rfl ?_
          obtain ⟨g7, hf⟩ := z_gd hf
          refine aw_iald X (j := v3.toNat) s_748 c_v3 g7.1 g7.2 rfl dX5_greatestNotPut_32 (fun c8 => ?_)
          refine aw_aload_n X 0 dX5_greatestNotPut_33 rfl rfl ?_
          refine aw_getR X s_745 fX5_18 rfl dX5_greatestNotPut_34 ?_
          refine aw_iload_n X 2 dX5_greatestNotPut_37 rfl rfl ?_
          obtain ⟨g9, hf⟩ := z_gd hf
          refine aw_iald X (j := v2.toNat) s_748 c_v2 g9.1 g9.2 rfl dX5_greatestNotPut_38 (fun c10 => ?_)
          refine aw_icmp_le X (tgt := 44) c8 c10 dX5_greatestNotPut_39 (by decide) (fun h11 => ?_) (fun h11 => ?_)
          · simp only [if_pos h11] at hf
            refine aw_iinc X 3 [(3, z_i (z_w (v3 + 1))), (0, .ref (ad 745)), (1, .ref (ad a1)), (2, z_i v2)] dX5_greatestNotPut_44 rfl (by decide) rfl ?_
            refine aw_goto X (tgt := 4) dX5_greatestNotPut_47 (by decide) ?_
            refine aw_sub [1, 2, 3, 0] rfl ?_
            exact ih a1 h_a1 v2 c_v2 (z_w (v3 + 1)) (z_w_in _) hf
          · simp only [if_neg h11] at hf
            refine aw_iload_n X 3 dX5_greatestNotPut_42 rfl rfl ?_
            refine aw_istore_n X [(2, z_i v3), (0, .ref (ad 745)), (1, .ref (ad a1)), (3, z_i v3)] dX5_greatestNotPut_43 rfl (by decide) rfl ?_
            refine aw_iinc X 3 [(3, z_i (z_w (v3 + 1))), (2, z_i v3), (0, .ref (ad 745)), (1, .ref (ad a1))] dX5_greatestNotPut_44 rfl (by decide) rfl ?_
            refine aw_goto X (tgt := 4) dX5_greatestNotPut_47 (by decide) ?_
            refine aw_sub [2, 3, 1, 0] rfl ?_
            exact ih a1 h_a1 v3 c_v3 (z_w (v3 + 1)) (z_w_in _) hf
end S_X5_greatestNotPut
set_option maxHeartbeats 4000000 in
set_option maxRecDepth 100000 in
theorem C_X5_greatestNotPut (l : Launch) (D : va_G) (cA : Nat → ClassId) (sa ad : Nat → Nat) (bs : Nat) (a1 : Nat) (h_a1 : a1 ∈ ax_iX1) (σ : Nat → Nat → Int) (q : Int) (hf : f_X5_greatestNotPut a1 σ = some q) : AM l D cA sa ad bs 788 SHp yX5_greatestNotPut cX5_greatestNotPut 4 (some .int) 0 [.ref (ad 745), .ref (ad a1)] σ (some (z_i q)) (Z_I q) σ := by
  refine am_of (by decide +kernel) (Nat.le_of_ble_eq_true rfl) (fun p e s m args below meth c X hr => ?_)
  refine aw_lv (lv' := [(0, .ref (ad 745)), (1, .ref (ad a1))]) rfl ?_
  unfold f_X5_greatestNotPut at hf
  refine aw_iconst X dX5_greatestNotPut_0 ?_
  refine aw_istore_n X [(2, z_i (-1)), (0, .ref (ad 745)), (1, .ref (ad a1))] dX5_greatestNotPut_1 rfl (by decide) rfl ?_
  refine aw_iconst X dX5_greatestNotPut_2 ?_
  refine aw_istore_n X [(3, z_i 0), (2, z_i (-1)), (0, .ref (ad 745)), (1, .ref (ad a1))] dX5_greatestNotPut_3 rfl (by decide) rfl ?_
  refine aw_sub [2, 3, 1, 0] rfl ?_
  exact A_X5_greatestNotPut_4 X hr σ 100000 a1 h_a1 (-1) (z_lit (x := (-1)) (by decide)) 0 (z_lit (x := 0) (by decide)) hf
-- SpeedDesk$Planner.putCheaply(LSpeedDesk$Chip;I)Z
section S_X5_putCheaply
variable {p : Program} {l : Launch} {e : Env} {s : State} {m : MethodId} {args : Array Value} {below : List Frame} {meth : Method} {c : Code} {D : va_G} {cA : Nat → ClassId} {sa ad : Nat → Nat} {bs : Nat} {q : (Int × (Nat → Nat → Int))}
set_option maxHeartbeats 4000000 in
set_option maxRecDepth 100000 in
theorem A_X5_putCheaply_8 (X : AX p s m args meth c D cA sa bs cX5_putCheaply 7 RX5) (hr : meth.sig.returnType = (some .boolean)) : ∀ (k : Nat) (a1 : Nat) (h_a1 : a1 ∈ ax_iX1) (v2 : Int) (c_v2 : Z_I v2) (v3 : Int) (c_v3 : Z_I v3) (v4 : Int) (c_v4 : Z_I v4) (v5 : Int) (c_v5 : Z_I v5) (σ : Nat → Nat → Int), f_X5_putCheaply_8 k a1 v2 v3 v4 v5 σ = some q → AW p l e (ax_rm 3 0 0) s m args below meth c D cA ad bs 788 SHp 0 0 (ax_MQ below args s D cA ad bs 788 SHp 0 0 (some (z_i q.1)) (q.1 = 0 ∨ q.1 = 1) q.2) 7 8 [(0, .ref (ad 745)), (1, .ref (ad a1)), (2, z_i v2), (3, z_i v3), (4, z_i v4), (5, z_i v5)] [] σ := by
  intro k
  induction k with
  | zero =>
    intro a1 h_a1 v2 c_v2 v3 c_v3 v4 c_v4 v5 c_v5 σ hf
    unfold f_X5_putCheaply_8 at hf
    cases hf
  | succ k ih =>
    intro a1 h_a1 v2 c_v2 v3 c_v3 v4 c_v4 v5 c_v5 σ hf
    unfold f_X5_putCheaply_8 at hf
    refine aw_iload X 5 dX5_putCheaply_8 rfl ?_
    refine aw_aload_n X 1 dX5_putCheaply_10 rfl rfl ?_
    refine aw_getI X (sX1_0 a1 h_a1) fX5_132 rfl dX5_putCheaply_11 (fun c1 => ?_)
    refine aw_icmp_ge X (tgt := 64) c_v5 c1 dX5_putCheaply_14 (by decide) (fun h2 => ?_) (fun h2 => ?_)
    · rw [if_pos h2] at hf
      refine aw_aload_n X 0 dX5_putCheaply_64 rfl rfl ?_
      refine aw_getR X s_745 fX5_9 rfl dX5_putCheaply_65 ?_
      refine aw_iload_n X 2 dX5_putCheaply_68 rfl rfl ?_
      refine aw_iload_n X 3 dX5_putCheaply_69 rfl rfl ?_
      obtain ⟨g3, hf⟩ := z_gd hf
      refine aw_iast X (j := v2.toNat) s_746 c_v2 g3.1 g3.2 rfl c_v3 dX5_putCheaply_70 ?_
      refine aw_iload_n X 3 dX5_putCheaply_71 rfl rfl ?_
      refine aw_iconst X dX5_putCheaply_72 ?_
      refine aw_icmp_eq X (tgt := 80) c_v3 (z_lit (x := (-1)) (by decide)) dX5_putCheaply_73 (by decide) (fun h4 => ?_) (fun h4 => ?_)
      · rw [if_pos h4] at hf
        refine aw_iconst X dX5_putCheaply_80 ?_
        obtain rfl := Option.some.inj hf
        exact aw_zret X (Or.inl rfl) hr (Or.inl rfl) rfl dX5_putCheaply_81
      · rw [if_neg h4] at hf
        refine aw_iconst X dX5_putCheaply_76 ?_
        refine aw_goto X (tgt := 81) dX5_putCheaply_77 (by decide) ?_
        obtain rfl := Option.some.inj hf
        exact aw_zret X (Or.inr rfl) hr (Or.inr rfl) rfl dX5_putCheaply_81
    · rw [if_neg h2] at hf
      refine aw_aload_n X 0 dX5_putCheaply_17 rfl rfl ?_
      refine aw_getR X s_745 fX5_9 rfl dX5_putCheaply_18 ?_
      refine aw_iload_n X 2 dX5_putCheaply_21 rfl rfl ?_
      refine aw_iload X 5 dX5_putCheaply_22 rfl ?_
      obtain ⟨g5, hf⟩ := z_gd hf
      refine aw_iast X (j := v2.toNat) s_746 c_v2 g5.1 g5.2 rfl c_v5 dX5_putCheaply_24 ?_
      refine aw_aload_n X 0 dX5_putCheaply_25 rfl rfl ?_
      refine aw_aload_n X 1 dX5_putCheaply_26 rfl rfl ?_
      obtain ⟨q6, e7, hf⟩ := z_bd hf
      refine aw_callV X [.ref (ad a1)] [] [z_i q6.1] cX5_54 s_745 ciX5 (C_X5_priceOf l D cA sa ad bs a1 h_a1 (u2 σ 746 v2.toNat v5) q6 e7) rfl ⟨(Nat.le_of_ble_eq_true rfl), (Nat.le_of_ble_eq_true rfl), (Nat.le_of_ble_eq_true rfl), (Nat.le_of_ble_eq_true rfl)⟩ rfl (Nat.le_of_ble_eq_true rfl) rfl dX5_putCheaply_27 (fun p8 => ?_)
      refine aw_istore X [(6, z_i q6.1), (0, .ref (ad 745)), (1, .ref (ad a1)), (2, z_i v2), (3, z_i v3), (4, z_i v4), (5, z_i v5)] dX5_putCheaply_30 (by decide) rfl ?_
      refine aw_iload X 0 dX5_putCheaply_32 rfl ?_
      refine aw_iconst X dX5_putCheaply_34 ?_
      refine aw_icmp_eq X (tgt := 58) p8 (z_lit (x := (-1)) (by decide)) dX5_putCheaply_35 (by decide) (fun h9 => ?_) (fun h9 => ?_)
      · simp only [if_pos h9] at hf
        refine aw_iinc X 6 [(5, z_i (z_w (v5 + 1))), (6, z_i q6.1), (0, .ref (ad 745)), (1, .ref (ad a1)), (2, z_i v2), (3, z_i v3), (4, z_i v4)] dX5_putCheaply_58 rfl (by decide) rfl ?_
        refine aw_goto X (tgt := 8) dX5_putCheaply_61 (by decide) ?_
        refine aw_sub [2, 3, 4, 5, 6, 0] rfl ?_
        exact ih a1 h_a1 v2 c_v2 v3 c_v3 v4 c_v4 (z_w (v5 + 1)) (z_w_in _) q6.2 hf
      · simp only [if_neg h9] at hf
        refine aw_iload X 5 dX5_putCheaply_38 rfl ?_
        refine aw_iconst X dX5_putCheaply_40 ?_
        refine aw_icmp_eq X (tgt := 51) c_v4 (z_lit (x := (-1)) (by decide)) dX5_putCheaply_41 (by decide) (fun h10 => ?_) (fun h10 => ?_)
        · simp only [if_pos h10] at hf
          refine aw_iload X 0 dX5_putCheaply_51 rfl ?_
          refine aw_istore X [(4, z_i q6.1), (6, z_i q6.1), (0, .ref (ad 745)), (1, .ref (ad a1)), (2, z_i v2), (3, z_i v3), (5, z_i v5)] dX5_putCheaply_53 (by decide) rfl ?_
          refine aw_iload X 6 dX5_putCheaply_55 rfl ?_
          refine aw_istore_n X [(3, z_i v5), (4, z_i q6.1), (6, z_i q6.1), (0, .ref (ad 745)), (1, .ref (ad a1)), (2, z_i v2), (5, z_i v5)] dX5_putCheaply_57 rfl (by decide) rfl ?_
          refine aw_iinc X 6 [(5, z_i (z_w (v5 + 1))), (3, z_i v5), (4, z_i q6.1), (6, z_i q6.1), (0, .ref (ad 745)), (1, .ref (ad a1)), (2, z_i v2)] dX5_putCheaply_58 rfl (by decide) rfl ?_
          refine aw_goto X (tgt := 8) dX5_putCheaply_61 (by decide) ?_
          refine aw_sub [4, 5, 6, 1, 2, 0] rfl ?_
          exact ih a1 h_a1 v2 c_v2 v5 c_v5 q6.1 p8 (z_w (v5 + 1)) (z_w_in _) q6.2 hf
        · simp only [if_neg h10] at hf
          refine aw_iload X 0 dX5_putCheaply_44 rfl ?_
          refine aw_iload X 5 dX5_putCheaply_46 rfl ?_
          refine aw_icmp_ge X (tgt := 58) p8 c_v4 dX5_putCheaply_48 (by decide) (fun h11 => ?_) (fun h11 => ?_)
          · simp only [if_pos h11] at hf
            refine aw_iinc X 6 [(5, z_i (z_w (v5 + 1))), (6, z_i q6.1), (0, .ref (ad 745)), (1, .ref (ad a1)), (2, z_i v2), (3, z_i v3), (4, z_i v4)] dX5_putCheaply_58 rfl (by decide) rfl ?_
            refine aw_goto X (tgt := 8) dX5_putCheaply_61 (by decide) ?_
            refine aw_sub [2, 3, 4, 5, 6, 0] rfl ?_
            exact ih a1 h_a1 v2 c_v2 v3 c_v3 v4 c_v4 (z_w (v5 + 1)) (z_w_in _) q6.2 hf
          · simp only [if_neg h11] at hf
            refine aw_iload X 0 dX5_putCheaply_51 rfl ?_
            refine aw_istore X [(4, z_i q6.1), (6, z_i q6.1), (0, .ref (ad 745)), (1, .ref (ad a1)), (2, z_i v2), (3, z_i v3), (5, z_i v5)] dX5_putCheaply_53 (by decide) rfl ?_
            refine aw_iload X 6 dX5_putCheaply_55 rfl ?_
            refine aw_istore_n X [(3, z_i v5), (4, z_i q6.1), (6, z_i q6.1), (0, .ref (ad 745)), (1, .ref (ad a1)), (2, z_i v2), (5, z_i v5)] dX5_putCheaply_57 rfl (by decide) rfl ?_
            refine aw_iinc X 6 [(5, z_i (z_w (v5 + 1))), (3, z_i v5), (4, z_i q6.1), (6, z_i q6.1), (0, .ref (ad 745)), (1, .ref (ad a1)), (2, z_i v2)] dX5_putCheaply_58 rfl (by decide) rfl ?_
            refine aw_goto X (tgt := 8) dX5_putCheaply_61 (by decide) ?_
            refine aw_sub [4, 5, 6, 1, 2, 0] rfl ?_
            exact ih a1 h_a1 v2 c_v2 v5 c_v5 q6.1 p8 (z_w (v5 + 1)) (z_w_in _) q6.2 hf
end S_X5_putCheaply
set_option maxHeartbeats 4000000 in
set_option maxRecDepth 100000 in
theorem C_X5_putCheaply (l : Launch) (D : va_G) (cA : Nat → ClassId) (sa ad : Nat → Nat) (bs : Nat) (a1 : Nat) (h_a1 : a1 ∈ ax_iX1) (v2 : Int) (c_v2 : Z_I v2) (σ : Nat → Nat → Int) (q : (Int × (Nat → Nat → Int))) (hf : f_X5_putCheaply a1 v2 σ = some q) : AM l D cA sa ad bs 788 SHp yX5_putCheaply cX5_putCheaply 7 (some .boolean) 3 [.ref (ad 745), .ref (ad a1), z_i v2] σ (some (z_i q.1)) (q.1 = 0 ∨ q.1 = 1) q.2 := by
  refine am_of (by decide +kernel) (Nat.le_of_ble_eq_true rfl) (fun p e s m args below meth c X hr => ?_)
  refine aw_lv (lv' := [(0, .ref (ad 745)), (1, .ref (ad a1)), (2, z_i v2)]) rfl ?_
  unfold f_X5_putCheaply at hf
  refine aw_iconst X dX5_putCheaply_0 ?_
  refine aw_istore_n X [(3, z_i (-1)), (0, .ref (ad 745)), (1, .ref (ad a1)), (2, z_i v2)] dX5_putCheaply_1 rfl (by decide) rfl ?_
  refine aw_iconst X dX5_putCheaply_2 ?_
  refine aw_istore X [(4, z_i (-1)), (3, z_i (-1)), (0, .ref (ad 745)), (1, .ref (ad a1)), (2, z_i v2)] dX5_putCheaply_3 (by decide) rfl ?_
  refine aw_iconst X dX5_putCheaply_5 ?_
  refine aw_istore X [(5, z_i 0), (4, z_i (-1)), (3, z_i (-1)), (0, .ref (ad 745)), (1, .ref (ad a1)), (2, z_i v2)] dX5_putCheaply_6 (by decide) rfl ?_
  refine aw_sub [3, 4, 5, 2, 1, 0] rfl ?_
  exact A_X5_putCheaply_8 X hr 100000 a1 h_a1 v2 c_v2 (-1) (z_lit (x := (-1)) (by decide)) (-1) (z_lit (x := (-1)) (by decide)) 0 (z_lit (x := 0) (by decide)) σ hf
-- SpeedDesk$Planner.putGreedily(LSpeedDesk$Chip;LSpeedDesk$State;)Z
section S_X5_putGreedily
variable {p : Program} {l : Launch} {e : Env} {s : State} {m : MethodId} {args : Array Value} {below : List Frame} {meth : Method} {c : Code} {D : va_G} {cA : Nat → ClassId} {sa ad : Nat → Nat} {bs : Nat} {q : (Int × (Nat → Nat → Int))}
set_option maxHeartbeats 4000000 in
set_option maxRecDepth 100000 in
theorem A_X5_putGreedily_28 (X : AX p s m args meth c D cA sa bs cX5_putGreedily 5 RX5) (hr : meth.sig.returnType = (some .boolean)) : ∀ (k : Nat) (a1 : Nat) (h_a1 : a1 ∈ ax_iX1) (v3 : Int) (c_v3 : Z_I v3) (σ : Nat → Nat → Int), f_X5_putGreedily_28 k a1 v3 σ = some q → AW p l e (ax_rm 4 0 0) s m args below meth c D cA ad bs 788 SHp 0 0 (ax_MQ below args s D cA ad bs 788 SHp 0 0 (some (z_i q.1)) (q.1 = 0 ∨ q.1 = 1) q.2) 5 28 [(0, .ref (ad 745)), (1, .ref (ad a1)), (3, z_i v3)] [] σ := by
  intro k
  induction k with
  | zero =>
    intro a1 h_a1 v3 c_v3 σ hf
    unfold f_X5_putGreedily_28 at hf
    cases hf
  | succ k ih =>
    intro a1 h_a1 v3 c_v3 σ hf
    unfold f_X5_putGreedily_28 at hf
    refine aw_iload_n X 2 dX5_putGreedily_28 rfl rfl ?_
    refine aw_aload_n X 1 dX5_putGreedily_29 rfl rfl ?_
    refine aw_getI X (sX1_0 a1 h_a1) fX5_69 rfl dX5_putGreedily_30 (fun c6 => ?_)
    refine aw_icmp_ge X (tgt := 67) c_v3 c6 dX5_putGreedily_33 (by decide) (fun h7 => ?_) (fun h7 => ?_)
    · rw [if_pos h7] at hf
      refine aw_iconst X dX5_putGreedily_67 ?_
      obtain rfl := Option.some.inj hf
      exact aw_zret X (Or.inr rfl) hr (Or.inr rfl) rfl dX5_putGreedily_68
    · rw [if_neg h7] at hf
      refine aw_aload_n X 0 dX5_putGreedily_36 rfl rfl ?_
      refine aw_aload_n X 1 dX5_putGreedily_37 rfl rfl ?_
      obtain ⟨q8, e9, hf⟩ := z_bd hf
      refine aw_callV X [.ref (ad a1)] [] [z_i q8] cX5_74 s_745 ciX5 (C_X5_greatestNotPut l D cA sa ad bs a1 h_a1 σ q8 e9) rfl ⟨(Nat.le_of_ble_eq_true rfl), (Nat.le_of_ble_eq_true rfl), (Nat.le_of_ble_eq_true rfl), (Nat.le_of_ble_eq_true rfl)⟩ rfl (Nat.le_of_ble_eq_true rfl) rfl dX5_putGreedily_38 (fun p10 => ?_)
      refine aw_istore X [(4, z_i q8), (0, .ref (ad 745)), (1, .ref (ad a1)), (3, z_i v3)] dX5_putGreedily_41 (by decide) rfl ?_
      refine aw_iload X 0 dX5_putGreedily_43 rfl ?_
      refine aw_iconst X dX5_putGreedily_45 ?_
      refine aw_icmp_eq X (tgt := 59) p10 (z_lit (x := (-1)) (by decide)) dX5_putGreedily_46 (by decide) (fun h11 => ?_) (fun h11 => ?_)
      · rw [if_pos h11] at hf
        refine aw_iconst X dX5_putGreedily_59 ?_
        obtain rfl := Option.some.inj hf
        exact aw_zret X (Or.inl rfl) hr (Or.inl rfl) rfl dX5_putGreedily_60
      · rw [if_neg h11] at hf
        refine aw_aload_n X 1 dX5_putGreedily_49 rfl rfl ?_
        refine aw_aload_n X 2 dX5_putGreedily_50 rfl rfl ?_
        refine aw_iload X 0 dX5_putGreedily_51 rfl ?_
        obtain ⟨q12, e13, hf⟩ := z_bd hf
        refine aw_callV X [.ref (ad a1), z_i q8] [] [z_i q12.1] cX5_77 s_745 ciX5 (C_X5_putCheaply l D cA sa ad bs a1 h_a1 q8 p10 σ q12 e13) rfl ⟨(Nat.le_of_ble_eq_true rfl), (Nat.le_of_ble_eq_true rfl), (Nat.le_of_ble_eq_true rfl), (Nat.le_of_ble_eq_true rfl)⟩ rfl (Nat.le_of_ble_eq_true rfl) rfl dX5_putGreedily_53 (fun p14 => ?_)
        refine aw_if_ne X (tgt := 61) (z_zI p14) dX5_putGreedily_56 (by decide) (fun h15 => ?_) (fun h15 => ?_)
        · rw [if_neg h15] at hf
          refine aw_iinc X 3 [(3, z_i (z_w (v3 + 1))), (4, z_i q8), (0, .ref (ad 745)), (1, .ref (ad a1))] dX5_putGreedily_61 rfl (by decide) rfl ?_
          refine aw_goto X (tgt := 28) dX5_putGreedily_64 (by decide) ?_
          refine aw_sub [2, 3, 0] rfl ?_
          exact ih a1 h_a1 (z_w (v3 + 1)) (z_w_in _) q12.2 hf
        · rw [if_pos h15] at hf
          refine aw_iconst X dX5_putGreedily_59 ?_
          obtain rfl := Option.some.inj hf
          exact aw_zret X (Or.inl rfl) hr (Or.inl rfl) rfl dX5_putGreedily_60
set_option maxHeartbeats 4000000 in
set_option maxRecDepth 100000 in
theorem A_X5_putGreedily_8 (X : AX p s m args meth c D cA sa bs cX5_putGreedily 5 RX5) (hr : meth.sig.returnType = (some .boolean)) : ∀ (k : Nat) (a1 : Nat) (h_a1 : a1 ∈ ax_iX1) (v3 : Int) (c_v3 : Z_I v3) (σ : Nat → Nat → Int), f_X5_putGreedily_8 k a1 v3 σ = some q → AW p l e (ax_rm 4 0 0) s m args below meth c D cA ad bs 788 SHp 0 0 (ax_MQ below args s D cA ad bs 788 SHp 0 0 (some (z_i q.1)) (q.1 = 0 ∨ q.1 = 1) q.2) 5 8 [(0, .ref (ad 745)), (1, .ref (ad a1)), (3, z_i v3)] [] σ := by
  intro k
  induction k with
  | zero =>
    intro a1 h_a1 v3 c_v3 σ hf
    unfold f_X5_putGreedily_8 at hf
    cases hf
  | succ k ih =>
    intro a1 h_a1 v3 c_v3 σ hf
    unfold f_X5_putGreedily_8 at hf
    refine aw_iload_n X 2 dX5_putGreedily_8 rfl rfl ?_
    refine aw_iconst X dX5_putGreedily_9 ?_
    refine aw_icmp_ge X (tgt := 26) c_v3 (z_lit (x := 4) (by decide)) dX5_putGreedily_10 (by decide) (fun h4 => ?_) (fun h4 => ?_)
    · rw [if_pos h4] at hf
      refine aw_iconst X dX5_putGreedily_26 ?_
      refine aw_istore_n X [(3, z_i 0), (0, .ref (ad 745)), (1, .ref (ad a1))] dX5_putGreedily_27 rfl (by decide) rfl ?_
      refine aw_sub [1, 2, 0] rfl ?_
      exact A_X5_putGreedily_28 X hr 100000 a1 h_a1 0 (z_lit (x := 0) (by decide)) σ hf
    · rw [if_neg h4] at hf
      refine aw_aload_n X 0 dX5_putGreedily_13 rfl rfl ?_
      refine aw_getR X s_745 fX5_9 rfl dX5_putGreedily_14 ?_
      refine aw_iload_n X 2 dX5_putGreedily_17 rfl rfl ?_
      refine aw_iconst X dX5_putGreedily_18 ?_
      obtain ⟨g5, hf⟩ := z_gd hf
      refine aw_iast X (j := v3.toNat) s_746 c_v3 g5.1 g5.2 rfl (z_lit (x := (-1)) (by decide)) dX5_putGreedily_19 ?_
      refine aw_iinc X 2 [(3, z_i (z_w (v3 + 1))), (0, .ref (ad 745)), (1, .ref (ad a1))] dX5_putGreedily_20 rfl (by decide) rfl ?_
      refine aw_goto X (tgt := 8) dX5_putGreedily_23 (by decide) ?_
      refine aw_sub [1, 2, 0] rfl ?_
      exact ih a1 h_a1 (z_w (v3 + 1)) (z_w_in _) (u2 σ 746 v3.toNat (-1)) hf
end S_X5_putGreedily
set_option maxHeartbeats 4000000 in
set_option maxRecDepth 100000 in
theorem C_X5_putGreedily (l : Launch) (D : va_G) (cA : Nat → ClassId) (sa ad : Nat → Nat) (bs : Nat) (a1 : Nat) (h_a1 : a1 ∈ ax_iX1) (a2 : Nat) (h_a2 : a2 ∈ ax_iX7) (σ : Nat → Nat → Int) (q : (Int × (Nat → Nat → Int))) (hf : f_X5_putGreedily a1 a2 σ = some q) : AM l D cA sa ad bs 788 SHp yX5_putGreedily cX5_putGreedily 5 (some .boolean) 4 [.ref (ad 745), .ref (ad a1), .ref (ad a2)] σ (some (z_i q.1)) (q.1 = 0 ∨ q.1 = 1) q.2 := by
  refine am_of (by decide +kernel) (Nat.le_of_ble_eq_true rfl) (fun p e s m args below meth c X hr => ?_)
  refine aw_lv (lv' := [(0, .ref (ad 745)), (1, .ref (ad a1)), (2, .ref (ad a2))]) rfl ?_
  unfold f_X5_putGreedily at hf
  refine aw_aload_n X 0 dX5_putGreedily_0 rfl rfl ?_
  refine aw_aload_n X 1 dX5_putGreedily_1 rfl rfl ?_
  refine aw_aload_n X 2 dX5_putGreedily_2 rfl rfl ?_
  obtain ⟨q1, e2, hf⟩ := z_bd hf
  refine aw_callV X [.ref (ad a1), .ref (ad a2)] [] [] cX5_39 s_745 ciX5 (C_X5_look l D cA sa ad bs a1 h_a1 a2 h_a2 σ q1 e2) rfl ⟨(Nat.le_of_ble_eq_true rfl), (Nat.le_of_ble_eq_true rfl), (Nat.le_of_ble_eq_true rfl), (Nat.le_of_ble_eq_true rfl)⟩ rfl (Nat.le_of_ble_eq_true rfl) rfl dX5_putGreedily_3 (fun p3 => ?_)
  refine aw_iconst X dX5_putGreedily_6 ?_
  refine aw_istore_n X [(3, z_i 0), (0, .ref (ad 745)), (1, .ref (ad a1)), (2, .ref (ad a2))] dX5_putGreedily_7 rfl (by decide) rfl ?_
  refine aw_sub [1, 2, 0] rfl ?_
  exact A_X5_putGreedily_8 X hr 100000 a1 h_a1 0 (z_lit (x := 0) (by decide)) q1 hf
-- SpeedDesk$Planner.numberOf(LSpeedDesk$Chip;[I)I
section S_X5_numberOf
variable {p : Program} {l : Launch} {e : Env} {s : State} {m : MethodId} {args : Array Value} {below : List Frame} {meth : Method} {c : Code} {D : va_G} {cA : Nat → ClassId} {sa ad : Nat → Nat} {bs : Nat} {q : Int}
set_option maxHeartbeats 4000000 in
set_option maxRecDepth 100000 in
theorem A_X5_numberOf_5 (X : AX p s m args meth c D cA sa bs cX5_numberOf 5 RX5) (hr : meth.sig.returnType = (some .int)) (σ : Nat → Nat → Int) : ∀ (k : Nat) (a1 : Nat) (h_a1 : a1 ∈ ax_iX1) (a2 : Nat) (h_a2 : a2 < 788 ∧ SHp a2 = .inr (0, 4, [])) (v3 : Int) (c_v3 : Z_I v3) (v4 : Int) (c_v4 : Z_I v4), f_X5_numberOf_5 k a1 a2 v3 v4 σ = some q → AW p l e (ax_rm 0 0 0) s m args below meth c D cA ad bs 788 SHp 0 0 (ax_MQ below args s D cA ad bs 788 SHp 0 0 (some (z_i q)) (Z_I q) σ) 5 5 [(1, .ref (ad a1)), (2, .ref (ad a2)), (3, z_i v3), (4, z_i v4)] [] σ := by
  intro k
  induction k with
  | zero =>
    intro a1 h_a1 a2 h_a2 v3 c_v3 v4 c_v4 hf
    unfold f_X5_numberOf_5 at hf
    cases hf
  | succ k ih =>
    intro a1 h_a1 a2 h_a2 v3 c_v3 v4 c_v4 hf
    unfold f_X5_numberOf_5 at hf
    refine aw_iload X 3 dX5_numberOf_5 rfl ?_
    refine aw_aload_n X 0 dX5_numberOf_7 rfl rfl ?_
    refine aw_getI X (sX1_0 a1 h_a1) fX5_69 rfl dX5_numberOf_8 (fun c1 => ?_)
    refine aw_icmp_ge X (tgt := 32) c_v4 c1 dX5_numberOf_11 (by decide) (fun h2 => ?_) (fun h2 => ?_)
    · rw [if_pos h2] at hf
      refine aw_iload_n X 2 dX5_numberOf_32 rfl rfl ?_
      obtain rfl := Option.some.inj hf
      exact aw_iret X c_v3 hr rfl dX5_numberOf_33
    · rw [if_neg h2] at hf
      refine aw_iload_n X 2 dX5_numberOf_14 rfl rfl ?_
      refine aw_aload_n X 0 dX5_numberOf_15 rfl rfl ?_
      refine aw_getI X (sX1_0 a1 h_a1) fX5_132 rfl dX5_numberOf_16 (fun c3 => ?_)
      refine aw_imul X dX5_numberOf_19 ?_
      refine aw_aload_n X 1 dX5_numberOf_20 rfl rfl ?_
      refine aw_iload X 3 dX5_numberOf_21 rfl ?_
      obtain ⟨g4, hf⟩ := z_gd hf
      refine aw_iald X (j := v4.toNat) h_a2 c_v4 g4.1 g4.2 rfl dX5_numberOf_23 (fun c5 => ?_)
      refine aw_iadd X dX5_numberOf_24 ?_
      refine aw_istore_n X [(3, z_i (z_w ((z_w (v3 * (σ a1 2))) + (σ a2 v4.toNat)))), (1, .ref (ad a1)), (2, .ref (ad a2)), (4, z_i v4)] dX5_numberOf_25 rfl (by decide) rfl ?_
      refine aw_iinc X 3 [(4, z_i (z_w (v4 + 1))), (3, z_i (z_w ((z_w (v3 * (σ a1 2))) + (σ a2 v4.toNat)))), (1, .ref (ad a1)), (2, .ref (ad a2))] dX5_numberOf_26 rfl (by decide) rfl ?_
      refine aw_goto X (tgt := 5) dX5_numberOf_29 (by decide) ?_
      refine aw_sub [2, 3, 1, 0] rfl ?_
      exact ih a1 h_a1 a2 h_a2 (z_w ((z_w (v3 * (σ a1 2))) + (σ a2 v4.toNat))) (z_w_in _) (z_w (v4 + 1)) (z_w_in _) hf
end S_X5_numberOf
set_option maxHeartbeats 4000000 in
set_option maxRecDepth 100000 in
theorem C_X5_numberOf (l : Launch) (D : va_G) (cA : Nat → ClassId) (sa ad : Nat → Nat) (bs : Nat) (a1 : Nat) (h_a1 : a1 ∈ ax_iX1) (a2 : Nat) (h_a2 : a2 < 788 ∧ SHp a2 = .inr (0, 4, [])) (σ : Nat → Nat → Int) (q : Int) (hf : f_X5_numberOf a1 a2 σ = some q) : AM l D cA sa ad bs 788 SHp yX5_numberOf cX5_numberOf 5 (some .int) 0 [.ref (ad 745), .ref (ad a1), .ref (ad a2)] σ (some (z_i q)) (Z_I q) σ := by
  refine am_of (by decide +kernel) (Nat.le_of_ble_eq_true rfl) (fun p e s m args below meth c X hr => ?_)
  refine aw_lv (lv' := [(0, .ref (ad 745)), (1, .ref (ad a1)), (2, .ref (ad a2))]) rfl ?_
  unfold f_X5_numberOf at hf
  refine aw_iconst X dX5_numberOf_0 ?_
  refine aw_istore_n X [(3, z_i 0), (0, .ref (ad 745)), (1, .ref (ad a1)), (2, .ref (ad a2))] dX5_numberOf_1 rfl (by decide) rfl ?_
  refine aw_iconst X dX5_numberOf_2 ?_
  refine aw_istore X [(4, z_i 0), (3, z_i 0), (0, .ref (ad 745)), (1, .ref (ad a1)), (2, .ref (ad a2))] dX5_numberOf_3 (by decide) rfl ?_
  refine aw_sub [3, 4, 1, 0] rfl ?_
  exact A_X5_numberOf_5 X hr σ 100000 a1 h_a1 a2 h_a2 0 (z_lit (x := 0) (by decide)) 0 (z_lit (x := 0) (by decide)) hf
