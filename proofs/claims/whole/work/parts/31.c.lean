-- SpeedDesk$Acts.movedForBest(LSpeedDesk$Chip;LSpeedDesk$State;)I
section S_X0_movedForBest
variable {p : Program} {l : Launch} {e : Env} {s : State} {m : MethodId} {args : Array Value} {below : List Frame} {meth : Method} {c : Code} {D : va_G} {cA : Nat → ClassId} {sa ad : Nat → Nat} {bs : Nat} {q : Int}
set_option maxHeartbeats 4000000 in
set_option maxRecDepth 100000 in
theorem A_X0_movedForBest_5 (X : AX p s m args meth c D cA sa bs cX0_movedForBest 5 RX0) (hr : meth.sig.returnType = (some .int)) (σ : Nat → Nat → Int) : ∀ (k : Nat) (a1 : Nat) (h_a1 : a1 ∈ ax_iX1) (a2 : Nat) (h_a2 : a2 ∈ ax_iX7) (v3 : Int) (c_v3 : Z_I v3) (v4 : Int) (c_v4 : Z_I v4), f_X0_movedForBest_5 k a1 a2 v3 v4 σ = some q → AW p l e (ax_rm 0 0 0) s m args below meth c D cA ad bs 788 SHp 0 0 (ax_MQ below args s D cA ad bs 788 SHp 0 0 (some (z_i q)) (Z_I q) σ) 5 5 [(0, .ref (ad 742)), (1, .ref (ad a1)), (2, .ref (ad a2)), (3, z_i v3), (4, z_i v4)] [] σ := by
  intro k
  induction k with
  | zero =>
    intro a1 h_a1 a2 h_a2 v3 c_v3 v4 c_v4 hf
    unfold f_X0_movedForBest_5 at hf
    cases hf
  | succ k ih =>
    intro a1 h_a1 a2 h_a2 v3 c_v3 v4 c_v4 hf
    unfold f_X0_movedForBest_5 at hf
    refine aw_iload X 4 dX0_movedForBest_5 rfl ?_
    refine aw_aload_n X 1 dX0_movedForBest_7 rfl rfl ?_
    refine aw_getI X (sX1_0 a1 h_a1) fX0_136 rfl dX0_movedForBest_8 (fun c1 => ?_)
    refine aw_icmp_ge X (tgt := 48) c_v4 c1 dX0_movedForBest_11 (by decide) (fun h2 => ?_) (fun h2 => ?_)
    · rw [if_pos h2] at hf
      refine aw_iload_n X 3 dX0_movedForBest_48 rfl rfl ?_
      obtain rfl := Option.some.inj hf
      exact aw_iret X c_v3 hr rfl dX0_movedForBest_49
    · rw [if_neg h2] at hf
      refine aw_iload_n X 3 dX0_movedForBest_14 rfl rfl ?_
      refine aw_aload_n X 2 dX0_movedForBest_15 rfl rfl ?_
      refine aw_getR X (sX7_0 a2 h_a2) fX0_114 rfl dX0_movedForBest_16 ?_
      refine aw_iload X 4 dX0_movedForBest_19 rfl ?_
      obtain ⟨g3, hf⟩ := z_gd hf
      refine aw_iald X (j := v4.toNat) (sX7_1 a2 h_a2) c_v4 g3.1 g3.2 rfl dX0_movedForBest_21 (fun c4 => ?_)
      refine aw_aload_n X 0 dX0_movedForBest_22 rfl rfl ?_
      refine aw_getR X s_742 fX0_21 rfl dX0_movedForBest_23 ?_
      refine aw_getR X s_745 fX0_139 rfl dX0_movedForBest_26 ?_
      refine aw_iload X 4 dX0_movedForBest_29 rfl ?_
      obtain ⟨g5, hf⟩ := z_gd hf
      refine aw_iald X (j := v4.toNat) s_747 c_v4 g5.1 g5.2 rfl dX0_movedForBest_31 (fun c6 => ?_)
      refine aw_icmp_eq X (tgt := 39) c4 c6 dX0_movedForBest_32 (by decide) (fun h7 => ?_) (fun h7 => ?_)
      · simp only [if_pos h7] at hf
        refine aw_iconst X dX0_movedForBest_39 ?_
        refine aw_iadd X dX0_movedForBest_40 ?_
        refine aw_istore_n X [(3, z_i (z_w (v3 + 0))), (0, .ref (ad 742)), (1, .ref (ad a1)), (2, .ref (ad a2)), (4, z_i v4)] dX0_movedForBest_41 rfl (by decide) rfl ?_
        refine aw_iinc X 4 [(4, z_i (z_w (v4 + 1))), (3, z_i (z_w (v3 + 0))), (0, .ref (ad 742)), (1, .ref (ad a1)), (2, .ref (ad a2))] dX0_movedForBest_42 rfl (by decide) rfl ?_
        refine aw_goto X (tgt := 5) dX0_movedForBest_45 (by decide) ?_
        refine aw_sub [2, 3, 4, 1, 0] rfl ?_
        exact ih a1 h_a1 a2 h_a2 (z_w (v3 + 0)) (z_w_in _) (z_w (v4 + 1)) (z_w_in _) hf
      · simp only [if_neg h7] at hf
        refine aw_iconst X dX0_movedForBest_35 ?_
        refine aw_goto X (tgt := 40) dX0_movedForBest_36 (by decide) ?_
        refine aw_iadd X dX0_movedForBest_40 ?_
        refine aw_istore_n X [(3, z_i (z_w (v3 + 1))), (0, .ref (ad 742)), (1, .ref (ad a1)), (2, .ref (ad a2)), (4, z_i v4)] dX0_movedForBest_41 rfl (by decide) rfl ?_
        refine aw_iinc X 4 [(4, z_i (z_w (v4 + 1))), (3, z_i (z_w (v3 + 1))), (0, .ref (ad 742)), (1, .ref (ad a1)), (2, .ref (ad a2))] dX0_movedForBest_42 rfl (by decide) rfl ?_
        refine aw_goto X (tgt := 5) dX0_movedForBest_45 (by decide) ?_
        refine aw_sub [2, 3, 4, 1, 0] rfl ?_
        exact ih a1 h_a1 a2 h_a2 (z_w (v3 + 1)) (z_w_in _) (z_w (v4 + 1)) (z_w_in _) hf
end S_X0_movedForBest
set_option maxHeartbeats 4000000 in
set_option maxRecDepth 100000 in
theorem C_X0_movedForBest (l : Launch) (D : va_G) (cA : Nat → ClassId) (sa ad : Nat → Nat) (bs : Nat) (a1 : Nat) (h_a1 : a1 ∈ ax_iX1) (a2 : Nat) (h_a2 : a2 ∈ ax_iX7) (σ : Nat → Nat → Int) (q : Int) (hf : f_X0_movedForBest a1 a2 σ = some q) : AM l D cA sa ad bs 788 SHp yX0_movedForBest cX0_movedForBest 5 (some .int) 0 [.ref (ad 742), .ref (ad a1), .ref (ad a2)] σ (some (z_i q)) (Z_I q) σ := by
  refine am_of (by decide +kernel) (Nat.le_of_ble_eq_true rfl) (fun p e s m args below meth c X hr => ?_)
  refine aw_lv (lv' := [(0, .ref (ad 742)), (1, .ref (ad a1)), (2, .ref (ad a2))]) rfl ?_
  unfold f_X0_movedForBest at hf
  refine aw_iconst X dX0_movedForBest_0 ?_
  refine aw_istore_n X [(3, z_i 0), (0, .ref (ad 742)), (1, .ref (ad a1)), (2, .ref (ad a2))] dX0_movedForBest_1 rfl (by decide) rfl ?_
  refine aw_iconst X dX0_movedForBest_2 ?_
  refine aw_istore X [(4, z_i 0), (3, z_i 0), (0, .ref (ad 742)), (1, .ref (ad a1)), (2, .ref (ad a2))] dX0_movedForBest_3 (by decide) rfl ?_
  refine aw_sub [2, 3, 4, 1, 0] rfl ?_
  exact A_X0_movedForBest_5 X hr σ 100000 a1 h_a1 a2 h_a2 0 (z_lit (x := 0) (by decide)) 0 (z_lit (x := 0) (by decide)) hf
-- SpeedDesk$Acts.settleRefusal(LSpeedDesk$Chip;LSpeedDesk$State;)I
section S_X0_settleRefusal
variable {p : Program} {l : Launch} {e : Env} {s : State} {m : MethodId} {args : Array Value} {below : List Frame} {meth : Method} {c : Code} {D : va_G} {cA : Nat → ClassId} {sa ad : Nat → Nat} {bs : Nat} {q : (Int × (Nat → Nat → Int))}

end S_X0_settleRefusal
set_option maxHeartbeats 4000000 in
set_option maxRecDepth 100000 in
theorem C_X0_settleRefusal (l : Launch) (D : va_G) (cA : Nat → ClassId) (sa ad : Nat → Nat) (bs : Nat) (a1 : Nat) (h_a1 : a1 ∈ ax_iX1) (a2 : Nat) (h_a2 : a2 ∈ ax_iX7) (σ : Nat → Nat → Int) (q : (Int × (Nat → Nat → Int))) (hf : f_X0_settleRefusal a1 a2 σ = some q) : AM l D cA sa ad bs 788 SHp yX0_settleRefusal cX0_settleRefusal 3 (some .int) 4 [.ref (ad 742), .ref (ad a1), .ref (ad a2)] σ (some (z_i q.1)) (Z_I q.1) q.2 := by
  refine am_of (by decide +kernel) (Nat.le_of_ble_eq_true rfl) (fun p e s m args below meth c X hr => ?_)
  refine aw_lv (lv' := [(0, .ref (ad 742)), (1, .ref (ad a1)), (2, .ref (ad a2))]) rfl ?_
  unfold f_X0_settleRefusal at hf
  refine aw_aload_n X 1 dX0_settleRefusal_0 rfl rfl ?_
  obtain ⟨q1, e2, hf⟩ := z_bd hf
  refine aw_callV X [] [] [z_i q1] cX0_98 (sX1_0 a1 h_a1) ciX1 (C_X1_isTold l D cA sa ad bs a1 h_a1 σ q1 e2) rfl ⟨(Nat.le_of_ble_eq_true rfl), (Nat.le_of_ble_eq_true rfl), (Nat.le_of_ble_eq_true rfl), (Nat.le_of_ble_eq_true rfl)⟩ rfl (Nat.le_of_ble_eq_true rfl) rfl dX0_settleRefusal_1 (fun p3 => ?_)
  refine aw_if_ne X (tgt := 9) (z_zI p3) dX0_settleRefusal_4 (by decide) (fun h4 => ?_) (fun h4 => ?_)
  · rw [if_neg h4] at hf
    refine aw_aload_n X 0 dX0_settleRefusal_9 rfl rfl ?_
    refine aw_getR X s_742 fX0_21 rfl dX0_settleRefusal_10 ?_
    refine aw_aload_n X 1 dX0_settleRefusal_13 rfl rfl ?_
    refine aw_aload_n X 2 dX0_settleRefusal_14 rfl rfl ?_
    obtain ⟨q5, e6, hf⟩ := z_bd hf
    refine aw_callV X [.ref (ad a1), .ref (ad a2)] [] [z_i q5.1] cX0_91 s_745 ciX5 (C_X5_findBest l D cA sa ad bs a1 h_a1 a2 h_a2 σ q5 e6) rfl ⟨(Nat.le_of_ble_eq_true rfl), (Nat.le_of_ble_eq_true rfl), (Nat.le_of_ble_eq_true rfl), (Nat.le_of_ble_eq_true rfl)⟩ rfl (Nat.le_of_ble_eq_true rfl) rfl dX0_settleRefusal_15 (fun p7 => ?_)
    refine aw_if_ne X (tgt := 23) (z_zI p7) dX0_settleRefusal_18 (by decide) (fun h8 => ?_) (fun h8 => ?_)
    · rw [if_neg h8] at hf
      refine aw_aload_n X 0 dX0_settleRefusal_23 rfl rfl ?_
      refine aw_aload_n X 1 dX0_settleRefusal_24 rfl rfl ?_
      refine aw_aload_n X 2 dX0_settleRefusal_25 rfl rfl ?_
      obtain ⟨q9, e10, hf⟩ := z_bd hf
      refine aw_callV X [.ref (ad a1), .ref (ad a2)] [] [z_i q9] cX0_133 s_742 ciX0 (C_X0_movedForBest l D cA sa ad bs a1 h_a1 a2 h_a2 q5.2 q9 e10) rfl ⟨(Nat.le_of_ble_eq_true rfl), (Nat.le_of_ble_eq_true rfl), (Nat.le_of_ble_eq_true rfl), (Nat.le_of_ble_eq_true rfl)⟩ rfl (Nat.le_of_ble_eq_true rfl) rfl dX0_settleRefusal_26 (fun p11 => ?_)
      refine aw_if_ne X (tgt := 36) p11 dX0_settleRefusal_29 (by decide) (fun h12 => ?_) (fun h12 => ?_)
      · rw [if_neg h12] at hf
        refine aw_iconst X dX0_settleRefusal_36 ?_
        obtain rfl := Option.some.inj hf
        exact aw_iret X (z_lit (x := (-1)) (by decide)) hr rfl dX0_settleRefusal_37
      · rw [if_pos h12] at hf
        refine aw_iconst X dX0_settleRefusal_32 ?_
        refine aw_goto X (tgt := 37) dX0_settleRefusal_33 (by decide) ?_
        obtain rfl := Option.some.inj hf
        exact aw_iret X (z_lit (x := 2) (by decide)) hr rfl dX0_settleRefusal_37
    · rw [if_pos h8] at hf
      refine aw_iconst X dX0_settleRefusal_21 ?_
      obtain rfl := Option.some.inj hf
      exact aw_iret X (z_lit (x := 3) (by decide)) hr rfl dX0_settleRefusal_22
  · rw [if_pos h4] at hf
    refine aw_iconst X dX0_settleRefusal_7 ?_
    obtain rfl := Option.some.inj hf
    exact aw_iret X (z_lit (x := 0) (by decide)) hr rfl dX0_settleRefusal_8
-- SpeedDesk$Acts.refusalOf(LSpeedDesk$Chip;LSpeedDesk$State;LSpeedDesk$Step;)I
section S_X0_refusalOf
variable {p : Program} {l : Launch} {e : Env} {s : State} {m : MethodId} {args : Array Value} {below : List Frame} {meth : Method} {c : Code} {D : va_G} {cA : Nat → ClassId} {sa ad : Nat → Nat} {bs : Nat} {q : (Int × (Nat → Nat → Int))}

end S_X0_refusalOf
set_option maxHeartbeats 4000000 in
set_option maxRecDepth 100000 in
theorem C_X0_refusalOf (l : Launch) (D : va_G) (cA : Nat → ClassId) (sa ad : Nat → Nat) (bs : Nat) (a1 : Nat) (h_a1 : a1 ∈ ax_iX1) (a2 : Nat) (h_a2 : a2 ∈ ax_iX7) (a3 : Nat) (h_a3 : a3 ∈ ax_iX8) (σ : Nat → Nat → Int) (q : (Int × (Nat → Nat → Int))) (hf : f_X0_refusalOf a1 a2 a3 σ = some q) : AM l D cA sa ad bs 788 SHp yX0_refusalOf cX0_refusalOf 5 (some .int) 5 [.ref (ad 742), .ref (ad a1), .ref (ad a2), .ref (ad a3)] σ (some (z_i q.1)) (Z_I q.1) q.2 := by
  refine am_of (by decide +kernel) (Nat.le_of_ble_eq_true rfl) (fun p e s m args below meth c X hr => ?_)
  refine aw_lv (lv' := [(0, .ref (ad 742)), (1, .ref (ad a1)), (2, .ref (ad a2)), (3, .ref (ad a3))]) rfl ?_
  unfold f_X0_refusalOf at hf
  refine aw_aload_n X 3 dX0_refusalOf_0 rfl rfl ?_
  refine aw_getR X (sX8_0 a3 h_a3) fX0_25 rfl dX0_refusalOf_1 ?_
  refine aw_iconst X dX0_refusalOf_4 ?_
  refine aw_iald X (j := 0) (sX8_1 a3 h_a3) (z_lit (x := 0) (by decide)) (by decide) (by decide) rfl dX0_refusalOf_5 (fun c1 => ?_)
  refine aw_istore X [(4, z_i (σ (a3 + 1) 0)), (0, .ref (ad 742)), (1, .ref (ad a1)), (2, .ref (ad a2)), (3, .ref (ad a3))] dX0_refusalOf_6 (by decide) rfl ?_
  refine aw_aload_n X 4 dX0_refusalOf_8 rfl rfl ?_
  refine aw_getI X (sX8_0 a3 h_a3) fX0_31 rfl dX0_refusalOf_9 (fun c2 => ?_)
  by_cases h3 : (σ a3 1) = 0
  · rw [if_pos h3] at hf
    refine aw_tabIn X (tgt := 52) c2 dX0_refusalOf_12 (by omega) (by omega) (by rw [h3]; rfl) (by decide) ?_
    refine aw_aload_n X 1 dX0_refusalOf_52 rfl rfl ?_
    refine aw_aload_n X 2 dX0_refusalOf_53 rfl rfl ?_
    refine aw_aload_n X 3 dX0_refusalOf_54 rfl rfl ?_
    refine aw_iload X 0 dX0_refusalOf_55 rfl ?_
    obtain ⟨q4, e5, hf⟩ := z_bd hf
    refine aw_callV X [.ref (ad a1), .ref (ad a2), z_i (σ (a3 + 1) 0)] [] [z_i q4] cX0_35 s_742 ciX0 (C_X0_tickRefusal l D cA sa ad bs a1 h_a1 a2 h_a2 (σ (a3 + 1) 0) c1 σ q4 e5) rfl ⟨(Nat.le_of_ble_eq_true rfl), (Nat.le_of_ble_eq_true rfl), (Nat.le_of_ble_eq_true rfl), (Nat.le_of_ble_eq_true rfl)⟩ rfl (Nat.le_of_ble_eq_true rfl) rfl dX0_refusalOf_57 (fun p6 => ?_)
    obtain rfl := Option.some.inj hf
    exact aw_iret X p6 hr rfl dX0_refusalOf_60
  rw [if_neg h3] at hf
  by_cases h7 : (σ a3 1) = 1
  · rw [if_pos h7] at hf
    refine aw_tabIn X (tgt := 61) c2 dX0_refusalOf_12 (by omega) (by omega) (by rw [h7]; rfl) (by decide) ?_
    refine aw_aload_n X 1 dX0_refusalOf_61 rfl rfl ?_
    refine aw_aload_n X 2 dX0_refusalOf_62 rfl rfl ?_
    refine aw_aload_n X 3 dX0_refusalOf_63 rfl rfl ?_
    refine aw_iload X 0 dX0_refusalOf_64 rfl ?_
    refine aw_aload_n X 4 dX0_refusalOf_66 rfl rfl ?_
    refine aw_getR X (sX8_0 a3 h_a3) fX0_25 rfl dX0_refusalOf_67 ?_
    refine aw_iconst X dX0_refusalOf_70 ?_
    refine aw_iald X (j := 1) (sX8_1 a3 h_a3) (z_lit (x := 1) (by decide)) (by decide) (by decide) rfl dX0_refusalOf_71 (fun c8 => ?_)
    obtain ⟨q9, e10, hf⟩ := z_bd hf
    refine aw_callV X [.ref (ad a1), .ref (ad a2), z_i (σ (a3 + 1) 0), z_i (σ (a3 + 1) 1)] [] [z_i q9] cX0_39 s_742 ciX0 (C_X0_moveRefusal l D cA sa ad bs a1 h_a1 a2 h_a2 (σ (a3 + 1) 0) c1 (σ (a3 + 1) 1) c8 σ q9 e10) rfl ⟨(Nat.le_of_ble_eq_true rfl), (Nat.le_of_ble_eq_true rfl), (Nat.le_of_ble_eq_true rfl), (Nat.le_of_ble_eq_true rfl)⟩ rfl (Nat.le_of_ble_eq_true rfl) rfl dX0_refusalOf_72 (fun p11 => ?_)
    obtain rfl := Option.some.inj hf
    exact aw_iret X p11 hr rfl dX0_refusalOf_75
  rw [if_neg h7] at hf
  by_cases h12 : (σ a3 1) = 2
  · rw [if_pos h12] at hf
    refine aw_tabIn X (tgt := 76) c2 dX0_refusalOf_12 (by omega) (by omega) (by rw [h12]; rfl) (by decide) ?_
    refine aw_aload_n X 1 dX0_refusalOf_76 rfl rfl ?_
    refine aw_aload_n X 2 dX0_refusalOf_77 rfl rfl ?_
    refine aw_aload_n X 3 dX0_refusalOf_78 rfl rfl ?_
    refine aw_aload_n X 4 dX0_refusalOf_79 rfl rfl ?_
    obtain ⟨q13, e14, hf⟩ := z_bd hf
    refine aw_callV X [.ref (ad a1), .ref (ad a2), .ref (ad a3)] [] [z_i q13] cX0_43 s_742 ciX0 (C_X0_askRefusal l D cA sa ad bs a1 h_a1 a2 h_a2 a3 h_a3 σ q13 e14) rfl ⟨(Nat.le_of_ble_eq_true rfl), (Nat.le_of_ble_eq_true rfl), (Nat.le_of_ble_eq_true rfl), (Nat.le_of_ble_eq_true rfl)⟩ rfl (Nat.le_of_ble_eq_true rfl) rfl dX0_refusalOf_80 (fun p15 => ?_)
    obtain rfl := Option.some.inj hf
    exact aw_iret X p15 hr rfl dX0_refusalOf_83
  rw [if_neg h12] at hf
  by_cases h16 : (σ a3 1) = 3
  · rw [if_pos h16] at hf
    refine aw_tabIn X (tgt := 84) c2 dX0_refusalOf_12 (by omega) (by omega) (by rw [h16]; rfl) (by decide) ?_
    refine aw_aload_n X 1 dX0_refusalOf_84 rfl rfl ?_
    refine aw_aload_n X 2 dX0_refusalOf_85 rfl rfl ?_
    refine aw_aload_n X 3 dX0_refusalOf_86 rfl rfl ?_
    refine aw_aload_n X 4 dX0_refusalOf_87 rfl rfl ?_
    obtain ⟨q17, e18, hf⟩ := z_bd hf
    refine aw_callV X [.ref (ad a1), .ref (ad a2), .ref (ad a3)] [] [z_i q17] cX0_47 s_742 ciX0 (C_X0_dropRefusal l D cA sa ad bs a1 h_a1 a2 h_a2 a3 h_a3 σ q17 e18) rfl ⟨(Nat.le_of_ble_eq_true rfl), (Nat.le_of_ble_eq_true rfl), (Nat.le_of_ble_eq_true rfl), (Nat.le_of_ble_eq_true rfl)⟩ rfl (Nat.le_of_ble_eq_true rfl) rfl dX0_refusalOf_88 (fun p19 => ?_)
    obtain rfl := Option.some.inj hf
    exact aw_iret X p19 hr rfl dX0_refusalOf_91
  rw [if_neg h16] at hf
  by_cases h20 : (σ a3 1) = 4
  · rw [if_pos h20] at hf
    refine aw_tabIn X (tgt := 92) c2 dX0_refusalOf_12 (by omega) (by omega) (by rw [h20]; rfl) (by decide) ?_
    refine aw_aload_n X 1 dX0_refusalOf_92 rfl rfl ?_
    refine aw_aload_n X 2 dX0_refusalOf_93 rfl rfl ?_
    refine aw_aload_n X 3 dX0_refusalOf_94 rfl rfl ?_
    refine aw_iload X 0 dX0_refusalOf_95 rfl ?_
    refine aw_iconst X dX0_refusalOf_97 ?_
    obtain ⟨q21, e22, hf⟩ := z_bd hf
    refine aw_callV X [.ref (ad a1), .ref (ad a2), z_i (σ (a3 + 1) 0), z_i 1] [] [z_i q21] cX0_50 s_742 ciX0 (C_X0_stopRefusal l D cA sa ad bs a1 h_a1 a2 h_a2 (σ (a3 + 1) 0) c1 1 (z_lit (x := 1) (by decide)) σ q21 e22) rfl ⟨(Nat.le_of_ble_eq_true rfl), (Nat.le_of_ble_eq_true rfl), (Nat.le_of_ble_eq_true rfl), (Nat.le_of_ble_eq_true rfl)⟩ rfl (Nat.le_of_ble_eq_true rfl) rfl dX0_refusalOf_98 (fun p23 => ?_)
    obtain rfl := Option.some.inj hf
    exact aw_iret X p23 hr rfl dX0_refusalOf_101
  rw [if_neg h20] at hf
  by_cases h24 : (σ a3 1) = 5
  · rw [if_pos h24] at hf
    refine aw_tabIn X (tgt := 102) c2 dX0_refusalOf_12 (by omega) (by omega) (by rw [h24]; rfl) (by decide) ?_
    refine aw_aload_n X 1 dX0_refusalOf_102 rfl rfl ?_
    refine aw_aload_n X 2 dX0_refusalOf_103 rfl rfl ?_
    refine aw_aload_n X 3 dX0_refusalOf_104 rfl rfl ?_
    refine aw_iload X 0 dX0_refusalOf_105 rfl ?_
    refine aw_iconst X dX0_refusalOf_107 ?_
    obtain ⟨q25, e26, hf⟩ := z_bd hf
    refine aw_callV X [.ref (ad a1), .ref (ad a2), z_i (σ (a3 + 1) 0), z_i 0] [] [z_i q25] cX0_50 s_742 ciX0 (C_X0_stopRefusal l D cA sa ad bs a1 h_a1 a2 h_a2 (σ (a3 + 1) 0) c1 0 (z_lit (x := 0) (by decide)) σ q25 e26) rfl ⟨(Nat.le_of_ble_eq_true rfl), (Nat.le_of_ble_eq_true rfl), (Nat.le_of_ble_eq_true rfl), (Nat.le_of_ble_eq_true rfl)⟩ rfl (Nat.le_of_ble_eq_true rfl) rfl dX0_refusalOf_108 (fun p27 => ?_)
    obtain rfl := Option.some.inj hf
    exact aw_iret X p27 hr rfl dX0_refusalOf_111
  rw [if_neg h24] at hf
  refine aw_tabOut X (tgt := 112) c2 dX0_refusalOf_12 (by omega) (by decide) ?_
  refine aw_aload_n X 1 dX0_refusalOf_112 rfl rfl ?_
  refine aw_aload_n X 2 dX0_refusalOf_113 rfl rfl ?_
  refine aw_aload_n X 3 dX0_refusalOf_114 rfl rfl ?_
  obtain ⟨q28, e29, hf⟩ := z_bd hf
  refine aw_callV X [.ref (ad a1), .ref (ad a2)] [] [z_i q28.1] cX0_54 s_742 ciX0 (C_X0_settleRefusal l D cA sa ad bs a1 h_a1 a2 h_a2 σ q28 e29) rfl ⟨(Nat.le_of_ble_eq_true rfl), (Nat.le_of_ble_eq_true rfl), (Nat.le_of_ble_eq_true rfl), (Nat.le_of_ble_eq_true rfl)⟩ rfl (Nat.le_of_ble_eq_true rfl) rfl dX0_refusalOf_115 (fun p30 => ?_)
  obtain rfl := Option.some.inj hf
  exact aw_iret X p30 hr rfl dX0_refusalOf_118
-- SpeedDesk$Acts.putOn(LSpeedDesk$Chip;LSpeedDesk$State;II)I
section S_X0_putOn
variable {p : Program} {l : Launch} {e : Env} {s : State} {m : MethodId} {args : Array Value} {below : List Frame} {meth : Method} {c : Code} {D : va_G} {cA : Nat → ClassId} {sa ad : Nat → Nat} {bs : Nat} {q : (Int × (Nat → Nat → Int))}

end S_X0_putOn
set_option maxHeartbeats 4000000 in
set_option maxRecDepth 100000 in
theorem C_X0_putOn (l : Launch) (D : va_G) (cA : Nat → ClassId) (sa ad : Nat → Nat) (bs : Nat) (a1 : Nat) (h_a1 : a1 ∈ ax_iX1) (a2 : Nat) (h_a2 : a2 ∈ ax_iX7) (v3 : Int) (c_v3 : Z_I v3) (v4 : Int) (c_v4 : Z_I v4) (σ : Nat → Nat → Int) (q : (Int × (Nat → Nat → Int))) (hf : f_X0_putOn a1 a2 v3 v4 σ = some q) : AM l D cA sa ad bs 788 SHp yX0_putOn cX0_putOn 6 (some .int) 1 [.ref (ad 742), .ref (ad a1), .ref (ad a2), z_i v3, z_i v4] σ (some (z_i q.1)) (Z_I q.1) q.2 := by
  refine am_of (by decide +kernel) (Nat.le_of_ble_eq_true rfl) (fun p e s m args below meth c X hr => ?_)
  refine aw_lv (lv' := [(0, .ref (ad 742)), (1, .ref (ad a1)), (2, .ref (ad a2)), (3, z_i v3), (4, z_i v4)]) rfl ?_
  unfold f_X0_putOn at hf
  refine aw_aload_n X 1 dX0_putOn_0 rfl rfl ?_
  refine aw_iload_n X 3 dX0_putOn_1 rfl rfl ?_
  obtain ⟨q1, e2, hf⟩ := z_bd hf
  refine aw_callV X [z_i v3] [] [z_i q1] cX0_107 (sX1_0 a1 h_a1) ciX1 (C_X1_hasTask l D cA sa ad bs a1 h_a1 v3 c_v3 σ q1 e2) rfl ⟨(Nat.le_of_ble_eq_true rfl), (Nat.le_of_ble_eq_true rfl), (Nat.le_of_ble_eq_true rfl), (Nat.le_of_ble_eq_true rfl)⟩ rfl (Nat.le_of_ble_eq_true rfl) rfl dX0_putOn_2 (fun p3 => ?_)
  refine aw_if_ne X (tgt := 10) (z_zI p3) dX0_putOn_5 (by decide) (fun h4 => ?_) (fun h4 => ?_)
  · rw [if_neg h4] at hf
    refine aw_aload_n X 2 dX0_putOn_10 rfl rfl ?_
    refine aw_getR X (sX7_0 a2 h_a2) fX0_114 rfl dX0_putOn_11 ?_
    refine aw_iload_n X 3 dX0_putOn_14 rfl rfl ?_
    obtain ⟨g5, hf⟩ := z_gd hf
    refine aw_iald X (j := v3.toNat) (sX7_1 a2 h_a2) c_v3 g5.1 g5.2 rfl dX0_putOn_15 (fun c6 => ?_)
    refine aw_istore X [(5, z_i (σ (a2 + 1) v3.toNat)), (0, .ref (ad 742)), (1, .ref (ad a1)), (2, .ref (ad a2)), (3, z_i v3), (4, z_i v4)] dX0_putOn_16 (by decide) rfl ?_
    refine aw_aload_n X 3 dX0_putOn_18 rfl rfl ?_
    refine aw_getR X (sX7_0 a2 h_a2) fX0_114 rfl dX0_putOn_19 ?_
    refine aw_iload_n X 4 dX0_putOn_22 rfl rfl ?_
    refine aw_iload X 5 dX0_putOn_23 rfl ?_
    obtain ⟨g7, hf⟩ := z_gd hf
    refine aw_iast X (j := v3.toNat) (sX7_1 a2 h_a2) c_v3 g7.1 g7.2 rfl c_v4 dX0_putOn_25 ?_
    refine aw_iload X 0 dX0_putOn_26 rfl ?_
    obtain rfl := Option.some.inj hf
    exact aw_iret X c6 hr rfl dX0_putOn_28
  · rw [if_pos h4] at hf
    refine aw_iconst X dX0_putOn_8 ?_
    obtain rfl := Option.some.inj hf
    exact aw_iret X (z_lit (x := (-1)) (by decide)) hr rfl dX0_putOn_9
-- SpeedDesk$Acts.halt(LSpeedDesk$Chip;LSpeedDesk$State;I)I
section S_X0_halt
variable {p : Program} {l : Launch} {e : Env} {s : State} {m : MethodId} {args : Array Value} {below : List Frame} {meth : Method} {c : Code} {D : va_G} {cA : Nat → ClassId} {sa ad : Nat → Nat} {bs : Nat} {q : (Int × (Nat → Nat → Int))}

end S_X0_halt
set_option maxHeartbeats 4000000 in
set_option maxRecDepth 100000 in
theorem C_X0_halt (l : Launch) (D : va_G) (cA : Nat → ClassId) (sa ad : Nat → Nat) (bs : Nat) (a1 : Nat) (h_a1 : a1 ∈ ax_iX1) (a2 : Nat) (h_a2 : a2 ∈ ax_iX7) (v3 : Int) (c_v3 : Z_I v3) (σ : Nat → Nat → Int) (q : (Int × (Nat → Nat → Int))) (hf : f_X0_halt a1 a2 v3 σ = some q) : AM l D cA sa ad bs 788 SHp yX0_halt cX0_halt 5 (some .int) 1 [.ref (ad 742), .ref (ad a1), .ref (ad a2), z_i v3] σ (some (z_i q.1)) (Z_I q.1) q.2 := by
  refine am_of (by decide +kernel) (Nat.le_of_ble_eq_true rfl) (fun p e s m args below meth c X hr => ?_)
  refine aw_lv (lv' := [(0, .ref (ad 742)), (1, .ref (ad a1)), (2, .ref (ad a2)), (3, z_i v3)]) rfl ?_
  unfold f_X0_halt at hf
  refine aw_aload_n X 1 dX0_halt_0 rfl rfl ?_
  refine aw_iload_n X 3 dX0_halt_1 rfl rfl ?_
  obtain ⟨q1, e2, hf⟩ := z_bd hf
  refine aw_callV X [z_i v3] [] [z_i q1] cX0_107 (sX1_0 a1 h_a1) ciX1 (C_X1_hasTask l D cA sa ad bs a1 h_a1 v3 c_v3 σ q1 e2) rfl ⟨(Nat.le_of_ble_eq_true rfl), (Nat.le_of_ble_eq_true rfl), (Nat.le_of_ble_eq_true rfl), (Nat.le_of_ble_eq_true rfl)⟩ rfl (Nat.le_of_ble_eq_true rfl) rfl dX0_halt_2 (fun p3 => ?_)
  refine aw_if_ne X (tgt := 10) (z_zI p3) dX0_halt_5 (by decide) (fun h4 => ?_) (fun h4 => ?_)
  · rw [if_neg h4] at hf
    refine aw_aload_n X 2 dX0_halt_10 rfl rfl ?_
    refine aw_getR X (sX7_0 a2 h_a2) fX0_142 rfl dX0_halt_11 ?_
    refine aw_iload_n X 3 dX0_halt_14 rfl rfl ?_
    obtain ⟨g5, hf⟩ := z_gd hf
    refine aw_iald X (j := v3.toNat) (sX7_2 a2 h_a2) c_v3 g5.1 g5.2 rfl dX0_halt_15 (fun c6 => ?_)
    refine aw_istore X [(4, z_i (σ (a2 + 2) v3.toNat)), (0, .ref (ad 742)), (1, .ref (ad a1)), (2, .ref (ad a2)), (3, z_i v3)] dX0_halt_16 (by decide) rfl ?_
    refine aw_aload_n X 3 dX0_halt_18 rfl rfl ?_
    refine aw_getR X (sX7_0 a2 h_a2) fX0_142 rfl dX0_halt_19 ?_
    refine aw_iload_n X 4 dX0_halt_22 rfl rfl ?_
    refine aw_iconst X dX0_halt_23 ?_
    obtain ⟨g7, hf⟩ := z_gd hf
    refine aw_iast X (j := v3.toNat) (sX7_2 a2 h_a2) c_v3 g7.1 g7.2 rfl (z_lit (x := 0) (by decide)) dX0_halt_24 ?_
    refine aw_aload_n X 3 dX0_halt_25 rfl rfl ?_
    refine aw_aload_n X 3 dX0_halt_26 rfl rfl ?_
    refine aw_getI X (sX7_0 a2 h_a2) fX0_145 rfl dX0_halt_27 (fun c8 => ?_)
    refine aw_iload_n X 4 dX0_halt_30 rfl rfl ?_
    refine aw_iconst X dX0_halt_31 ?_
    obtain ⟨q9, e10, hf⟩ := z_bd hf
    refine aw_callN X [z_i ((u2 σ (a2 + 2) v3.toNat 0) a2 5), z_i v3, z_i 1] [.ref (ad a2)] [z_i q9, .ref (ad a2)] cX0_148 (C_X11_withBit l D cA sa ad bs ((u2 σ (a2 + 2) v3.toNat 0) a2 5) c8 v3 c_v3 1 (z_lit (x := 1) (by decide)) (u2 σ (a2 + 2) v3.toNat 0) q9 e10) rfl ⟨(Nat.le_of_ble_eq_true rfl), (Nat.le_of_ble_eq_true rfl), (Nat.le_of_ble_eq_true rfl), (Nat.le_of_ble_eq_true rfl)⟩ rfl (Nat.le_of_ble_eq_true rfl) rfl dX0_halt_32 (fun p11 => ?_)
    refine aw_putI X (sX7_0 a2 h_a2) pX0_145 rfl p11 dX0_halt_35 ?_
    refine aw_iload X 0 dX0_halt_38 rfl ?_
    obtain rfl := Option.some.inj hf
    exact aw_iret X c6 hr rfl dX0_halt_40
  · rw [if_pos h4] at hf
    refine aw_iconst X dX0_halt_8 ?_
    obtain rfl := Option.some.inj hf
    exact aw_iret X (z_lit (x := (-1)) (by decide)) hr rfl dX0_halt_9
-- SpeedDesk$Acts.resume(LSpeedDesk$Chip;LSpeedDesk$State;I)I
section S_X0_resume
variable {p : Program} {l : Launch} {e : Env} {s : State} {m : MethodId} {args : Array Value} {below : List Frame} {meth : Method} {c : Code} {D : va_G} {cA : Nat → ClassId} {sa ad : Nat → Nat} {bs : Nat} {q : (Int × (Nat → Nat → Int))}

end S_X0_resume
set_option maxHeartbeats 4000000 in
set_option maxRecDepth 100000 in
theorem C_X0_resume (l : Launch) (D : va_G) (cA : Nat → ClassId) (sa ad : Nat → Nat) (bs : Nat) (a1 : Nat) (h_a1 : a1 ∈ ax_iX1) (a2 : Nat) (h_a2 : a2 ∈ ax_iX7) (v3 : Int) (c_v3 : Z_I v3) (σ : Nat → Nat → Int) (q : (Int × (Nat → Nat → Int))) (hf : f_X0_resume a1 a2 v3 σ = some q) : AM l D cA sa ad bs 788 SHp yX0_resume cX0_resume 4 (some .int) 1 [.ref (ad 742), .ref (ad a1), .ref (ad a2), z_i v3] σ (some (z_i q.1)) (Z_I q.1) q.2 := by
  refine am_of (by decide +kernel) (Nat.le_of_ble_eq_true rfl) (fun p e s m args below meth c X hr => ?_)
  refine aw_lv (lv' := [(0, .ref (ad 742)), (1, .ref (ad a1)), (2, .ref (ad a2)), (3, z_i v3)]) rfl ?_
  unfold f_X0_resume at hf
  refine aw_aload_n X 1 dX0_resume_0 rfl rfl ?_
  refine aw_iload_n X 3 dX0_resume_1 rfl rfl ?_
  obtain ⟨q1, e2, hf⟩ := z_bd hf
  refine aw_callV X [z_i v3] [] [z_i q1] cX0_107 (sX1_0 a1 h_a1) ciX1 (C_X1_hasTask l D cA sa ad bs a1 h_a1 v3 c_v3 σ q1 e2) rfl ⟨(Nat.le_of_ble_eq_true rfl), (Nat.le_of_ble_eq_true rfl), (Nat.le_of_ble_eq_true rfl), (Nat.le_of_ble_eq_true rfl)⟩ rfl (Nat.le_of_ble_eq_true rfl) rfl dX0_resume_2 (fun p3 => ?_)
  refine aw_if_ne X (tgt := 10) (z_zI p3) dX0_resume_5 (by decide) (fun h4 => ?_) (fun h4 => ?_)
  · rw [if_neg h4] at hf
    refine aw_aload_n X 2 dX0_resume_10 rfl rfl ?_
    refine aw_aload_n X 2 dX0_resume_11 rfl rfl ?_
    refine aw_getI X (sX7_0 a2 h_a2) fX0_145 rfl dX0_resume_12 (fun c5 => ?_)
    refine aw_iload_n X 3 dX0_resume_15 rfl rfl ?_
    refine aw_iconst X dX0_resume_16 ?_
    obtain ⟨q6, e7, hf⟩ := z_bd hf
    refine aw_callN X [z_i (σ a2 5), z_i v3, z_i 0] [.ref (ad a2)] [z_i q6, .ref (ad a2)] cX0_148 (C_X11_withBit l D cA sa ad bs (σ a2 5) c5 v3 c_v3 0 (z_lit (x := 0) (by decide)) σ q6 e7) rfl ⟨(Nat.le_of_ble_eq_true rfl), (Nat.le_of_ble_eq_true rfl), (Nat.le_of_ble_eq_true rfl), (Nat.le_of_ble_eq_true rfl)⟩ rfl (Nat.le_of_ble_eq_true rfl) rfl dX0_resume_17 (fun p8 => ?_)
    refine aw_putI X (sX7_0 a2 h_a2) pX0_145 rfl p8 dX0_resume_20 ?_
    refine aw_aload_n X 2 dX0_resume_23 rfl rfl ?_
    refine aw_getI X (sX7_0 a2 h_a2) fX0_104 rfl dX0_resume_24 (fun c9 => ?_)
    obtain rfl := Option.some.inj hf
    exact aw_iret X c9 hr rfl dX0_resume_27
  · rw [if_pos h4] at hf
    refine aw_iconst X dX0_resume_8 ?_
    obtain rfl := Option.some.inj hf
    exact aw_iret X (z_lit (x := (-1)) (by decide)) hr rfl dX0_resume_9
-- SpeedDesk$Acts.standBest(LSpeedDesk$Chip;LSpeedDesk$State;)I
section S_X0_standBest
variable {p : Program} {l : Launch} {e : Env} {s : State} {m : MethodId} {args : Array Value} {below : List Frame} {meth : Method} {c : Code} {D : va_G} {cA : Nat → ClassId} {sa ad : Nat → Nat} {bs : Nat} {q : (Int × (Nat → Nat → Int))}

end S_X0_standBest
set_option maxHeartbeats 4000000 in
set_option maxRecDepth 100000 in
theorem C_X0_standBest (l : Launch) (D : va_G) (cA : Nat → ClassId) (sa ad : Nat → Nat) (bs : Nat) (a1 : Nat) (h_a1 : a1 ∈ ax_iX1) (a2 : Nat) (h_a2 : a2 ∈ ax_iX7) (σ : Nat → Nat → Int) (q : (Int × (Nat → Nat → Int))) (hf : f_X0_standBest a1 a2 σ = some q) : AM l D cA sa ad bs 788 SHp yX0_standBest cX0_standBest 4 (some .int) 1 [.ref (ad 742), .ref (ad a1), .ref (ad a2)] σ (some (z_i q.1)) (Z_I q.1) q.2 := by
  refine am_of (by decide +kernel) (Nat.le_of_ble_eq_true rfl) (fun p e s m args below meth c X hr => ?_)
  refine aw_lv (lv' := [(0, .ref (ad 742)), (1, .ref (ad a1)), (2, .ref (ad a2))]) rfl ?_
  unfold f_X0_standBest at hf
  refine aw_aload_n X 0 dX0_standBest_0 rfl rfl ?_
  refine aw_aload_n X 1 dX0_standBest_1 rfl rfl ?_
  refine aw_aload_n X 2 dX0_standBest_2 rfl rfl ?_
  obtain ⟨q1, e2, hf⟩ := z_bd hf
  refine aw_callV X [.ref (ad a1), .ref (ad a2)] [] [z_i q1] cX0_133 s_742 ciX0 (C_X0_movedForBest l D cA sa ad bs a1 h_a1 a2 h_a2 σ q1 e2) rfl ⟨(Nat.le_of_ble_eq_true rfl), (Nat.le_of_ble_eq_true rfl), (Nat.le_of_ble_eq_true rfl), (Nat.le_of_ble_eq_true rfl)⟩ rfl (Nat.le_of_ble_eq_true rfl) rfl dX0_standBest_3 (fun p3 => ?_)
  refine aw_istore_n X [(3, z_i q1), (0, .ref (ad 742)), (1, .ref (ad a1)), (2, .ref (ad a2))] dX0_standBest_6 rfl (by decide) rfl ?_
  refine aw_aload_n X 1 dX0_standBest_7 rfl rfl ?_
  refine aw_getR X s_742 fX0_21 rfl dX0_standBest_8 ?_
  refine aw_getR X s_745 fX0_139 rfl dX0_standBest_11 ?_
  refine aw_iconst X dX0_standBest_14 ?_
  refine aw_aload_n X 3 dX0_standBest_15 rfl rfl ?_
  refine aw_getR X (sX7_0 a2 h_a2) fX0_114 rfl dX0_standBest_16 ?_
  refine aw_iconst X dX0_standBest_19 ?_
  refine aw_iconst X dX0_standBest_20 ?_
  refine aw_cpyI X cX0_152 s_747 (sX7_1 a2 h_a2) (z_lit (x := 0) (by decide)) (z_lit (x := 0) (by decide)) (z_lit (x := 4) (by decide)) (by decide) (by decide) (by decide) (by decide) (by decide) ⟨(Nat.le_of_ble_eq_true rfl), (Nat.le_of_ble_eq_true rfl)⟩ dX0_standBest_21 ?_
  refine aw_iload_n X 0 dX0_standBest_24 rfl rfl ?_
  obtain rfl := Option.some.inj hf
  exact aw_iret X p3 hr rfl dX0_standBest_25
-- SpeedDesk$Acts.carryOut(LSpeedDesk$Chip;LSpeedDesk$State;LSpeedDesk$Step;)I
section S_X0_carryOut
variable {p : Program} {l : Launch} {e : Env} {s : State} {m : MethodId} {args : Array Value} {below : List Frame} {meth : Method} {c : Code} {D : va_G} {cA : Nat → ClassId} {sa ad : Nat → Nat} {bs : Nat} {q : (Int × (Nat → Nat → Int))}

end S_X0_carryOut
set_option maxHeartbeats 4000000 in
set_option maxRecDepth 100000 in
theorem C_X0_carryOut (l : Launch) (D : va_G) (cA : Nat → ClassId) (sa ad : Nat → Nat) (bs : Nat) (a1 : Nat) (h_a1 : a1 ∈ ax_iX1) (a2 : Nat) (h_a2 : a2 ∈ ax_iX7) (a3 : Nat) (h_a3 : a3 ∈ ax_iX8) (σ : Nat → Nat → Int) (q : (Int × (Nat → Nat → Int))) (hf : f_X0_carryOut a1 a2 a3 σ = some q) : AM l D cA sa ad bs 788 SHp yX0_carryOut cX0_carryOut 5 (some .int) 4 [.ref (ad 742), .ref (ad a1), .ref (ad a2), .ref (ad a3)] σ (some (z_i q.1)) (Z_I q.1) q.2 := by
  refine am_of (by decide +kernel) (Nat.le_of_ble_eq_true rfl) (fun p e s m args below meth c X hr => ?_)
  refine aw_lv (lv' := [(0, .ref (ad 742)), (1, .ref (ad a1)), (2, .ref (ad a2)), (3, .ref (ad a3))]) rfl ?_
  unfold f_X0_carryOut at hf
  refine aw_aload_n X 3 dX0_carryOut_0 rfl rfl ?_
  refine aw_getR X (sX8_0 a3 h_a3) fX0_25 rfl dX0_carryOut_1 ?_
  refine aw_iconst X dX0_carryOut_4 ?_
  refine aw_iald X (j := 0) (sX8_1 a3 h_a3) (z_lit (x := 0) (by decide)) (by decide) (by decide) rfl dX0_carryOut_5 (fun c1 => ?_)
  refine aw_istore X [(4, z_i (σ (a3 + 1) 0)), (0, .ref (ad 742)), (1, .ref (ad a1)), (2, .ref (ad a2)), (3, .ref (ad a3))] dX0_carryOut_6 (by decide) rfl ?_
  refine aw_aload_n X 4 dX0_carryOut_8 rfl rfl ?_
  refine aw_getI X (sX8_0 a3 h_a3) fX0_31 rfl dX0_carryOut_9 (fun c2 => ?_)
  by_cases h3 : (σ a3 1) = 0
  · rw [if_pos h3] at hf
    refine aw_tabIn X (tgt := 52) c2 dX0_carryOut_12 (by omega) (by omega) (by rw [h3]; rfl) (by decide) ?_
    refine aw_aload_n X 1 dX0_carryOut_52 rfl rfl ?_
    refine aw_getR X s_742 fX0_12 rfl dX0_carryOut_53 ?_
    refine aw_aload_n X 2 dX0_carryOut_56 rfl rfl ?_
    refine aw_aload_n X 3 dX0_carryOut_57 rfl rfl ?_
    refine aw_iload X 0 dX0_carryOut_58 rfl ?_
    obtain ⟨q4, e5, hf⟩ := z_bd hf
    refine aw_callV X [.ref (ad a1), .ref (ad a2), z_i (σ (a3 + 1) 0)] [] [z_i q4.1] cX0_58 s_743 ciX2 (C_X2_passMany l D cA sa ad bs a1 h_a1 a2 h_a2 (σ (a3 + 1) 0) c1 σ q4 e5) rfl ⟨(Nat.le_of_ble_eq_true rfl), (Nat.le_of_ble_eq_true rfl), (Nat.le_of_ble_eq_true rfl), (Nat.le_of_ble_eq_true rfl)⟩ rfl (Nat.le_of_ble_eq_true rfl) rfl dX0_carryOut_60 (fun p6 => ?_)
    obtain rfl := Option.some.inj hf
    exact aw_iret X p6 hr rfl dX0_carryOut_63
  rw [if_neg h3] at hf
  by_cases h7 : (σ a3 1) = 1
  · rw [if_pos h7] at hf
    refine aw_tabIn X (tgt := 64) c2 dX0_carryOut_12 (by omega) (by omega) (by rw [h7]; rfl) (by decide) ?_
    refine aw_aload_n X 1 dX0_carryOut_64 rfl rfl ?_
    refine aw_aload_n X 2 dX0_carryOut_65 rfl rfl ?_
    refine aw_aload_n X 3 dX0_carryOut_66 rfl rfl ?_
    refine aw_iload X 0 dX0_carryOut_67 rfl ?_
    refine aw_aload_n X 4 dX0_carryOut_69 rfl rfl ?_
    refine aw_getR X (sX8_0 a3 h_a3) fX0_25 rfl dX0_carryOut_70 ?_
    refine aw_iconst X dX0_carryOut_73 ?_
    refine aw_iald X (j := 1) (sX8_1 a3 h_a3) (z_lit (x := 1) (by decide)) (by decide) (by decide) rfl dX0_carryOut_74 (fun c8 => ?_)
    obtain ⟨q9, e10, hf⟩ := z_bd hf
    refine aw_callV X [.ref (ad a1), .ref (ad a2), z_i (σ (a3 + 1) 0), z_i (σ (a3 + 1) 1)] [] [z_i q9.1] cX0_61 s_742 ciX0 (C_X0_putOn l D cA sa ad bs a1 h_a1 a2 h_a2 (σ (a3 + 1) 0) c1 (σ (a3 + 1) 1) c8 σ q9 e10) rfl ⟨(Nat.le_of_ble_eq_true rfl), (Nat.le_of_ble_eq_true rfl), (Nat.le_of_ble_eq_true rfl), (Nat.le_of_ble_eq_true rfl)⟩ rfl (Nat.le_of_ble_eq_true rfl) rfl dX0_carryOut_75 (fun p11 => ?_)
    obtain rfl := Option.some.inj hf
    exact aw_iret X p11 hr rfl dX0_carryOut_78
  rw [if_neg h7] at hf
  by_cases h12 : (σ a3 1) = 2
  · rw [if_pos h12] at hf
    refine aw_tabIn X (tgt := 79) c2 dX0_carryOut_12 (by omega) (by omega) (by rw [h12]; rfl) (by decide) ?_
    refine aw_aload_n X 3 dX0_carryOut_79 rfl rfl ?_
    refine aw_aload_n X 4 dX0_carryOut_80 rfl rfl ?_
    refine aw_getL X (sX8_0 a3 h_a3) fX0_64 rfl dX0_carryOut_81 (fun c13 => ?_)
    refine aw_iload X 0 dX0_carryOut_84 rfl ?_
    refine aw_aload_n X 4 dX0_carryOut_86 rfl rfl ?_
    refine aw_getR X (sX8_0 a3 h_a3) fX0_25 rfl dX0_carryOut_87 ?_
    refine aw_iconst X dX0_carryOut_90 ?_
    refine aw_iald X (j := 1) (sX8_1 a3 h_a3) (z_lit (x := 1) (by decide)) (by decide) (by decide) rfl dX0_carryOut_91 (fun c14 => ?_)
    refine aw_aload_n X 4 dX0_carryOut_92 rfl rfl ?_
    refine aw_getR X (sX8_0 a3 h_a3) fX0_25 rfl dX0_carryOut_93 ?_
    refine aw_iconst X dX0_carryOut_96 ?_
    refine aw_iald X (j := 2) (sX8_1 a3 h_a3) (z_lit (x := 2) (by decide)) (by decide) (by decide) rfl dX0_carryOut_97 (fun c15 => ?_)
    obtain ⟨q16, e17, hf⟩ := z_bd hf
    refine aw_callV X [z_v (σ a3 2), z_i (σ (a3 + 1) 0), z_i (σ (a3 + 1) 1), z_i (σ (a3 + 1) 2)] [] [z_i q16.1] cX0_68 (sX7_0 a2 h_a2) ciX7 (C_X7_tell l D cA sa ad bs a2 h_a2 (σ a3 2) c13 (σ (a3 + 1) 0) c1 (σ (a3 + 1) 1) c14 (σ (a3 + 1) 2) c15 σ q16 e17) rfl ⟨(Nat.le_of_ble_eq_true rfl), (Nat.le_of_ble_eq_true rfl), (Nat.le_of_ble_eq_true rfl), (Nat.le_of_ble_eq_true rfl)⟩ rfl (Nat.le_of_ble_eq_true rfl) rfl dX0_carryOut_98 (fun p18 => ?_)
    obtain rfl := Option.some.inj hf
    exact aw_iret X p18 hr rfl dX0_carryOut_101
  rw [if_neg h12] at hf
  by_cases h19 : (σ a3 1) = 3
  · rw [if_pos h19] at hf
    refine aw_tabIn X (tgt := 102) c2 dX0_carryOut_12 (by omega) (by omega) (by rw [h19]; rfl) (by decide) ?_
    refine aw_aload_n X 3 dX0_carryOut_102 rfl rfl ?_
    refine aw_aload_n X 3 dX0_carryOut_103 rfl rfl ?_
    refine aw_aload_n X 4 dX0_carryOut_104 rfl rfl ?_
    refine aw_getL X (sX8_0 a3 h_a3) fX0_64 rfl dX0_carryOut_105 (fun c20 => ?_)
    refine aw_iload X 0 dX0_carryOut_108 rfl ?_
    obtain ⟨q21, e22, hf⟩ := z_bd hf
    refine aw_callV X [z_v (σ a3 2), z_i (σ (a3 + 1) 0)] [.ref (ad a2)] [z_i q21, .ref (ad a2)] cX0_74 (sX7_0 a2 h_a2) ciX7 (C_X7_askOf l D cA sa ad bs a2 h_a2 (σ a3 2) c20 (σ (a3 + 1) 0) c1 σ q21 e22) rfl ⟨(Nat.le_of_ble_eq_true rfl), (Nat.le_of_ble_eq_true rfl), (Nat.le_of_ble_eq_true rfl), (Nat.le_of_ble_eq_true rfl)⟩ rfl (Nat.le_of_ble_eq_true rfl) rfl dX0_carryOut_110 (fun p23 => ?_)
    obtain ⟨q24, e25, hf⟩ := z_bd hf
    refine aw_callV X [z_i q21] [] [] cX0_78 (sX7_0 a2 h_a2) ciX7 (C_X7_forgetAsk l D cA sa ad bs a2 h_a2 q21 p23 σ q24 e25) rfl ⟨(Nat.le_of_ble_eq_true rfl), (Nat.le_of_ble_eq_true rfl), (Nat.le_of_ble_eq_true rfl), (Nat.le_of_ble_eq_true rfl)⟩ rfl (Nat.le_of_ble_eq_true rfl) rfl dX0_carryOut_113 (fun p26 => ?_)
    refine aw_aload_n X 3 dX0_carryOut_116 rfl rfl ?_
    refine aw_getI X (sX7_0 a2 h_a2) fX0_82 rfl dX0_carryOut_117 (fun c27 => ?_)
    obtain rfl := Option.some.inj hf
    exact aw_iret X c27 hr rfl dX0_carryOut_120
  rw [if_neg h19] at hf
  by_cases h28 : (σ a3 1) = 4
  · rw [if_pos h28] at hf
    refine aw_tabIn X (tgt := 121) c2 dX0_carryOut_12 (by omega) (by omega) (by rw [h28]; rfl) (by decide) ?_
    refine aw_aload_n X 1 dX0_carryOut_121 rfl rfl ?_
    refine aw_aload_n X 2 dX0_carryOut_122 rfl rfl ?_
    refine aw_aload_n X 3 dX0_carryOut_123 rfl rfl ?_
    refine aw_iload X 0 dX0_carryOut_124 rfl ?_
    obtain ⟨q29, e30, hf⟩ := z_bd hf
    refine aw_callV X [.ref (ad a1), .ref (ad a2), z_i (σ (a3 + 1) 0)] [] [z_i q29.1] cX0_85 s_742 ciX0 (C_X0_halt l D cA sa ad bs a1 h_a1 a2 h_a2 (σ (a3 + 1) 0) c1 σ q29 e30) rfl ⟨(Nat.le_of_ble_eq_true rfl), (Nat.le_of_ble_eq_true rfl), (Nat.le_of_ble_eq_true rfl), (Nat.le_of_ble_eq_true rfl)⟩ rfl (Nat.le_of_ble_eq_true rfl) rfl dX0_carryOut_126 (fun p31 => ?_)
    obtain rfl := Option.some.inj hf
    exact aw_iret X p31 hr rfl dX0_carryOut_129
  rw [if_neg h28] at hf
  by_cases h32 : (σ a3 1) = 5
  · rw [if_pos h32] at hf
    refine aw_tabIn X (tgt := 130) c2 dX0_carryOut_12 (by omega) (by omega) (by rw [h32]; rfl) (by decide) ?_
    refine aw_aload_n X 1 dX0_carryOut_130 rfl rfl ?_
    refine aw_aload_n X 2 dX0_carryOut_131 rfl rfl ?_
    refine aw_aload_n X 3 dX0_carryOut_132 rfl rfl ?_
    refine aw_iload X 0 dX0_carryOut_133 rfl ?_
    obtain ⟨q33, e34, hf⟩ := z_bd hf
    refine aw_callV X [.ref (ad a1), .ref (ad a2), z_i (σ (a3 + 1) 0)] [] [z_i q33.1] cX0_88 s_742 ciX0 (C_X0_resume l D cA sa ad bs a1 h_a1 a2 h_a2 (σ (a3 + 1) 0) c1 σ q33 e34) rfl ⟨(Nat.le_of_ble_eq_true rfl), (Nat.le_of_ble_eq_true rfl), (Nat.le_of_ble_eq_true rfl), (Nat.le_of_ble_eq_true rfl)⟩ rfl (Nat.le_of_ble_eq_true rfl) rfl dX0_carryOut_135 (fun p35 => ?_)
    obtain rfl := Option.some.inj hf
    exact aw_iret X p35 hr rfl dX0_carryOut_138
  rw [if_neg h32] at hf
  refine aw_tabOut X (tgt := 139) c2 dX0_carryOut_12 (by omega) (by decide) ?_
  refine aw_aload_n X 1 dX0_carryOut_139 rfl rfl ?_
  refine aw_getR X s_742 fX0_21 rfl dX0_carryOut_140 ?_
  refine aw_aload_n X 2 dX0_carryOut_143 rfl rfl ?_
  refine aw_aload_n X 3 dX0_carryOut_144 rfl rfl ?_
  obtain ⟨q36, e37, hf⟩ := z_bd hf
  refine aw_callV X [.ref (ad a1), .ref (ad a2)] [] [z_i q36.1] cX0_91 s_745 ciX5 (C_X5_findBest l D cA sa ad bs a1 h_a1 a2 h_a2 σ q36 e37) rfl ⟨(Nat.le_of_ble_eq_true rfl), (Nat.le_of_ble_eq_true rfl), (Nat.le_of_ble_eq_true rfl), (Nat.le_of_ble_eq_true rfl)⟩ rfl (Nat.le_of_ble_eq_true rfl) rfl dX0_carryOut_145 (fun p38 => ?_)
  refine aw_if_eq X (tgt := 160) (z_zI p38) dX0_carryOut_148 (by decide) (fun h39 => ?_) (fun h39 => ?_)
  · rw [if_pos h39] at hf
    refine aw_iconst X dX0_carryOut_160 ?_
    obtain rfl := Option.some.inj hf
    exact aw_iret X (z_lit (x := (-1)) (by decide)) hr rfl dX0_carryOut_161
  · rw [if_neg h39] at hf
    refine aw_aload_n X 1 dX0_carryOut_151 rfl rfl ?_
    refine aw_aload_n X 2 dX0_carryOut_152 rfl rfl ?_
    refine aw_aload_n X 3 dX0_carryOut_153 rfl rfl ?_
    obtain ⟨q40, e41, hf⟩ := z_bd hf
    refine aw_callV X [.ref (ad a1), .ref (ad a2)] [] [z_i q40.1] cX0_95 s_742 ciX0 (C_X0_standBest l D cA sa ad bs a1 h_a1 a2 h_a2 q36.2 q40 e41) rfl ⟨(Nat.le_of_ble_eq_true rfl), (Nat.le_of_ble_eq_true rfl), (Nat.le_of_ble_eq_true rfl), (Nat.le_of_ble_eq_true rfl)⟩ rfl (Nat.le_of_ble_eq_true rfl) rfl dX0_carryOut_154 (fun p42 => ?_)
    refine aw_goto X (tgt := 161) dX0_carryOut_157 (by decide) ?_
    obtain rfl := Option.some.inj hf
    exact aw_iret X p42 hr rfl dX0_carryOut_161
-- SpeedDesk.feed(IIIII)I
section S_X11_feed
variable {p : Program} {l : Launch} {e : Env} {s : State} {m : MethodId} {args : Array Value} {below : List Frame} {meth : Method} {c : Code} {D : va_G} {cA : Nat → ClassId} {sa ad : Nat → Nat} {bs : Nat} {q : (Int × (Nat → Nat → Int))}

end S_X11_feed
set_option maxHeartbeats 4000000 in
set_option maxRecDepth 100000 in
theorem C_X11_feed (l : Launch) (D : va_G) (cA : Nat → ClassId) (sa ad : Nat → Nat) (bs : Nat) (v1 : Int) (c_v1 : Z_I v1) (v2 : Int) (c_v2 : Z_I v2) (v3 : Int) (c_v3 : Z_I v3) (v4 : Int) (c_v4 : Z_I v4) (v5 : Int) (c_v5 : Z_I v5) (σ : Nat → Nat → Int) (q : (Int × (Nat → Nat → Int))) (hf : f_X11_feed v1 v2 v3 v4 v5 σ = some q) : AM l D cA sa ad bs 788 SHp yX11_feed cX11_feed 7 (some .int) 1 [.ref (ad 0), z_i v1, z_i v2, z_i v3, z_i v4, z_i v5] σ (some (z_i q.1)) (Z_I q.1) q.2 := by
  refine am_of (by decide +kernel) (Nat.le_of_ble_eq_true rfl) (fun p e s m args below meth c X hr => ?_)
  refine aw_lv (lv' := [(0, .ref (ad 0)), (1, z_i v1), (2, z_i v2), (3, z_i v3), (4, z_i v4), (5, z_i v5)]) rfl ?_
  unfold f_X11_feed at hf
  refine aw_iload_n X 1 dX11_feed_0 rfl rfl ?_
  obtain ⟨q1, e2, hf⟩ := z_bd hf
  refine aw_callS X [z_i v1] [] [z_i q1] cX11_97 (C_X9_bytesOf l D cA sa ad bs v1 c_v1 σ q1 e2) rfl ⟨(Nat.le_of_ble_eq_true rfl), (Nat.le_of_ble_eq_true rfl), (Nat.le_of_ble_eq_true rfl), (Nat.le_of_ble_eq_true rfl)⟩ rfl (Nat.le_of_ble_eq_true rfl) rfl dX11_feed_1 (fun p3 => ?_)
  refine aw_iload_n X 2 dX11_feed_4 rfl rfl ?_
  obtain ⟨q4, e5, hf⟩ := z_bd hf
  refine aw_callS X [z_i v2] [z_i q1] [z_i q4, z_i q1] cX11_97 (C_X9_bytesOf l D cA sa ad bs v2 c_v2 σ q4 e5) rfl ⟨(Nat.le_of_ble_eq_true rfl), (Nat.le_of_ble_eq_true rfl), (Nat.le_of_ble_eq_true rfl), (Nat.le_of_ble_eq_true rfl)⟩ rfl (Nat.le_of_ble_eq_true rfl) rfl dX11_feed_5 (fun p6 => ?_)
  refine aw_iadd X dX11_feed_8 ?_
  refine aw_iload_n X 3 dX11_feed_9 rfl rfl ?_
  obtain ⟨q7, e8, hf⟩ := z_bd hf
  refine aw_callS X [z_i v3] [z_i (z_w (q1 + q4))] [z_i q7, z_i (z_w (q1 + q4))] cX11_97 (C_X9_bytesOf l D cA sa ad bs v3 c_v3 σ q7 e8) rfl ⟨(Nat.le_of_ble_eq_true rfl), (Nat.le_of_ble_eq_true rfl), (Nat.le_of_ble_eq_true rfl), (Nat.le_of_ble_eq_true rfl)⟩ rfl (Nat.le_of_ble_eq_true rfl) rfl dX11_feed_10 (fun p9 => ?_)
  refine aw_iadd X dX11_feed_13 ?_
  refine aw_iload X 4 dX11_feed_14 rfl ?_
  obtain ⟨q10, e11, hf⟩ := z_bd hf
  refine aw_callS X [z_i v4] [z_i (z_w ((z_w (q1 + q4)) + q7))] [z_i q10, z_i (z_w ((z_w (q1 + q4)) + q7))] cX11_97 (C_X9_bytesOf l D cA sa ad bs v4 c_v4 σ q10 e11) rfl ⟨(Nat.le_of_ble_eq_true rfl), (Nat.le_of_ble_eq_true rfl), (Nat.le_of_ble_eq_true rfl), (Nat.le_of_ble_eq_true rfl)⟩ rfl (Nat.le_of_ble_eq_true rfl) rfl dX11_feed_16 (fun p12 => ?_)
  refine aw_iadd X dX11_feed_19 ?_
  refine aw_iload X 5 dX11_feed_20 rfl ?_
  obtain ⟨q13, e14, hf⟩ := z_bd hf
  refine aw_callS X [z_i v5] [z_i (z_w ((z_w ((z_w (q1 + q4)) + q7)) + q10))] [z_i q13, z_i (z_w ((z_w ((z_w (q1 + q4)) + q7)) + q10))] cX11_97 (C_X9_bytesOf l D cA sa ad bs v5 c_v5 σ q13 e14) rfl ⟨(Nat.le_of_ble_eq_true rfl), (Nat.le_of_ble_eq_true rfl), (Nat.le_of_ble_eq_true rfl), (Nat.le_of_ble_eq_true rfl)⟩ rfl (Nat.le_of_ble_eq_true rfl) rfl dX11_feed_22 (fun p15 => ?_)
  refine aw_iadd X dX11_feed_25 ?_
  refine aw_istore X [(6, z_i (z_w ((z_w ((z_w ((z_w (q1 + q4)) + q7)) + q10)) + q13))), (0, .ref (ad 0)), (1, z_i v1), (2, z_i v2), (3, z_i v3), (4, z_i v4), (5, z_i v5)] dX11_feed_26 (by decide) rfl ?_
  refine aw_aload_n X 1 dX11_feed_28 rfl rfl ?_
  refine aw_getR X s_0 fX11_20 rfl dX11_feed_29 ?_
  refine aw_getI X s_2 fX11_103 rfl dX11_feed_32 (fun c16 => ?_)
  refine aw_iload X 0 dX11_feed_35 rfl ?_
  refine aw_iadd X dX11_feed_37 ?_
  refine aw_sipush X dX11_feed_38 (by decide) ?_
  refine aw_icmp_le X (tgt := 46) (z_w_in _) (z_lit (x := 320) (by decide)) dX11_feed_41 (by decide) (fun h17 => ?_) (fun h17 => ?_)
  · rw [if_pos h17] at hf
    refine aw_aload_n X 1 dX11_feed_46 rfl rfl ?_
    refine aw_getR X s_0 fX11_20 rfl dX11_feed_47 ?_
    refine aw_iload_n X 2 dX11_feed_50 rfl rfl ?_
    obtain ⟨q18, e19, hf⟩ := z_bd hf
    refine aw_callV X [z_i v1] [] [] cX11_107 s_2 ciX9 (C_X9_append l D cA sa ad bs v1 c_v1 σ q18 e19) rfl ⟨(Nat.le_of_ble_eq_true rfl), (Nat.le_of_ble_eq_true rfl), (Nat.le_of_ble_eq_true rfl), (Nat.le_of_ble_eq_true rfl)⟩ rfl (Nat.le_of_ble_eq_true rfl) rfl dX11_feed_51 (fun p20 => ?_)
    refine aw_aload_n X 1 dX11_feed_54 rfl rfl ?_
    refine aw_getR X s_0 fX11_20 rfl dX11_feed_55 ?_
    refine aw_iload_n X 3 dX11_feed_58 rfl rfl ?_
    obtain ⟨q21, e22, hf⟩ := z_bd hf
    refine aw_callV X [z_i v2] [] [] cX11_107 s_2 ciX9 (C_X9_append l D cA sa ad bs v2 c_v2 q18 q21 e22) rfl ⟨(Nat.le_of_ble_eq_true rfl), (Nat.le_of_ble_eq_true rfl), (Nat.le_of_ble_eq_true rfl), (Nat.le_of_ble_eq_true rfl)⟩ rfl (Nat.le_of_ble_eq_true rfl) rfl dX11_feed_59 (fun p23 => ?_)
    refine aw_aload_n X 1 dX11_feed_62 rfl rfl ?_
    refine aw_getR X s_0 fX11_20 rfl dX11_feed_63 ?_
    refine aw_iload_n X 4 dX11_feed_66 rfl rfl ?_
    obtain ⟨q24, e25, hf⟩ := z_bd hf
    refine aw_callV X [z_i v3] [] [] cX11_107 s_2 ciX9 (C_X9_append l D cA sa ad bs v3 c_v3 q21 q24 e25) rfl ⟨(Nat.le_of_ble_eq_true rfl), (Nat.le_of_ble_eq_true rfl), (Nat.le_of_ble_eq_true rfl), (Nat.le_of_ble_eq_true rfl)⟩ rfl (Nat.le_of_ble_eq_true rfl) rfl dX11_feed_67 (fun p26 => ?_)
    refine aw_aload_n X 1 dX11_feed_70 rfl rfl ?_
    refine aw_getR X s_0 fX11_20 rfl dX11_feed_71 ?_
    refine aw_iload X 5 dX11_feed_74 rfl ?_
    obtain ⟨q27, e28, hf⟩ := z_bd hf
    refine aw_callV X [z_i v4] [] [] cX11_107 s_2 ciX9 (C_X9_append l D cA sa ad bs v4 c_v4 q24 q27 e28) rfl ⟨(Nat.le_of_ble_eq_true rfl), (Nat.le_of_ble_eq_true rfl), (Nat.le_of_ble_eq_true rfl), (Nat.le_of_ble_eq_true rfl)⟩ rfl (Nat.le_of_ble_eq_true rfl) rfl dX11_feed_76 (fun p29 => ?_)
    refine aw_aload_n X 1 dX11_feed_79 rfl rfl ?_
    refine aw_getR X s_0 fX11_20 rfl dX11_feed_80 ?_
    refine aw_iload X 6 dX11_feed_83 rfl ?_
    obtain ⟨q30, e31, hf⟩ := z_bd hf
    refine aw_callV X [z_i v5] [] [] cX11_107 s_2 ciX9 (C_X9_append l D cA sa ad bs v5 c_v5 q27 q30 e31) rfl ⟨(Nat.le_of_ble_eq_true rfl), (Nat.le_of_ble_eq_true rfl), (Nat.le_of_ble_eq_true rfl), (Nat.le_of_ble_eq_true rfl)⟩ rfl (Nat.le_of_ble_eq_true rfl) rfl dX11_feed_85 (fun p32 => ?_)
    refine aw_aload_n X 1 dX11_feed_88 rfl rfl ?_
    refine aw_getR X s_0 fX11_20 rfl dX11_feed_89 ?_
    refine aw_getI X s_2 fX11_103 rfl dX11_feed_92 (fun c33 => ?_)
    obtain rfl := Option.some.inj hf
    exact aw_iret X c33 hr rfl dX11_feed_95
  · rw [if_neg h17] at hf
    refine aw_iconst X dX11_feed_44 ?_
    obtain rfl := Option.some.inj hf
    exact aw_iret X (z_lit (x := (-1)) (by decide)) hr rfl dX11_feed_45
-- SpeedDesk.end(I)Z
section S_X11_end
variable {p : Program} {l : Launch} {e : Env} {s : State} {m : MethodId} {args : Array Value} {below : List Frame} {meth : Method} {c : Code} {D : va_G} {cA : Nat → ClassId} {sa ad : Nat → Nat} {bs : Nat} {q : (Int × (Nat → Nat → Int))}

end S_X11_end
set_option maxHeartbeats 4000000 in
set_option maxRecDepth 100000 in
theorem C_X11_end (l : Launch) (D : va_G) (cA : Nat → ClassId) (sa ad : Nat → Nat) (bs : Nat) (v1 : Int) (c_v1 : Z_I v1) (σ : Nat → Nat → Int) (q : (Int × (Nat → Nat → Int))) (hf : f_X11_end v1 σ = some q) : AM l D cA sa ad bs 788 SHp yX11_end cX11_end 2 (some .boolean) 0 [.ref (ad 0), z_i v1] σ (some (z_i q.1)) (q.1 = 0 ∨ q.1 = 1) q.2 := by
  refine am_of (by decide +kernel) (Nat.le_of_ble_eq_true rfl) (fun p e s m args below meth c X hr => ?_)
  refine aw_lv (lv' := [(0, .ref (ad 0)), (1, z_i v1)]) rfl ?_
  unfold f_X11_end at hf
  refine aw_iload_n X 1 dX11_end_0 rfl rfl ?_
  refine aw_if_lt X (tgt := 15) c_v1 dX11_end_1 (by decide) (fun h1 => ?_) (fun h1 => ?_)
  · rw [if_pos h1] at hf
    refine aw_iconst X dX11_end_15 ?_
    obtain rfl := Option.some.inj hf
    exact aw_zret X (Or.inl rfl) hr (Or.inl rfl) rfl dX11_end_16
  · rw [if_neg h1] at hf
    refine aw_iload_n X 1 dX11_end_4 rfl rfl ?_
    refine aw_aload_n X 0 dX11_end_5 rfl rfl ?_
    refine aw_getR X s_0 fX11_20 rfl dX11_end_6 ?_
    refine aw_getI X s_2 fX11_103 rfl dX11_end_9 (fun c2 => ?_)
    refine aw_icmp_le X (tgt := 17) c_v1 c2 dX11_end_12 (by decide) (fun h3 => ?_) (fun h3 => ?_)
    · rw [if_pos h3] at hf
      refine aw_aload_n X 0 dX11_end_17 rfl rfl ?_
      refine aw_getR X s_0 fX11_20 rfl dX11_end_18 ?_
      refine aw_iload_n X 1 dX11_end_21 rfl rfl ?_
      refine aw_putI X s_2 pX11_103 rfl c_v1 dX11_end_22 ?_
      refine aw_iconst X dX11_end_25 ?_
      obtain rfl := Option.some.inj hf
      exact aw_zret X (Or.inr rfl) hr (Or.inr rfl) rfl dX11_end_26
    · rw [if_neg h3] at hf
      refine aw_iconst X dX11_end_15 ?_
      obtain rfl := Option.some.inj hf
      exact aw_zret X (Or.inl rfl) hr (Or.inl rfl) rfl dX11_end_16
-- SpeedDesk.spareScript()LSpeedDesk$Script;
section S_X11_spareScript
variable {p : Program} {l : Launch} {e : Env} {s : State} {m : MethodId} {args : Array Value} {below : List Frame} {meth : Method} {c : Code} {D : va_G} {cA : Nat → ClassId} {sa ad : Nat → Nat} {bs : Nat} {q : Nat}

end S_X11_spareScript
set_option maxHeartbeats 4000000 in
set_option maxRecDepth 100000 in
theorem C_X11_spareScript (l : Launch) (D : va_G) (cA : Nat → ClassId) (sa ad : Nat → Nat) (bs : Nat)  (σ : Nat → Nat → Int) (q : Nat) (hf : f_X11_spareScript σ = some q) : AM l D cA sa ad bs 788 SHp yX11_spareScript cX11_spareScript 1 (some (.object "SpeedDesk$Script")) 1 [.ref (ad 0)] σ (some (.ref (ad q))) (q ∈ ax_iX6) σ := by
  refine am_of (by decide +kernel) (Nat.le_of_ble_eq_true rfl) (fun p e s m args below meth c X hr => ?_)
  refine aw_lv (lv' := [(0, .ref (ad 0))]) rfl ?_
  unfold f_X11_spareScript at hf
  refine aw_aload_n X 0 dX11_spareScript_0 rfl rfl ?_
  refine aw_getR X s_0 fX11_35 rfl dX11_spareScript_1 ?_
  refine aw_aload_n X 0 dX11_spareScript_4 rfl rfl ?_
  refine aw_getI X s_0 fX11_134 rfl dX11_spareScript_5 (fun c1 => ?_)
  refine aw_iconst X dX11_spareScript_8 ?_
  refine aw_min X c1 (z_lit (x := 4) (by decide)) cX11_421 ⟨(Nat.le_of_ble_eq_true rfl), (Nat.le_of_ble_eq_true rfl), (Nat.le_of_ble_eq_true rfl), (Nat.le_of_ble_eq_true rfl)⟩ dX11_spareScript_9 ?_
  obtain ⟨g2, hf⟩ := z_gd hf
  refine aw_aald X (kd := 0) s_42 (by decide) (z_min_in c1 (z_lit (x := 4) (by decide))) g2.1 g2.2 (tg_script _ (by omega)) dX11_spareScript_12 ?_
  obtain rfl := Option.some.inj hf
  exact aw_aret X (s_script (min (σ 0 5) 4).toNat (by omega)) hr rfl dX11_spareScript_13
-- SpeedDesk.fault(I)I
section S_X11_fault
variable {p : Program} {l : Launch} {e : Env} {s : State} {m : MethodId} {args : Array Value} {below : List Frame} {meth : Method} {c : Code} {D : va_G} {cA : Nat → ClassId} {sa ad : Nat → Nat} {bs : Nat} {q : (Int × (Nat → Nat → Int))}

end S_X11_fault
set_option maxHeartbeats 4000000 in
set_option maxRecDepth 100000 in
theorem C_X11_fault (l : Launch) (D : va_G) (cA : Nat → ClassId) (sa ad : Nat → Nat) (bs : Nat) (v1 : Int) (c_v1 : Z_I v1) (σ : Nat → Nat → Int) (q : (Int × (Nat → Nat → Int))) (hf : f_X11_fault v1 σ = some q) : AM l D cA sa ad bs 788 SHp yX11_fault cX11_fault 2 (some .int) 11 [.ref (ad 0), z_i v1] σ (some (z_i q.1)) (Z_I q.1) q.2 := by
  refine am_of (by decide +kernel) (Nat.le_of_ble_eq_true rfl) (fun p e s m args below meth c X hr => ?_)
  refine aw_lv (lv' := [(0, .ref (ad 0)), (1, z_i v1)]) rfl ?_
  unfold f_X11_fault at hf
  refine aw_iload_n X 1 dX11_fault_0 rfl rfl ?_
  by_cases h1 : v1 = 0
  · rw [if_pos h1] at hf
    refine aw_tabIn X (tgt := 28) c_v1 dX11_fault_1 (by omega) (by omega) (by rw [h1]; rfl) (by decide) ?_
    refine aw_aload_n X 0 dX11_fault_28 rfl rfl ?_
    refine aw_getR X s_0 fX11_12 rfl dX11_fault_29 ?_
    refine aw_aload_n X 0 dX11_fault_32 rfl rfl ?_
    obtain ⟨g2, hf⟩ := z_gd hf
    refine aw_getV X s_0 fX11_28 rfl dX11_fault_33 ?_
    obtain ⟨q3, e4, hf⟩ := z_bd hf
    refine aw_callV X [.ref (ad ((σ 0 3).toNat))] [] [z_i q3.1] cX11_111 s_1 ciX10 (C_X10_readChip l D cA sa ad bs ((σ 0 3).toNat) g2 σ q3 e4) rfl ⟨(Nat.le_of_ble_eq_true rfl), (Nat.le_of_ble_eq_true rfl), (Nat.le_of_ble_eq_true rfl), (Nat.le_of_ble_eq_true rfl)⟩ rfl (Nat.le_of_ble_eq_true rfl) rfl dX11_fault_36 (fun p5 => ?_)
    obtain rfl := Option.some.inj hf
    exact aw_iret X p5 hr rfl dX11_fault_39
  rw [if_neg h1] at hf
  by_cases h6 : v1 = 1
  · rw [if_pos h6] at hf
    refine aw_tabIn X (tgt := 40) c_v1 dX11_fault_1 (by omega) (by omega) (by rw [h6]; rfl) (by decide) ?_
    refine aw_aload_n X 0 dX11_fault_40 rfl rfl ?_
    refine aw_getR X s_0 fX11_12 rfl dX11_fault_41 ?_
    refine aw_aload_n X 0 dX11_fault_44 rfl rfl ?_
    obtain ⟨q7, e8, hf⟩ := z_bd hf
    refine aw_callV X [] [.ref (ad 1)] [.ref (ad q7), .ref (ad 1)] cX11_115 s_0 ciX11 (C_X11_spareScript l D cA sa ad bs σ q7 e8) rfl ⟨(Nat.le_of_ble_eq_true rfl), (Nat.le_of_ble_eq_true rfl), (Nat.le_of_ble_eq_true rfl), (Nat.le_of_ble_eq_true rfl)⟩ rfl (Nat.le_of_ble_eq_true rfl) rfl dX11_fault_45 (fun p9 => ?_)
    obtain ⟨q10, e11, hf⟩ := z_bd hf
    refine aw_callV X [.ref (ad q7)] [] [z_i q10.1] cX11_119 s_1 ciX10 (C_X10_readScript l D cA sa ad bs q7 p9 σ q10 e11) rfl ⟨(Nat.le_of_ble_eq_true rfl), (Nat.le_of_ble_eq_true rfl), (Nat.le_of_ble_eq_true rfl), (Nat.le_of_ble_eq_true rfl)⟩ rfl (Nat.le_of_ble_eq_true rfl) rfl dX11_fault_48 (fun p12 => ?_)
    obtain rfl := Option.some.inj hf
    exact aw_iret X p12 hr rfl dX11_fault_51
  rw [if_neg h6] at hf
  by_cases h13 : v1 = 2
  · rw [if_pos h13] at hf
    refine aw_tabIn X (tgt := 52) c_v1 dX11_fault_1 (by omega) (by omega) (by rw [h13]; rfl) (by decide) ?_
    refine aw_aload_n X 0 dX11_fault_52 rfl rfl ?_
    refine aw_getR X s_0 fX11_12 rfl dX11_fault_53 ?_
    obtain ⟨q14, e15, hf⟩ := z_bd hf
    refine aw_callV X [] [] [z_v q14.1] cX11_123 s_1 ciX10 (C_X10_readAsker l D cA sa ad bs σ q14 e15) rfl ⟨(Nat.le_of_ble_eq_true rfl), (Nat.le_of_ble_eq_true rfl), (Nat.le_of_ble_eq_true rfl), (Nat.le_of_ble_eq_true rfl)⟩ rfl (Nat.le_of_ble_eq_true rfl) rfl dX11_fault_56 (fun p16 => ?_)
    refine aw_pop2 X dX11_fault_59 ?_
    refine aw_aload_n X 0 dX11_fault_60 rfl rfl ?_
    refine aw_getR X s_0 fX11_20 rfl dX11_fault_61 ?_
    refine aw_getI X s_2 fX11_127 rfl dX11_fault_64 (fun c17 => ?_)
    obtain rfl := Option.some.inj hf
    exact aw_iret X c17 hr rfl dX11_fault_67
  rw [if_neg h13] at hf
  refine aw_tabOut X (tgt := 68) c_v1 dX11_fault_1 (by omega) (by decide) ?_
  refine aw_bipush X dX11_fault_68 (by decide) ?_
  obtain rfl := Option.some.inj hf
  exact aw_iret X (z_lit (x := (-2)) (by decide)) hr rfl dX11_fault_70
