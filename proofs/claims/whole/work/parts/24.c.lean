-- SpeedDesk$Log.copyFrom(LSpeedDesk$Log;)V
section S_X4_copyFrom
variable {p : Program} {l : Launch} {e : Env} {s : State} {m : MethodId} {args : Array Value} {below : List Frame} {meth : Method} {c : Code} {D : va_G} {cA : Nat → ClassId} {sa ad : Nat → Nat} {bs : Nat} {q : (Nat → Nat → Int)}

end S_X4_copyFrom
set_option maxHeartbeats 4000000 in
set_option maxRecDepth 100000 in
theorem C_X4_copyFrom (l : Launch) (D : va_G) (cA : Nat → ClassId) (sa ad : Nat → Nat) (bs : Nat) (a0 : Nat) (h_a0 : a0 ∈ ax_iX4) (a1 : Nat) (h_a1 : a1 ∈ ax_iX4) (σ : Nat → Nat → Int) (q : (Nat → Nat → Int)) (hf : f_X4_copyFrom a0 a1 σ = some q) : AM l D cA sa ad bs 788 SHp yX4_copyFrom cX4_copyFrom 2 none 1 [.ref (ad a0), .ref (ad a1)] σ none True q := by
  refine am_of (by decide +kernel) (Nat.le_of_ble_eq_true rfl) (fun p e s m args below meth c X hr => ?_)
  refine aw_lv (lv' := [(0, .ref (ad a0)), (1, .ref (ad a1))]) rfl ?_
  unfold f_X4_copyFrom at hf
  refine aw_aload_n X 1 dX4_copyFrom_0 rfl rfl ?_
  refine aw_getR X (sX4_0 a1 h_a1) fX4_9 rfl dX4_copyFrom_1 ?_
  refine aw_iconst X dX4_copyFrom_4 ?_
  refine aw_aload_n X 0 dX4_copyFrom_5 rfl rfl ?_
  refine aw_getR X (sX4_0 a0 h_a0) fX4_9 rfl dX4_copyFrom_6 ?_
  refine aw_iconst X dX4_copyFrom_9 ?_
  refine aw_bipush X dX4_copyFrom_10 (by decide) ?_
  refine aw_cpyI X cX4_28 (sX4_1 a1 h_a1) (sX4_1 a0 h_a0) (z_lit (x := 0) (by decide)) (z_lit (x := 0) (by decide)) (z_lit (x := 100) (by decide)) (by decide) (by decide) (by decide) (by decide) (by decide) ⟨(Nat.le_of_ble_eq_true rfl), (Nat.le_of_ble_eq_true rfl)⟩ dX4_copyFrom_12 ?_
  refine aw_aload_n X 1 dX4_copyFrom_15 rfl rfl ?_
  refine aw_getR X (sX4_0 a1 h_a1) fX4_15 rfl dX4_copyFrom_16 ?_
  refine aw_iconst X dX4_copyFrom_19 ?_
  refine aw_aload_n X 0 dX4_copyFrom_20 rfl rfl ?_
  refine aw_getR X (sX4_0 a0 h_a0) fX4_15 rfl dX4_copyFrom_21 ?_
  refine aw_iconst X dX4_copyFrom_24 ?_
  refine aw_bipush X dX4_copyFrom_25 (by decide) ?_
  refine aw_cpyI X cX4_28 (sX4_2 a1 h_a1) (sX4_2 a0 h_a0) (z_lit (x := 0) (by decide)) (z_lit (x := 0) (by decide)) (z_lit (x := 100) (by decide)) (by decide) (by decide) (by decide) (by decide) (by decide) ⟨(Nat.le_of_ble_eq_true rfl), (Nat.le_of_ble_eq_true rfl)⟩ dX4_copyFrom_27 ?_
  refine aw_aload_n X 1 dX4_copyFrom_30 rfl rfl ?_
  refine aw_getR X (sX4_0 a1 h_a1) fX4_18 rfl dX4_copyFrom_31 ?_
  refine aw_iconst X dX4_copyFrom_34 ?_
  refine aw_aload_n X 0 dX4_copyFrom_35 rfl rfl ?_
  refine aw_getR X (sX4_0 a0 h_a0) fX4_18 rfl dX4_copyFrom_36 ?_
  refine aw_iconst X dX4_copyFrom_39 ?_
  refine aw_bipush X dX4_copyFrom_40 (by decide) ?_
  refine aw_cpyI X cX4_28 (sX4_3 a1 h_a1) (sX4_3 a0 h_a0) (z_lit (x := 0) (by decide)) (z_lit (x := 0) (by decide)) (z_lit (x := 100) (by decide)) (by decide) (by decide) (by decide) (by decide) (by decide) ⟨(Nat.le_of_ble_eq_true rfl), (Nat.le_of_ble_eq_true rfl)⟩ dX4_copyFrom_42 ?_
  obtain rfl := Option.some.inj hf
  exact aw_vret X trivial hr rfl dX4_copyFrom_45
-- SpeedDesk$History.keep(LSpeedDesk$State;)V
section S_X3_keep
variable {p : Program} {l : Launch} {e : Env} {s : State} {m : MethodId} {args : Array Value} {below : List Frame} {meth : Method} {c : Code} {D : va_G} {cA : Nat → ClassId} {sa ad : Nat → Nat} {bs : Nat} {q : (Nat → Nat → Int)}
set_option maxHeartbeats 4000000 in
set_option maxRecDepth 100000 in
theorem A_X3_keep_35 (X : AX p s m args meth c D cA sa bs cX3_keep 2 RX3) (hr : meth.sig.returnType = none) (t0 : Int) (c_t0 : Z_I t0) (σ : Nat → Nat → Int) (hf : f_X3_keep_35 t0 σ = some q) : AW p l e (ax_rm 2 0 0) s m args below meth c D cA ad bs 788 SHp 0 0 (ax_MQ below args s D cA ad bs 788 SHp 0 0 none True q) 2 35 [(0, .ref (ad 220))] [z_i t0, .ref (ad 220)] σ := by
  unfold f_X3_keep_35 at hf
  refine aw_putI X s_220 pX3_18 rfl c_t0 dX3_keep_35 ?_
  refine aw_aload_n X 0 dX3_keep_38 rfl rfl ?_
  refine aw_aload_n X 0 dX3_keep_39 rfl rfl ?_
  refine aw_getI X s_220 fX3_26 rfl dX3_keep_40 (fun c9 => ?_)
  refine aw_iconst X dX3_keep_43 ?_
  refine aw_iadd X dX3_keep_44 ?_
  refine aw_bipush X dX3_keep_45 (by decide) ?_
  refine aw_min X (z_w_in _) (z_lit (x := 40) (by decide)) cX3_29 ⟨(Nat.le_of_ble_eq_true rfl), (Nat.le_of_ble_eq_true rfl), (Nat.le_of_ble_eq_true rfl), (Nat.le_of_ble_eq_true rfl)⟩ dX3_keep_47 ?_
  refine aw_putI X s_220 pX3_26 rfl (z_min_in (z_w_in _) (z_lit (x := 40) (by decide))) dX3_keep_50 ?_
  obtain rfl := Option.some.inj hf
  exact aw_vret X trivial hr rfl dX3_keep_53
end S_X3_keep
set_option maxHeartbeats 4000000 in
set_option maxRecDepth 100000 in
theorem C_X3_keep (l : Launch) (D : va_G) (cA : Nat → ClassId) (sa ad : Nat → Nat) (bs : Nat) (a1 : Nat) (h_a1 : a1 ∈ ax_iX7) (σ : Nat → Nat → Int) (q : (Nat → Nat → Int)) (hf : f_X3_keep a1 σ = some q) : AM l D cA sa ad bs 788 SHp yX3_keep cX3_keep 2 none 2 [.ref (ad 220), .ref (ad a1)] σ none True q := by
  refine am_of (by decide +kernel) (Nat.le_of_ble_eq_true rfl) (fun p e s m args below meth c X hr => ?_)
  refine aw_lv (lv' := [(0, .ref (ad 220)), (1, .ref (ad a1))]) rfl ?_
  unfold f_X3_keep at hf
  refine aw_aload_n X 0 dX3_keep_0 rfl rfl ?_
  refine aw_getR X s_220 fX3_11 rfl dX3_keep_1 ?_
  refine aw_aload_n X 0 dX3_keep_4 rfl rfl ?_
  refine aw_getI X s_220 fX3_18 rfl dX3_keep_5 (fun c1 => ?_)
  obtain ⟨g2, hf⟩ := z_gd hf
  refine aw_aald X (kd := 1) s_221 (by decide) c1 g2.1 g2.2 (tg_row _ (by omega)) dX3_keep_8 ?_
  refine aw_aload_n X 1 dX3_keep_9 rfl rfl ?_
  obtain ⟨q3, e4, hf⟩ := z_bd hf
  refine aw_callV X [.ref (ad a1)] [] [] cX3_22 (sX7_0 (222 + 13 * (σ 220 1).toNat) (s_row (σ 220 1).toNat (by omega))) ciX7 (C_X7_copyFrom l D cA sa ad bs (222 + 13 * (σ 220 1).toNat) (s_row (σ 220 1).toNat (by omega)) a1 h_a1 σ q3 e4) rfl ⟨(Nat.le_of_ble_eq_true rfl), (Nat.le_of_ble_eq_true rfl), (Nat.le_of_ble_eq_true rfl), (Nat.le_of_ble_eq_true rfl)⟩ rfl (Nat.le_of_ble_eq_true rfl) rfl dX3_keep_10 (fun p5 => ?_)
  refine aw_aload_n X 0 dX3_keep_13 rfl rfl ?_
  refine aw_aload_n X 0 dX3_keep_14 rfl rfl ?_
  refine aw_getI X s_220 fX3_18 rfl dX3_keep_15 (fun c6 => ?_)
  refine aw_iconst X dX3_keep_18 ?_
  refine aw_iadd X dX3_keep_19 ?_
  refine aw_bipush X dX3_keep_20 (by decide) ?_
  refine aw_icmp_ge X (tgt := 34) (z_w_in _) (z_lit (x := 40) (by decide)) dX3_keep_22 (by decide) (fun h7 => ?_) (fun h7 => ?_)
  · simp only [if_pos h7] at hf
    refine aw_iconst X dX3_keep_34 ?_
    refine aw_sub [0] rfl ?_
    exact A_X3_keep_35 X hr 0 (z_lit (x := 0) (by decide)) q3 hf
  · simp only [if_neg h7] at hf
    refine aw_aload_n X 0 dX3_keep_25 rfl rfl ?_
    refine aw_getI X s_220 fX3_18 rfl dX3_keep_26 (fun c8 => ?_)
    refine aw_iconst X dX3_keep_29 ?_
    refine aw_iadd X dX3_keep_30 ?_
    refine aw_goto X (tgt := 35) dX3_keep_31 (by decide) ?_
    refine aw_sub [0] rfl ?_
    exact A_X3_keep_35 X hr (z_w ((q3 220 1) + 1)) (z_w_in _) q3 hf
-- SpeedDesk$History.giveBack(LSpeedDesk$State;)Z
section S_X3_giveBack
variable {p : Program} {l : Launch} {e : Env} {s : State} {m : MethodId} {args : Array Value} {below : List Frame} {meth : Method} {c : Code} {D : va_G} {cA : Nat → ClassId} {sa ad : Nat → Nat} {bs : Nat} {q : (Int × (Nat → Nat → Int))}
set_option maxHeartbeats 4000000 in
set_option maxRecDepth 100000 in
theorem A_X3_giveBack_28 (X : AX p s m args meth c D cA sa bs cX3_giveBack 2 RX3) (hr : meth.sig.returnType = (some .boolean)) (a1 : Nat) (h_a1 : a1 ∈ ax_iX7) (t0 : Int) (c_t0 : Z_I t0) (σ : Nat → Nat → Int) (hf : f_X3_giveBack_28 a1 t0 σ = some q) : AW p l e (ax_rm 2 0 0) s m args below meth c D cA ad bs 788 SHp 0 0 (ax_MQ below args s D cA ad bs 788 SHp 0 0 (some (z_i q.1)) (q.1 = 0 ∨ q.1 = 1) q.2) 2 28 [(0, .ref (ad 220)), (1, .ref (ad a1))] [z_i t0, .ref (ad 220)] σ := by
  unfold f_X3_giveBack_28 at hf
  refine aw_putI X s_220 pX3_18 rfl c_t0 dX3_giveBack_28 ?_
  refine aw_aload_n X 0 dX3_giveBack_31 rfl rfl ?_
  refine aw_dup X dX3_giveBack_32 rfl ?_
  refine aw_getI X s_220 fX3_26 rfl dX3_giveBack_33 (fun c6 => ?_)
  refine aw_iconst X dX3_giveBack_36 ?_
  refine aw_isub X dX3_giveBack_37 ?_
  refine aw_putI X s_220 pX3_26 rfl (z_w_in _) dX3_giveBack_38 ?_
  refine aw_aload_n X 1 dX3_giveBack_41 rfl rfl ?_
  refine aw_aload_n X 0 dX3_giveBack_42 rfl rfl ?_
  refine aw_getR X s_220 fX3_11 rfl dX3_giveBack_43 ?_
  refine aw_aload_n X 0 dX3_giveBack_46 rfl rfl ?_
  refine aw_getI X s_220 fX3_18 rfl dX3_giveBack_47 (fun c7 => ?_)
  obtain ⟨g8, hf⟩ := z_gd hf
  refine aw_aald X (kd := 1) s_221 (by decide) c7 g8.1 g8.2 (tg_row _ (by omega)) dX3_giveBack_50 ?_
  obtain ⟨q9, e10, hf⟩ := z_bd hf
  refine aw_callV X [.ref (ad (222 + 13 * ((u2 (u2 σ 220 1 t0) 220 2 (z_w (((u2 σ 220 1 t0) 220 2) - 1))) 220 1).toNat))] [] [] cX3_22 (sX7_0 a1 h_a1) ciX7 (C_X7_copyFrom l D cA sa ad bs a1 h_a1 (222 + 13 * ((u2 (u2 σ 220 1 t0) 220 2 (z_w (((u2 σ 220 1 t0) 220 2) - 1))) 220 1).toNat) (s_row ((u2 (u2 σ 220 1 t0) 220 2 (z_w (((u2 σ 220 1 t0) 220 2) - 1))) 220 1).toNat (by omega)) (u2 (u2 σ 220 1 t0) 220 2 (z_w (((u2 σ 220 1 t0) 220 2) - 1))) q9 e10) rfl ⟨(Nat.le_of_ble_eq_true rfl), (Nat.le_of_ble_eq_true rfl), (Nat.le_of_ble_eq_true rfl), (Nat.le_of_ble_eq_true rfl)⟩ rfl (Nat.le_of_ble_eq_true rfl) rfl dX3_giveBack_51 (fun p11 => ?_)
  refine aw_iconst X dX3_giveBack_54 ?_
  obtain rfl := Option.some.inj hf
  exact aw_zret X (Or.inr rfl) hr (Or.inr rfl) rfl dX3_giveBack_55
end S_X3_giveBack
set_option maxHeartbeats 4000000 in
set_option maxRecDepth 100000 in
theorem C_X3_giveBack (l : Launch) (D : va_G) (cA : Nat → ClassId) (sa ad : Nat → Nat) (bs : Nat) (a1 : Nat) (h_a1 : a1 ∈ ax_iX7) (σ : Nat → Nat → Int) (q : (Int × (Nat → Nat → Int))) (hf : f_X3_giveBack a1 σ = some q) : AM l D cA sa ad bs 788 SHp yX3_giveBack cX3_giveBack 2 (some .boolean) 2 [.ref (ad 220), .ref (ad a1)] σ (some (z_i q.1)) (q.1 = 0 ∨ q.1 = 1) q.2 := by
  refine am_of (by decide +kernel) (Nat.le_of_ble_eq_true rfl) (fun p e s m args below meth c X hr => ?_)
  refine aw_lv (lv' := [(0, .ref (ad 220)), (1, .ref (ad a1))]) rfl ?_
  unfold f_X3_giveBack at hf
  refine aw_aload_n X 0 dX3_giveBack_0 rfl rfl ?_
  refine aw_getI X s_220 fX3_26 rfl dX3_giveBack_1 (fun c1 => ?_)
  refine aw_if_ne X (tgt := 9) c1 dX3_giveBack_4 (by decide) (fun h2 => ?_) (fun h2 => ?_)
  · rw [if_neg h2] at hf
    refine aw_aload_n X 0 dX3_giveBack_9 rfl rfl ?_
    refine aw_aload_n X 0 dX3_giveBack_10 rfl rfl ?_
    refine aw_getI X s_220 fX3_18 rfl dX3_giveBack_11 (fun c3 => ?_)
    refine aw_if_le X (tgt := 26) c3 dX3_giveBack_14 (by decide) (fun h4 => ?_) (fun h4 => ?_)
    · simp only [if_pos h4] at hf
      refine aw_bipush X dX3_giveBack_26 (by decide) ?_
      exact A_X3_giveBack_28 X hr a1 h_a1 39 (z_lit (x := 39) (by decide)) σ hf
    · simp only [if_neg h4] at hf
      refine aw_aload_n X 0 dX3_giveBack_17 rfl rfl ?_
      refine aw_getI X s_220 fX3_18 rfl dX3_giveBack_18 (fun c5 => ?_)
      refine aw_iconst X dX3_giveBack_21 ?_
      refine aw_isub X dX3_giveBack_22 ?_
      refine aw_goto X (tgt := 28) dX3_giveBack_23 (by decide) ?_
      exact A_X3_giveBack_28 X hr a1 h_a1 (z_w ((σ 220 1) - 1)) (z_w_in _) σ hf
  · rw [if_pos h2] at hf
    refine aw_iconst X dX3_giveBack_7 ?_
    obtain rfl := Option.some.inj hf
    exact aw_zret X (Or.inl rfl) hr (Or.inl rfl) rfl dX3_giveBack_8
-- SpeedDesk$History.forget()V
section S_X3_forget
variable {p : Program} {l : Launch} {e : Env} {s : State} {m : MethodId} {args : Array Value} {below : List Frame} {meth : Method} {c : Code} {D : va_G} {cA : Nat → ClassId} {sa ad : Nat → Nat} {bs : Nat} {q : (Nat → Nat → Int)}

end S_X3_forget
set_option maxHeartbeats 4000000 in
set_option maxRecDepth 100000 in
theorem C_X3_forget (l : Launch) (D : va_G) (cA : Nat → ClassId) (sa ad : Nat → Nat) (bs : Nat)  (σ : Nat → Nat → Int) (q : (Nat → Nat → Int)) (hf : f_X3_forget σ = some q) : AM l D cA sa ad bs 788 SHp yX3_forget cX3_forget 1 none 0 [.ref (ad 220)] σ none True q := by
  refine am_of (by decide +kernel) (Nat.le_of_ble_eq_true rfl) (fun p e s m args below meth c X hr => ?_)
  refine aw_lv (lv' := [(0, .ref (ad 220))]) rfl ?_
  unfold f_X3_forget at hf
  refine aw_aload_n X 0 dX3_forget_0 rfl rfl ?_
  refine aw_iconst X dX3_forget_1 ?_
  refine aw_putI X s_220 pX3_26 rfl (z_lit (x := 0) (by decide)) dX3_forget_2 ?_
  obtain rfl := Option.some.inj hf
  exact aw_vret X trivial hr rfl dX3_forget_5
-- SpeedDesk$Clockwork.ticksLeft(LSpeedDesk$Chip;LSpeedDesk$State;I)I
section S_X2_ticksLeft
variable {p : Program} {l : Launch} {e : Env} {s : State} {m : MethodId} {args : Array Value} {below : List Frame} {meth : Method} {c : Code} {D : va_G} {cA : Nat → ClassId} {sa ad : Nat → Nat} {bs : Nat} {q : Int}

end S_X2_ticksLeft
set_option maxHeartbeats 4000000 in
set_option maxRecDepth 100000 in
theorem C_X2_ticksLeft (l : Launch) (D : va_G) (cA : Nat → ClassId) (sa ad : Nat → Nat) (bs : Nat) (a1 : Nat) (h_a1 : a1 ∈ ax_iX1) (a2 : Nat) (h_a2 : a2 ∈ ax_iX7) (v3 : Int) (c_v3 : Z_I v3) (σ : Nat → Nat → Int) (q : Int) (hf : f_X2_ticksLeft a1 a2 v3 σ = some q) : AM l D cA sa ad bs 788 SHp yX2_ticksLeft cX2_ticksLeft 5 (some .int) 0 [.ref (ad 743), .ref (ad a1), .ref (ad a2), z_i v3] σ (some (z_i q)) (Z_I q) σ := by
  refine am_of (by decide +kernel) (Nat.le_of_ble_eq_true rfl) (fun p e s m args below meth c X hr => ?_)
  refine aw_lv (lv' := [(0, .ref (ad 743)), (1, .ref (ad a1)), (2, .ref (ad a2)), (3, z_i v3)]) rfl ?_
  unfold f_X2_ticksLeft at hf
  refine aw_aload_n X 1 dX2_ticksLeft_0 rfl rfl ?_
  refine aw_getR X (sX1_0 a1 h_a1) fX2_121 rfl dX2_ticksLeft_1 ?_
  refine aw_iload_n X 3 dX2_ticksLeft_4 rfl rfl ?_
  obtain ⟨g1, hf⟩ := z_gd hf
  refine aw_iald X (j := v3.toNat) (sX1_17 a1 h_a1) c_v3 g1.1 g1.2 rfl dX2_ticksLeft_5 (fun c2 => ?_)
  refine aw_istore X [(4, z_i (σ (a1 + 17) v3.toNat)), (0, .ref (ad 743)), (1, .ref (ad a1)), (2, .ref (ad a2)), (3, z_i v3)] dX2_ticksLeft_6 (by decide) rfl ?_
  refine aw_iload X 0 dX2_ticksLeft_8 rfl ?_
  refine aw_iconst X dX2_ticksLeft_10 ?_
  refine aw_icmp_ge X (tgt := 18) c2 (z_lit (x := 1) (by decide)) dX2_ticksLeft_11 (by decide) (fun h3 => ?_) (fun h3 => ?_)
  · rw [if_pos h3] at hf
    refine aw_iload X 0 dX2_ticksLeft_18 rfl ?_
    refine aw_aload_n X 3 dX2_ticksLeft_20 rfl rfl ?_
    refine aw_getI X (sX7_0 a2 h_a2) fX2_61 rfl dX2_ticksLeft_21 (fun c4 => ?_)
    refine aw_iload X 0 dX2_ticksLeft_24 rfl ?_
    obtain ⟨g5, hf⟩ := z_gd hf
    refine aw_irem X c4 c2 g5 dX2_ticksLeft_26 ?_
    refine aw_isub X dX2_ticksLeft_27 ?_
    obtain rfl := Option.some.inj hf
    exact aw_iret X (z_w_in _) hr rfl dX2_ticksLeft_28
  · rw [if_neg h3] at hf
    refine aw_iconst X dX2_ticksLeft_14 ?_
    refine aw_goto X (tgt := 28) dX2_ticksLeft_15 (by decide) ?_
    obtain rfl := Option.some.inj hf
    exact aw_iret X (z_lit (x := 0) (by decide)) hr rfl dX2_ticksLeft_28
-- SpeedDesk$Clockwork.release(LSpeedDesk$Chip;LSpeedDesk$State;)V
section S_X2_release
variable {p : Program} {l : Launch} {e : Env} {s : State} {m : MethodId} {args : Array Value} {below : List Frame} {meth : Method} {c : Code} {D : va_G} {cA : Nat → ClassId} {sa ad : Nat → Nat} {bs : Nat} {q : (Nat → Nat → Int)}
set_option maxHeartbeats 4000000 in
set_option maxRecDepth 100000 in
theorem A_X2_release_62 (X : AX p s m args meth c D cA sa bs cX2_release 4 RX2) (hr : meth.sig.returnType = none) (K2 : Nat → Nat → Int → (Nat → Nat → Int) → Option (Nat → Nat → Int)) (hK2 : ∀ (a1 : Nat) (h_a1 : a1 ∈ ax_iX1) (a2 : Nat) (h_a2 : a2 ∈ ax_iX7) (v3 : Int) (c_v3 : Z_I v3) (σ : Nat → Nat → Int), K2 a1 a2 v3 σ = some q → AW p l e (ax_rm 2 0 0) s m args below meth c D cA ad bs 788 SHp 0 0 (ax_MQ below args s D cA ad bs 788 SHp 0 0 none True q) 4 2 [(0, .ref (ad 743)), (1, .ref (ad a1)), (2, .ref (ad a2)), (3, z_i v3)] [] σ) (a1 : Nat) (h_a1 : a1 ∈ ax_iX1) (a2 : Nat) (h_a2 : a2 ∈ ax_iX7) (v3 : Int) (c_v3 : Z_I v3) (t0 : Int) (c_t0 : Z_I t0) (t1 : Int) (c_t1 : Z_I t1) (t2 : Int) (c_t2 : Z_I t2) (b3 : Nat) (h_b3 : b3 < 788 ∧ SHp b3 = .inr (0, 4, [])) (σ : Nat → Nat → Int) (hf : f_X2_release_62 K2 a1 a2 v3 t0 t1 t2 b3 σ = some q) : AW p l e (ax_rm 2 0 0) s m args below meth c D cA ad bs 788 SHp 0 0 (ax_MQ below args s D cA ad bs 788 SHp 0 0 none True q) 4 62 [(0, .ref (ad 743)), (1, .ref (ad a1)), (2, .ref (ad a2)), (3, z_i v3)] [z_i t0, z_i t1, z_i t2, .ref (ad b3)] σ := by
  unfold f_X2_release_62 at hf
  refine aw_iadd X dX2_release_62 ?_
  obtain ⟨g19, hf⟩ := z_gd hf
  refine aw_iast X (j := t2.toNat) h_b3 c_t2 g19.1 g19.2 rfl (z_w_in _) dX2_release_63 ?_
  refine aw_aload_n X 2 dX2_release_64 rfl rfl ?_
  refine aw_getR X (sX7_0 a2 h_a2) fX2_127 rfl dX2_release_65 ?_
  refine aw_iload_n X 3 dX2_release_68 rfl rfl ?_
  refine aw_aload_n X 1 dX2_release_69 rfl rfl ?_
  refine aw_getR X (sX1_0 a1 h_a1) fX2_130 rfl dX2_release_70 ?_
  refine aw_iload_n X 3 dX2_release_73 rfl rfl ?_
  obtain ⟨g20, hf⟩ := z_gd hf
  refine aw_iald X (j := v3.toNat) (sX1_16 a1 h_a1) c_v3 g20.1 g20.2 rfl dX2_release_74 (fun c21 => ?_)
  obtain ⟨g22, hf⟩ := z_gd hf
  refine aw_iast X (j := v3.toNat) (sX7_2 a2 h_a2) c_v3 g22.1 g22.2 rfl c21 dX2_release_75 ?_
  refine aw_iinc X 3 [(3, z_i (z_w (v3 + 1))), (0, .ref (ad 743)), (1, .ref (ad a1)), (2, .ref (ad a2))] dX2_release_76 rfl (by decide) rfl ?_
  refine aw_goto X (tgt := 2) dX2_release_79 (by decide) ?_
  refine aw_sub [1, 2, 3, 0] rfl ?_
  exact hK2 a1 h_a1 a2 h_a2 (z_w (v3 + 1)) (z_w_in _) (u2 (u2 σ b3 t2.toNat (z_w (t1 + t0))) (a2 + 2) v3.toNat ((u2 σ b3 t2.toNat (z_w (t1 + t0))) (a1 + 16) v3.toNat)) hf
set_option maxHeartbeats 4000000 in
set_option maxRecDepth 100000 in
theorem A_X2_release_2 (X : AX p s m args meth c D cA sa bs cX2_release 4 RX2) (hr : meth.sig.returnType = none) : ∀ (k : Nat) (a1 : Nat) (h_a1 : a1 ∈ ax_iX1) (a2 : Nat) (h_a2 : a2 ∈ ax_iX7) (v3 : Int) (c_v3 : Z_I v3) (σ : Nat → Nat → Int), f_X2_release_2 k a1 a2 v3 σ = some q → AW p l e (ax_rm 2 0 0) s m args below meth c D cA ad bs 788 SHp 0 0 (ax_MQ below args s D cA ad bs 788 SHp 0 0 none True q) 4 2 [(0, .ref (ad 743)), (1, .ref (ad a1)), (2, .ref (ad a2)), (3, z_i v3)] [] σ := by
  intro k
  induction k with
  | zero =>
    intro a1 h_a1 a2 h_a2 v3 c_v3 σ hf
    unfold f_X2_release_2 at hf
    cases hf
  | succ k ih =>
    intro a1 h_a1 a2 h_a2 v3 c_v3 σ hf
    unfold f_X2_release_2 at hf
    refine aw_iload_n X 3 dX2_release_2 rfl rfl ?_
    refine aw_aload_n X 1 dX2_release_3 rfl rfl ?_
    refine aw_getI X (sX1_0 a1 h_a1) fX2_64 rfl dX2_release_4 (fun c1 => ?_)
    refine aw_icmp_ge X (tgt := 82) c_v3 c1 dX2_release_7 (by decide) (fun h2 => ?_) (fun h2 => ?_)
    · rw [if_pos h2] at hf
      obtain rfl := Option.some.inj hf
      exact aw_vret X trivial hr rfl dX2_release_82
    · rw [if_neg h2] at hf
      refine aw_aload_n X 0 dX2_release_10 rfl rfl ?_
      refine aw_getR X s_743 fX2_9 rfl dX2_release_11 ?_
      refine aw_iload_n X 3 dX2_release_14 rfl rfl ?_
      refine aw_iconst X dX2_release_15 ?_
      obtain ⟨g3, hf⟩ := z_gd hf
      refine aw_iast X (j := v3.toNat) s_744 c_v3 g3.1 g3.2 rfl (z_lit (x := 0) (by decide)) dX2_release_16 ?_
      refine aw_aload_n X 2 dX2_release_17 rfl rfl ?_
      refine aw_iload_n X 3 dX2_release_18 rfl rfl ?_
      obtain ⟨q4, e5, hf⟩ := z_bd hf
      refine aw_callV X [z_i v3] [] [z_i q4] cX2_115 (sX7_0 a2 h_a2) ciX7 (C_X7_isStopped l D cA sa ad bs a2 h_a2 v3 c_v3 (u2 σ 744 v3.toNat 0) q4 e5) rfl ⟨(Nat.le_of_ble_eq_true rfl), (Nat.le_of_ble_eq_true rfl), (Nat.le_of_ble_eq_true rfl), (Nat.le_of_ble_eq_true rfl)⟩ rfl (Nat.le_of_ble_eq_true rfl) rfl dX2_release_19 (fun p6 => ?_)
      refine aw_if_ne X (tgt := 76) (z_zI p6) dX2_release_22 (by decide) (fun h7 => ?_) (fun h7 => ?_)
      · rw [if_neg h7] at hf
        refine aw_iinc X 3 [(3, z_i (z_w (v3 + 1))), (0, .ref (ad 743)), (1, .ref (ad a1)), (2, .ref (ad a2))] dX2_release_76 rfl (by decide) rfl ?_
        refine aw_goto X (tgt := 2) dX2_release_79 (by decide) ?_
        refine aw_sub [1, 2, 3, 0] rfl ?_
        exact ih a1 h_a1 a2 h_a2 (z_w (v3 + 1)) (z_w_in _) (u2 σ 744 v3.toNat 0) hf
      · rw [if_pos h7] at hf
        refine aw_aload_n X 0 dX2_release_25 rfl rfl ?_
        refine aw_aload_n X 1 dX2_release_26 rfl rfl ?_
        refine aw_aload_n X 2 dX2_release_27 rfl rfl ?_
        refine aw_iload_n X 3 dX2_release_28 rfl rfl ?_
        obtain ⟨q8, e9, hf⟩ := z_bd hf
        refine aw_callV X [.ref (ad a1), .ref (ad a2), z_i v3] [] [z_i q8] cX2_118 s_743 ciX2 (C_X2_ticksLeft l D cA sa ad bs a1 h_a1 a2 h_a2 v3 c_v3 (u2 σ 744 v3.toNat 0) q8 e9) rfl ⟨(Nat.le_of_ble_eq_true rfl), (Nat.le_of_ble_eq_true rfl), (Nat.le_of_ble_eq_true rfl), (Nat.le_of_ble_eq_true rfl)⟩ rfl (Nat.le_of_ble_eq_true rfl) rfl dX2_release_29 (fun p10 => ?_)
        refine aw_aload_n X 1 dX2_release_32 rfl rfl ?_
        refine aw_getR X (sX1_0 a1 h_a1) fX2_121 rfl dX2_release_33 ?_
        refine aw_iload_n X 3 dX2_release_36 rfl rfl ?_
        obtain ⟨g11, hf⟩ := z_gd hf
        refine aw_iald X (j := v3.toNat) (sX1_17 a1 h_a1) c_v3 g11.1 g11.2 rfl dX2_release_37 (fun c12 => ?_)
        refine aw_icmp_ne X (tgt := 76) p10 c12 dX2_release_38 (by decide) (fun h13 => ?_) (fun h13 => ?_)
        · rw [if_neg h13] at hf
          refine aw_iinc X 3 [(3, z_i (z_w (v3 + 1))), (0, .ref (ad 743)), (1, .ref (ad a1)), (2, .ref (ad a2))] dX2_release_76 rfl (by decide) rfl ?_
          refine aw_goto X (tgt := 2) dX2_release_79 (by decide) ?_
          refine aw_sub [1, 2, 3, 0] rfl ?_
          exact ih a1 h_a1 a2 h_a2 (z_w (v3 + 1)) (z_w_in _) (u2 σ 744 v3.toNat 0) hf
        · rw [if_pos h13] at hf
          refine aw_aload_n X 2 dX2_release_41 rfl rfl ?_
          refine aw_getR X (sX7_0 a2 h_a2) fX2_124 rfl dX2_release_42 ?_
          refine aw_iload_n X 3 dX2_release_45 rfl rfl ?_
          refine aw_dup2 X dX2_release_46 rfl rfl ?_
          obtain ⟨g14, hf⟩ := z_gd hf
          refine aw_iald X (j := v3.toNat) (sX7_4 a2 h_a2) c_v3 g14.1 g14.2 rfl dX2_release_47 (fun c15 => ?_)
          refine aw_aload_n X 2 dX2_release_48 rfl rfl ?_
          refine aw_getR X (sX7_0 a2 h_a2) fX2_127 rfl dX2_release_49 ?_
          refine aw_iload_n X 3 dX2_release_52 rfl rfl ?_
          obtain ⟨g16, hf⟩ := z_gd hf
          refine aw_iald X (j := v3.toNat) (sX7_2 a2 h_a2) c_v3 g16.1 g16.2 rfl dX2_release_53 (fun c17 => ?_)
          refine aw_if_le X (tgt := 61) c17 dX2_release_54 (by decide) (fun h18 => ?_) (fun h18 => ?_)
          · simp only [if_pos h18] at hf
            refine aw_iconst X dX2_release_61 ?_
            exact A_X2_release_62 X hr (f_X2_release_2 k) ih a1 h_a1 a2 h_a2 v3 c_v3 0 (z_lit (x := 0) (by decide)) ((u2 σ 744 v3.toNat 0) (a2 + 4) v3.toNat) c15 v3 c_v3 (a2 + 4) (sX7_4 a2 h_a2) (u2 σ 744 v3.toNat 0) hf
          · simp only [if_neg h18] at hf
            refine aw_iconst X dX2_release_57 ?_
            refine aw_goto X (tgt := 62) dX2_release_58 (by decide) ?_
            exact A_X2_release_62 X hr (f_X2_release_2 k) ih a1 h_a1 a2 h_a2 v3 c_v3 1 (z_lit (x := 1) (by decide)) ((u2 σ 744 v3.toNat 0) (a2 + 4) v3.toNat) c15 v3 c_v3 (a2 + 4) (sX7_4 a2 h_a2) (u2 σ 744 v3.toNat 0) hf
end S_X2_release
set_option maxHeartbeats 4000000 in
set_option maxRecDepth 100000 in
theorem C_X2_release (l : Launch) (D : va_G) (cA : Nat → ClassId) (sa ad : Nat → Nat) (bs : Nat) (a1 : Nat) (h_a1 : a1 ∈ ax_iX1) (a2 : Nat) (h_a2 : a2 ∈ ax_iX7) (σ : Nat → Nat → Int) (q : (Nat → Nat → Int)) (hf : f_X2_release a1 a2 σ = some q) : AM l D cA sa ad bs 788 SHp yX2_release cX2_release 4 none 2 [.ref (ad 743), .ref (ad a1), .ref (ad a2)] σ none True q := by
  refine am_of (by decide +kernel) (Nat.le_of_ble_eq_true rfl) (fun p e s m args below meth c X hr => ?_)
  refine aw_lv (lv' := [(0, .ref (ad 743)), (1, .ref (ad a1)), (2, .ref (ad a2))]) rfl ?_
  unfold f_X2_release at hf
  refine aw_iconst X dX2_release_0 ?_
  refine aw_istore_n X [(3, z_i 0), (0, .ref (ad 743)), (1, .ref (ad a1)), (2, .ref (ad a2))] dX2_release_1 rfl (by decide) rfl ?_
  refine aw_sub [1, 2, 3, 0] rfl ?_
  exact A_X2_release_2 X hr 100000 a1 h_a1 a2 h_a2 0 (z_lit (x := 0) (by decide)) σ hf
-- SpeedDesk$Clockwork.wakeCluster(LSpeedDesk$Chip;LSpeedDesk$State;I)I
section S_X2_wakeCluster
variable {p : Program} {l : Launch} {e : Env} {s : State} {m : MethodId} {args : Array Value} {below : List Frame} {meth : Method} {c : Code} {D : va_G} {cA : Nat → ClassId} {sa ad : Nat → Nat} {bs : Nat} {q : (Int × (Nat → Nat → Int))}

end S_X2_wakeCluster
set_option maxHeartbeats 4000000 in
set_option maxRecDepth 100000 in
theorem C_X2_wakeCluster (l : Launch) (D : va_G) (cA : Nat → ClassId) (sa ad : Nat → Nat) (bs : Nat) (a1 : Nat) (h_a1 : a1 ∈ ax_iX1) (a2 : Nat) (h_a2 : a2 ∈ ax_iX7) (v3 : Int) (c_v3 : Z_I v3) (σ : Nat → Nat → Int) (q : (Int × (Nat → Nat → Int))) (hf : f_X2_wakeCluster a1 a2 v3 σ = some q) : AM l D cA sa ad bs 788 SHp yX2_wakeCluster cX2_wakeCluster 4 (some .int) 1 [.ref (ad 743), .ref (ad a1), .ref (ad a2), z_i v3] σ (some (z_i q.1)) (Z_I q.1) q.2 := by
  refine am_of (by decide +kernel) (Nat.le_of_ble_eq_true rfl) (fun p e s m args below meth c X hr => ?_)
  refine aw_lv (lv' := [(0, .ref (ad 743)), (1, .ref (ad a1)), (2, .ref (ad a2)), (3, z_i v3)]) rfl ?_
  unfold f_X2_wakeCluster at hf
  refine aw_aload_n X 1 dX2_wakeCluster_0 rfl rfl ?_
  refine aw_iload_n X 3 dX2_wakeCluster_1 rfl rfl ?_
  obtain ⟨q1, e2, hf⟩ := z_bd hf
  refine aw_callV X [z_i v3] [] [z_i q1] cX2_88 (sX1_0 a1 h_a1) ciX1 (C_X1_hasCluster l D cA sa ad bs a1 h_a1 v3 c_v3 σ q1 e2) rfl ⟨(Nat.le_of_ble_eq_true rfl), (Nat.le_of_ble_eq_true rfl), (Nat.le_of_ble_eq_true rfl), (Nat.le_of_ble_eq_true rfl)⟩ rfl (Nat.le_of_ble_eq_true rfl) rfl dX2_wakeCluster_2 (fun p3 => ?_)
  refine aw_if_ne X (tgt := 10) (z_zI p3) dX2_wakeCluster_5 (by decide) (fun h4 => ?_) (fun h4 => ?_)
  · rw [if_neg h4] at hf
    refine aw_aload_n X 2 dX2_wakeCluster_10 rfl rfl ?_
    refine aw_getR X (sX7_0 a2 h_a2) fX2_98 rfl dX2_wakeCluster_11 ?_
    refine aw_iload_n X 3 dX2_wakeCluster_14 rfl rfl ?_
    refine aw_aload_n X 1 dX2_wakeCluster_15 rfl rfl ?_
    refine aw_getR X (sX1_0 a1 h_a1) fX2_54 rfl dX2_wakeCluster_16 ?_
    refine aw_iconst X dX2_wakeCluster_19 ?_
    refine aw_iald X (j := 3) (sX1_18 a1 h_a1) (z_lit (x := 3) (by decide)) (by decide) (by decide) rfl dX2_wakeCluster_20 (fun c5 => ?_)
    obtain ⟨g6, hf⟩ := z_gd hf
    refine aw_iast X (j := v3.toNat) (sX7_7 a2 h_a2) c_v3 g6.1 g6.2 rfl c5 dX2_wakeCluster_21 ?_
    refine aw_aload_n X 1 dX2_wakeCluster_22 rfl rfl ?_
    refine aw_getR X (sX1_0 a1 h_a1) fX2_148 rfl dX2_wakeCluster_23 ?_
    refine aw_iload_n X 3 dX2_wakeCluster_26 rfl rfl ?_
    obtain ⟨g7, hf⟩ := z_gd hf
    refine aw_iald X (j := v3.toNat) (sX1_4 a1 h_a1) c_v3 g7.1 g7.2 rfl dX2_wakeCluster_27 (fun c8 => ?_)
    obtain rfl := Option.some.inj hf
    exact aw_iret X c8 hr rfl dX2_wakeCluster_28
  · rw [if_pos h4] at hf
    refine aw_iconst X dX2_wakeCluster_8 ?_
    obtain rfl := Option.some.inj hf
    exact aw_iret X (z_lit (x := 0) (by decide)) hr rfl dX2_wakeCluster_9
-- SpeedDesk$Clockwork.wakeCores(LSpeedDesk$Chip;LSpeedDesk$State;)I
section S_X2_wakeCores
variable {p : Program} {l : Launch} {e : Env} {s : State} {m : MethodId} {args : Array Value} {below : List Frame} {meth : Method} {c : Code} {D : va_G} {cA : Nat → ClassId} {sa ad : Nat → Nat} {bs : Nat} {q : (Int × (Nat → Nat → Int))}
set_option maxHeartbeats 4000000 in
set_option maxRecDepth 100000 in
theorem A_X2_wakeCores_5 (X : AX p s m args meth c D cA sa bs cX2_wakeCores 6 RX2) (hr : meth.sig.returnType = (some .int)) : ∀ (k : Nat) (a1 : Nat) (h_a1 : a1 ∈ ax_iX1) (a2 : Nat) (h_a2 : a2 ∈ ax_iX7) (v3 : Int) (c_v3 : Z_I v3) (v4 : Int) (c_v4 : Z_I v4) (σ : Nat → Nat → Int), f_X2_wakeCores_5 k a1 a2 v3 v4 σ = some q → AW p l e (ax_rm 2 0 0) s m args below meth c D cA ad bs 788 SHp 0 0 (ax_MQ below args s D cA ad bs 788 SHp 0 0 (some (z_i q.1)) (Z_I q.1) q.2) 6 5 [(0, .ref (ad 743)), (1, .ref (ad a1)), (2, .ref (ad a2)), (3, z_i v3), (4, z_i v4)] [] σ := by
  intro k
  induction k with
  | zero =>
    intro a1 h_a1 a2 h_a2 v3 c_v3 v4 c_v4 σ hf
    unfold f_X2_wakeCores_5 at hf
    cases hf
  | succ k ih =>
    intro a1 h_a1 a2 h_a2 v3 c_v3 v4 c_v4 σ hf
    unfold f_X2_wakeCores_5 at hf
    refine aw_iload X 4 dX2_wakeCores_5 rfl ?_
    refine aw_aload_n X 1 dX2_wakeCores_7 rfl rfl ?_
    refine aw_getI X (sX1_0 a1 h_a1) fX2_64 rfl dX2_wakeCores_8 (fun c1 => ?_)
    refine aw_icmp_ge X (tgt := 87) c_v4 c1 dX2_wakeCores_11 (by decide) (fun h2 => ?_) (fun h2 => ?_)
    · rw [if_pos h2] at hf
      refine aw_iload_n X 3 dX2_wakeCores_87 rfl rfl ?_
      obtain rfl := Option.some.inj hf
      exact aw_iret X c_v3 hr rfl dX2_wakeCores_88
    · rw [if_neg h2] at hf
      refine aw_aload_n X 2 dX2_wakeCores_14 rfl rfl ?_
      refine aw_getR X (sX7_0 a2 h_a2) fX2_67 rfl dX2_wakeCores_15 ?_
      refine aw_iload X 4 dX2_wakeCores_18 rfl ?_
      obtain ⟨g3, hf⟩ := z_gd hf
      refine aw_iald X (j := v4.toNat) (sX7_1 a2 h_a2) c_v4 g3.1 g3.2 rfl dX2_wakeCores_20 (fun c4 => ?_)
      refine aw_istore X [(5, z_i (σ (a2 + 1) v4.toNat)), (0, .ref (ad 743)), (1, .ref (ad a1)), (2, .ref (ad a2)), (3, z_i v3), (4, z_i v4)] dX2_wakeCores_21 (by decide) rfl ?_
      refine aw_aload_n X 3 dX2_wakeCores_23 rfl rfl ?_
      refine aw_getR X (sX7_0 a2 h_a2) fX2_127 rfl dX2_wakeCores_24 ?_
      refine aw_iload X 5 dX2_wakeCores_27 rfl ?_
      obtain ⟨g5, hf⟩ := z_gd hf
      refine aw_iald X (j := v4.toNat) (sX7_2 a2 h_a2) c_v4 g5.1 g5.2 rfl dX2_wakeCores_29 (fun c6 => ?_)
      refine aw_if_le X (tgt := 81) c6 dX2_wakeCores_30 (by decide) (fun h7 => ?_) (fun h7 => ?_)
      · rw [if_pos h7] at hf
        refine aw_iinc X 5 [(4, z_i (z_w (v4 + 1))), (5, z_i (σ (a2 + 1) v4.toNat)), (0, .ref (ad 743)), (1, .ref (ad a1)), (2, .ref (ad a2)), (3, z_i v3)] dX2_wakeCores_81 rfl (by decide) rfl ?_
        refine aw_goto X (tgt := 5) dX2_wakeCores_84 (by decide) ?_
        refine aw_sub [2, 3, 4, 5, 0] rfl ?_
        exact ih a1 h_a1 a2 h_a2 v3 c_v3 (z_w (v4 + 1)) (z_w_in _) σ hf
      · rw [if_neg h7] at hf
        refine aw_aload_n X 2 dX2_wakeCores_33 rfl rfl ?_
        refine aw_iload X 0 dX2_wakeCores_34 rfl ?_
        obtain ⟨q8, e9, hf⟩ := z_bd hf
        refine aw_callV X [z_i (σ (a2 + 1) v4.toNat)] [] [z_i q8] cX2_132 (sX1_0 a1 h_a1) ciX1 (C_X1_hasCore l D cA sa ad bs a1 h_a1 (σ (a2 + 1) v4.toNat) c4 σ q8 e9) rfl ⟨(Nat.le_of_ble_eq_true rfl), (Nat.le_of_ble_eq_true rfl), (Nat.le_of_ble_eq_true rfl), (Nat.le_of_ble_eq_true rfl)⟩ rfl (Nat.le_of_ble_eq_true rfl) rfl dX2_wakeCores_36 (fun p10 => ?_)
        refine aw_if_eq X (tgt := 81) (z_zI p10) dX2_wakeCores_39 (by decide) (fun h11 => ?_) (fun h11 => ?_)
        · rw [if_pos h11] at hf
          refine aw_iinc X 5 [(4, z_i (z_w (v4 + 1))), (5, z_i (σ (a2 + 1) v4.toNat)), (0, .ref (ad 743)), (1, .ref (ad a1)), (2, .ref (ad a2)), (3, z_i v3)] dX2_wakeCores_81 rfl (by decide) rfl ?_
          refine aw_goto X (tgt := 5) dX2_wakeCores_84 (by decide) ?_
          refine aw_sub [2, 3, 4, 5, 0] rfl ?_
          exact ih a1 h_a1 a2 h_a2 v3 c_v3 (z_w (v4 + 1)) (z_w_in _) σ hf
        · rw [if_neg h11] at hf
          refine aw_aload_n X 3 dX2_wakeCores_42 rfl rfl ?_
          refine aw_iload X 0 dX2_wakeCores_43 rfl ?_
          obtain ⟨q12, e13, hf⟩ := z_bd hf
          refine aw_callV X [z_i (σ (a2 + 1) v4.toNat)] [] [z_i q12] cX2_135 (sX7_0 a2 h_a2) ciX7 (C_X7_isAsleep l D cA sa ad bs a2 h_a2 (σ (a2 + 1) v4.toNat) c4 σ q12 e13) rfl ⟨(Nat.le_of_ble_eq_true rfl), (Nat.le_of_ble_eq_true rfl), (Nat.le_of_ble_eq_true rfl), (Nat.le_of_ble_eq_true rfl)⟩ rfl (Nat.le_of_ble_eq_true rfl) rfl dX2_wakeCores_45 (fun p14 => ?_)
          refine aw_if_eq X (tgt := 81) (z_zI p14) dX2_wakeCores_48 (by decide) (fun h15 => ?_) (fun h15 => ?_)
          · rw [if_pos h15] at hf
            refine aw_iinc X 5 [(4, z_i (z_w (v4 + 1))), (5, z_i (σ (a2 + 1) v4.toNat)), (0, .ref (ad 743)), (1, .ref (ad a1)), (2, .ref (ad a2)), (3, z_i v3)] dX2_wakeCores_81 rfl (by decide) rfl ?_
            refine aw_goto X (tgt := 5) dX2_wakeCores_84 (by decide) ?_
            refine aw_sub [2, 3, 4, 5, 0] rfl ?_
            exact ih a1 h_a1 a2 h_a2 v3 c_v3 (z_w (v4 + 1)) (z_w_in _) σ hf
          · rw [if_neg h15] at hf
            refine aw_aload_n X 3 dX2_wakeCores_51 rfl rfl ?_
            refine aw_aload_n X 3 dX2_wakeCores_52 rfl rfl ?_
            refine aw_getI X (sX7_0 a2 h_a2) fX2_138 rfl dX2_wakeCores_53 (fun c16 => ?_)
            refine aw_iload X 0 dX2_wakeCores_56 rfl ?_
            refine aw_iconst X dX2_wakeCores_58 ?_
            obtain ⟨q17, e18, hf⟩ := z_bd hf
            refine aw_callN X [z_i (σ a2 6), z_i (σ (a2 + 1) v4.toNat), z_i 0] [.ref (ad a2)] [z_i q17, .ref (ad a2)] cX2_141 (C_X11_withBit l D cA sa ad bs (σ a2 6) c16 (σ (a2 + 1) v4.toNat) c4 0 (z_lit (x := 0) (by decide)) σ q17 e18) rfl ⟨(Nat.le_of_ble_eq_true rfl), (Nat.le_of_ble_eq_true rfl), (Nat.le_of_ble_eq_true rfl), (Nat.le_of_ble_eq_true rfl)⟩ rfl (Nat.le_of_ble_eq_true rfl) rfl dX2_wakeCores_59 (fun p19 => ?_)
            refine aw_putI X (sX7_0 a2 h_a2) pX2_138 rfl p19 dX2_wakeCores_62 ?_
            refine aw_iload_n X 4 dX2_wakeCores_65 rfl rfl ?_
            refine aw_aload_n X 1 dX2_wakeCores_66 rfl rfl ?_
            refine aw_aload_n X 2 dX2_wakeCores_67 rfl rfl ?_
            refine aw_aload_n X 3 dX2_wakeCores_68 rfl rfl ?_
            refine aw_aload_n X 2 dX2_wakeCores_69 rfl rfl ?_
            refine aw_getR X (sX1_0 a1 h_a1) fX2_73 rfl dX2_wakeCores_70 ?_
            refine aw_iload X 0 dX2_wakeCores_73 rfl ?_
            obtain ⟨g20, hf⟩ := z_gd hf
            refine aw_iald X (j := (σ (a2 + 1) v4.toNat).toNat) (sX1_14 a1 h_a1) c4 g20.1 g20.2 rfl dX2_wakeCores_75 (fun c21 => ?_)
            obtain ⟨q22, e23, hf⟩ := z_bd hf
            refine aw_callV X [.ref (ad a1), .ref (ad a2), z_i ((u2 σ a2 6 q17) (a1 + 14) (σ (a2 + 1) v4.toNat).toNat)] [z_i v3] [z_i q22.1, z_i v3] cX2_145 s_743 ciX2 (C_X2_wakeCluster l D cA sa ad bs a1 h_a1 a2 h_a2 ((u2 σ a2 6 q17) (a1 + 14) (σ (a2 + 1) v4.toNat).toNat) c21 (u2 σ a2 6 q17) q22 e23) rfl ⟨(Nat.le_of_ble_eq_true rfl), (Nat.le_of_ble_eq_true rfl), (Nat.le_of_ble_eq_true rfl), (Nat.le_of_ble_eq_true rfl)⟩ rfl (Nat.le_of_ble_eq_true rfl) rfl dX2_wakeCores_76 (fun p24 => ?_)
            refine aw_iadd X dX2_wakeCores_79 ?_
            refine aw_istore_n X [(3, z_i (z_w (v3 + q22.1))), (5, z_i (σ (a2 + 1) v4.toNat)), (0, .ref (ad 743)), (1, .ref (ad a1)), (2, .ref (ad a2)), (4, z_i v4)] dX2_wakeCores_80 rfl (by decide) rfl ?_
            refine aw_iinc X 5 [(4, z_i (z_w (v4 + 1))), (3, z_i (z_w (v3 + q22.1))), (5, z_i (σ (a2 + 1) v4.toNat)), (0, .ref (ad 743)), (1, .ref (ad a1)), (2, .ref (ad a2))] dX2_wakeCores_81 rfl (by decide) rfl ?_
            refine aw_goto X (tgt := 5) dX2_wakeCores_84 (by decide) ?_
            refine aw_sub [3, 4, 5, 1, 0] rfl ?_
            exact ih a1 h_a1 a2 h_a2 (z_w (v3 + q22.1)) (z_w_in _) (z_w (v4 + 1)) (z_w_in _) q22.2 hf
end S_X2_wakeCores
set_option maxHeartbeats 4000000 in
set_option maxRecDepth 100000 in
theorem C_X2_wakeCores (l : Launch) (D : va_G) (cA : Nat → ClassId) (sa ad : Nat → Nat) (bs : Nat) (a1 : Nat) (h_a1 : a1 ∈ ax_iX1) (a2 : Nat) (h_a2 : a2 ∈ ax_iX7) (σ : Nat → Nat → Int) (q : (Int × (Nat → Nat → Int))) (hf : f_X2_wakeCores a1 a2 σ = some q) : AM l D cA sa ad bs 788 SHp yX2_wakeCores cX2_wakeCores 6 (some .int) 2 [.ref (ad 743), .ref (ad a1), .ref (ad a2)] σ (some (z_i q.1)) (Z_I q.1) q.2 := by
  refine am_of (by decide +kernel) (Nat.le_of_ble_eq_true rfl) (fun p e s m args below meth c X hr => ?_)
  refine aw_lv (lv' := [(0, .ref (ad 743)), (1, .ref (ad a1)), (2, .ref (ad a2))]) rfl ?_
  unfold f_X2_wakeCores at hf
  refine aw_iconst X dX2_wakeCores_0 ?_
  refine aw_istore_n X [(3, z_i 0), (0, .ref (ad 743)), (1, .ref (ad a1)), (2, .ref (ad a2))] dX2_wakeCores_1 rfl (by decide) rfl ?_
  refine aw_iconst X dX2_wakeCores_2 ?_
  refine aw_istore X [(4, z_i 0), (3, z_i 0), (0, .ref (ad 743)), (1, .ref (ad a1)), (2, .ref (ad a2))] dX2_wakeCores_3 (by decide) rfl ?_
  refine aw_sub [2, 3, 4, 1, 0] rfl ?_
  exact A_X2_wakeCores_5 X hr 100000 a1 h_a1 a2 h_a2 0 (z_lit (x := 0) (by decide)) 0 (z_lit (x := 0) (by decide)) σ hf
-- SpeedDesk$Clockwork.needOf(LSpeedDesk$Chip;LSpeedDesk$State;I)I
section S_X2_needOf
variable {p : Program} {l : Launch} {e : Env} {s : State} {m : MethodId} {args : Array Value} {below : List Frame} {meth : Method} {c : Code} {D : va_G} {cA : Nat → ClassId} {sa ad : Nat → Nat} {bs : Nat} {q : Int}
set_option maxHeartbeats 4000000 in
set_option maxRecDepth 100000 in
theorem A_X2_needOf_21 (X : AX p s m args meth c D cA sa bs cX2_needOf 8 RX2) (hr : meth.sig.returnType = (some .int)) (σ : Nat → Nat → Int) (K6 : Nat → Nat → Int → Int → Int → (Nat → Nat → Int) → Option Int) (hK6 : ∀ (a1 : Nat) (h_a1 : a1 ∈ ax_iX1) (a2 : Nat) (h_a2 : a2 ∈ ax_iX7) (v3 : Int) (c_v3 : Z_I v3) (v4 : Int) (c_v4 : Z_I v4) (v5 : Int) (c_v5 : Z_I v5), K6 a1 a2 v3 v4 v5 σ = some q → AW p l e (ax_rm 1 0 0) s m args below meth c D cA ad bs 788 SHp 0 0 (ax_MQ below args s D cA ad bs 788 SHp 0 0 (some (z_i q)) (Z_I q) σ) 8 6 [(1, .ref (ad a1)), (2, .ref (ad a2)), (3, z_i v3), (4, z_i v4), (5, z_i v5)] [] σ) : ∀ (k : Nat) (a1 : Nat) (h_a1 : a1 ∈ ax_iX1) (a2 : Nat) (h_a2 : a2 ∈ ax_iX7) (v3 : Int) (c_v3 : Z_I v3) (v4 : Int) (c_v4 : Z_I v4) (v5 : Int) (c_v5 : Z_I v5) (v6 : Int) (c_v6 : Z_I v6) (v7 : Int) (c_v7 : Z_I v7), f_X2_needOf_21 K6 k a1 a2 v3 v4 v5 v6 v7 σ = some q → AW p l e (ax_rm 1 0 0) s m args below meth c D cA ad bs 788 SHp 0 0 (ax_MQ below args s D cA ad bs 788 SHp 0 0 (some (z_i q)) (Z_I q) σ) 8 21 [(1, .ref (ad a1)), (2, .ref (ad a2)), (3, z_i v3), (4, z_i v4), (5, z_i v5), (6, z_i v6), (7, z_i v7)] [] σ := by
  intro k
  induction k with
  | zero =>
    intro a1 h_a1 a2 h_a2 v3 c_v3 v4 c_v4 v5 c_v5 v6 c_v6 v7 c_v7 hf
    unfold f_X2_needOf_21 at hf
    cases hf
  | succ k ih =>
    intro a1 h_a1 a2 h_a2 v3 c_v3 v4 c_v4 v5 c_v5 v6 c_v6 v7 c_v7 hf
    unfold f_X2_needOf_21 at hf
    refine aw_iload X 6 dX2_needOf_21 rfl ?_
    refine aw_aload_n X 0 dX2_needOf_23 rfl rfl ?_
    refine aw_getI X (sX1_0 a1 h_a1) fX2_64 rfl dX2_needOf_24 (fun c8 => ?_)
    refine aw_icmp_ge X (tgt := 64) c_v7 c8 dX2_needOf_27 (by decide) (fun h9 => ?_) (fun h9 => ?_)
    · rw [if_pos h9] at hf
      refine aw_aload_n X 0 dX2_needOf_64 rfl rfl ?_
      refine aw_getR X (sX1_0 a1 h_a1) fX2_73 rfl dX2_needOf_65 ?_
      refine aw_iload X 4 dX2_needOf_68 rfl ?_
      obtain ⟨g10, hf⟩ := z_gd hf
      refine aw_iald X (j := v5.toNat) (sX1_14 a1 h_a1) c_v5 g10.1 g10.2 rfl dX2_needOf_70 (fun c11 => ?_)
      refine aw_iload_n X 2 dX2_needOf_71 rfl rfl ?_
      refine aw_icmp_ne X (tgt := 85) c11 c_v3 dX2_needOf_72 (by decide) (fun h12 => ?_) (fun h12 => ?_)
      · simp only [if_neg h12] at hf
        refine aw_iload X 3 dX2_needOf_85 rfl ?_
        refine aw_istore X [(4, z_i v4), (1, .ref (ad a1)), (2, .ref (ad a2)), (3, z_i v3), (5, z_i v5), (6, z_i v6), (7, z_i v7)] dX2_needOf_87 (by decide) rfl ?_
        refine aw_iinc X 4 [(5, z_i (z_w (v5 + 1))), (4, z_i v4), (1, .ref (ad a1)), (2, .ref (ad a2)), (3, z_i v3), (6, z_i v6), (7, z_i v7)] dX2_needOf_89 rfl (by decide) rfl ?_
        refine aw_goto X (tgt := 6) dX2_needOf_92 (by decide) ?_
        refine aw_sub [2, 3, 4, 1, 0] rfl ?_
        exact hK6 a1 h_a1 a2 h_a2 v3 c_v3 v4 c_v4 (z_w (v5 + 1)) (z_w_in _) hf
      · simp only [if_pos h12] at hf
        refine aw_iload X 3 dX2_needOf_75 rfl ?_
        refine aw_iload X 5 dX2_needOf_77 rfl ?_
        refine aw_max X c_v4 c_v6 cX2_76 ⟨(Nat.le_of_ble_eq_true rfl), (Nat.le_of_ble_eq_true rfl), (Nat.le_of_ble_eq_true rfl), (Nat.le_of_ble_eq_true rfl)⟩ dX2_needOf_79 ?_
        refine aw_goto X (tgt := 87) dX2_needOf_82 (by decide) ?_
        refine aw_istore X [(4, z_i (max v4 v6)), (1, .ref (ad a1)), (2, .ref (ad a2)), (3, z_i v3), (5, z_i v5), (6, z_i v6), (7, z_i v7)] dX2_needOf_87 (by decide) rfl ?_
        refine aw_iinc X 4 [(5, z_i (z_w (v5 + 1))), (4, z_i (max v4 v6)), (1, .ref (ad a1)), (2, .ref (ad a2)), (3, z_i v3), (6, z_i v6), (7, z_i v7)] dX2_needOf_89 rfl (by decide) rfl ?_
        refine aw_goto X (tgt := 6) dX2_needOf_92 (by decide) ?_
        refine aw_sub [2, 3, 4, 1, 0] rfl ?_
        exact hK6 a1 h_a1 a2 h_a2 v3 c_v3 (max v4 v6) (z_max_in c_v4 c_v6) (z_w (v5 + 1)) (z_w_in _) hf
    · rw [if_neg h9] at hf
      refine aw_iload X 5 dX2_needOf_30 rfl ?_
      refine aw_aload_n X 1 dX2_needOf_32 rfl rfl ?_
      refine aw_getR X (sX7_0 a2 h_a2) fX2_67 rfl dX2_needOf_33 ?_
      refine aw_iload X 6 dX2_needOf_36 rfl ?_
      obtain ⟨g13, hf⟩ := z_gd hf
      refine aw_iald X (j := v7.toNat) (sX7_1 a2 h_a2) c_v7 g13.1 g13.2 rfl dX2_needOf_38 (fun c14 => ?_)
      refine aw_iload X 4 dX2_needOf_39 rfl ?_
      refine aw_icmp_ne X (tgt := 54) c14 c_v5 dX2_needOf_41 (by decide) (fun h15 => ?_) (fun h15 => ?_)
      · rw [if_neg h15] at hf
        refine aw_iconst X dX2_needOf_54 ?_
        refine aw_iadd X dX2_needOf_55 ?_
        refine aw_istore X [(6, z_i (z_w (v6 + 0))), (1, .ref (ad a1)), (2, .ref (ad a2)), (3, z_i v3), (4, z_i v4), (5, z_i v5), (7, z_i v7)] dX2_needOf_56 (by decide) rfl ?_
        refine aw_iinc X 6 [(7, z_i (z_w (v7 + 1))), (6, z_i (z_w (v6 + 0))), (1, .ref (ad a1)), (2, .ref (ad a2)), (3, z_i v3), (4, z_i v4), (5, z_i v5)] dX2_needOf_58 rfl (by decide) rfl ?_
        refine aw_goto X (tgt := 21) dX2_needOf_61 (by decide) ?_
        refine aw_sub [2, 3, 4, 5, 6, 1, 0] rfl ?_
        exact ih a1 h_a1 a2 h_a2 v3 c_v3 v4 c_v4 v5 c_v5 (z_w (v6 + 0)) (z_w_in _) (z_w (v7 + 1)) (z_w_in _) hf
      · rw [if_pos h15] at hf
        refine aw_aload_n X 1 dX2_needOf_44 rfl rfl ?_
        refine aw_getR X (sX7_0 a2 h_a2) fX2_70 rfl dX2_needOf_45 ?_
        refine aw_iload X 6 dX2_needOf_48 rfl ?_
        obtain ⟨g16, hf⟩ := z_gd hf
        refine aw_iald X (j := v7.toNat) (sX7_3 a2 h_a2) c_v7 g16.1 g16.2 rfl dX2_needOf_50 (fun c17 => ?_)
        refine aw_goto X (tgt := 55) dX2_needOf_51 (by decide) ?_
        refine aw_iadd X dX2_needOf_55 ?_
        refine aw_istore X [(6, z_i (z_w (v6 + (σ (a2 + 3) v7.toNat)))), (1, .ref (ad a1)), (2, .ref (ad a2)), (3, z_i v3), (4, z_i v4), (5, z_i v5), (7, z_i v7)] dX2_needOf_56 (by decide) rfl ?_
        refine aw_iinc X 6 [(7, z_i (z_w (v7 + 1))), (6, z_i (z_w (v6 + (σ (a2 + 3) v7.toNat)))), (1, .ref (ad a1)), (2, .ref (ad a2)), (3, z_i v3), (4, z_i v4), (5, z_i v5)] dX2_needOf_58 rfl (by decide) rfl ?_
        refine aw_goto X (tgt := 21) dX2_needOf_61 (by decide) ?_
        refine aw_sub [2, 3, 4, 5, 6, 1, 0] rfl ?_
        exact ih a1 h_a1 a2 h_a2 v3 c_v3 v4 c_v4 v5 c_v5 (z_w (v6 + (σ (a2 + 3) v7.toNat))) (z_w_in _) (z_w (v7 + 1)) (z_w_in _) hf
set_option maxHeartbeats 4000000 in
set_option maxRecDepth 100000 in
theorem A_X2_needOf_6 (X : AX p s m args meth c D cA sa bs cX2_needOf 8 RX2) (hr : meth.sig.returnType = (some .int)) (σ : Nat → Nat → Int) : ∀ (k : Nat) (a1 : Nat) (h_a1 : a1 ∈ ax_iX1) (a2 : Nat) (h_a2 : a2 ∈ ax_iX7) (v3 : Int) (c_v3 : Z_I v3) (v4 : Int) (c_v4 : Z_I v4) (v5 : Int) (c_v5 : Z_I v5), f_X2_needOf_6 k a1 a2 v3 v4 v5 σ = some q → AW p l e (ax_rm 1 0 0) s m args below meth c D cA ad bs 788 SHp 0 0 (ax_MQ below args s D cA ad bs 788 SHp 0 0 (some (z_i q)) (Z_I q) σ) 8 6 [(1, .ref (ad a1)), (2, .ref (ad a2)), (3, z_i v3), (4, z_i v4), (5, z_i v5)] [] σ := by
  intro k
  induction k with
  | zero =>
    intro a1 h_a1 a2 h_a2 v3 c_v3 v4 c_v4 v5 c_v5 hf
    unfold f_X2_needOf_6 at hf
    cases hf
  | succ k ih =>
    intro a1 h_a1 a2 h_a2 v3 c_v3 v4 c_v4 v5 c_v5 hf
    unfold f_X2_needOf_6 at hf
    refine aw_iload X 4 dX2_needOf_6 rfl ?_
    refine aw_aload_n X 0 dX2_needOf_8 rfl rfl ?_
    refine aw_getI X (sX1_0 a1 h_a1) fX2_42 rfl dX2_needOf_9 (fun c1 => ?_)
    refine aw_icmp_ge X (tgt := 95) c_v5 c1 dX2_needOf_12 (by decide) (fun h2 => ?_) (fun h2 => ?_)
    · rw [if_pos h2] at hf
      refine aw_iload X 3 dX2_needOf_95 rfl ?_
      refine aw_aload_n X 0 dX2_needOf_97 rfl rfl ?_
      refine aw_getI X (sX1_0 a1 h_a1) fX2_81 rfl dX2_needOf_98 (fun c3 => ?_)
      refine aw_imul X dX2_needOf_101 ?_
      refine aw_bipush X dX2_needOf_102 (by decide) ?_
      refine aw_aload_n X 0 dX2_needOf_104 rfl rfl ?_
      refine aw_getR X (sX1_0 a1 h_a1) fX2_54 rfl dX2_needOf_105 ?_
      refine aw_iconst X dX2_needOf_108 ?_
      refine aw_iald X (j := 0) (sX1_18 a1 h_a1) (z_lit (x := 0) (by decide)) (by decide) (by decide) rfl dX2_needOf_109 (fun c4 => ?_)
      refine aw_iadd X dX2_needOf_110 ?_
      refine aw_imul X dX2_needOf_111 ?_
      refine aw_ldc X (x := 102400) dX2_needOf_112 kX2_84 (by decide) ?_
      obtain ⟨q5, e6, hf⟩ := z_bd hf
      refine aw_callN X [z_i (z_w ((z_w (v4 * (σ a1 3))) * (z_w (100 + (σ (a1 + 18) 0))))), z_i 102400] [] [z_i q5] cX2_85 (C_X11_roundedUp l D cA sa ad bs (z_w ((z_w (v4 * (σ a1 3))) * (z_w (100 + (σ (a1 + 18) 0))))) (z_w_in _) 102400 (z_lit (x := 102400) (by decide)) σ q5 e6) rfl ⟨(Nat.le_of_ble_eq_true rfl), (Nat.le_of_ble_eq_true rfl), (Nat.le_of_ble_eq_true rfl), (Nat.le_of_ble_eq_true rfl)⟩ rfl (Nat.le_of_ble_eq_true rfl) rfl dX2_needOf_114 (fun p7 => ?_)
      obtain rfl := Option.some.inj hf
      exact aw_iret X p7 hr rfl dX2_needOf_117
    · rw [if_neg h2] at hf
      refine aw_iconst X dX2_needOf_15 ?_
      refine aw_istore X [(6, z_i 0), (1, .ref (ad a1)), (2, .ref (ad a2)), (3, z_i v3), (4, z_i v4), (5, z_i v5)] dX2_needOf_16 (by decide) rfl ?_
      refine aw_iconst X dX2_needOf_18 ?_
      refine aw_istore X [(7, z_i 0), (6, z_i 0), (1, .ref (ad a1)), (2, .ref (ad a2)), (3, z_i v3), (4, z_i v4), (5, z_i v5)] dX2_needOf_19 (by decide) rfl ?_
      refine aw_sub [2, 3, 4, 5, 6, 1, 0] rfl ?_
      exact A_X2_needOf_21 X hr σ (f_X2_needOf_6 k) ih 100000 a1 h_a1 a2 h_a2 v3 c_v3 v4 c_v4 v5 c_v5 0 (z_lit (x := 0) (by decide)) 0 (z_lit (x := 0) (by decide)) hf
end S_X2_needOf
set_option maxHeartbeats 4000000 in
set_option maxRecDepth 100000 in
theorem C_X2_needOf (l : Launch) (D : va_G) (cA : Nat → ClassId) (sa ad : Nat → Nat) (bs : Nat) (a1 : Nat) (h_a1 : a1 ∈ ax_iX1) (a2 : Nat) (h_a2 : a2 ∈ ax_iX7) (v3 : Int) (c_v3 : Z_I v3) (σ : Nat → Nat → Int) (q : Int) (hf : f_X2_needOf a1 a2 v3 σ = some q) : AM l D cA sa ad bs 788 SHp yX2_needOf cX2_needOf 8 (some .int) 1 [.ref (ad 743), .ref (ad a1), .ref (ad a2), z_i v3] σ (some (z_i q)) (Z_I q) σ := by
  refine am_of (by decide +kernel) (Nat.le_of_ble_eq_true rfl) (fun p e s m args below meth c X hr => ?_)
  refine aw_lv (lv' := [(0, .ref (ad 743)), (1, .ref (ad a1)), (2, .ref (ad a2)), (3, z_i v3)]) rfl ?_
  unfold f_X2_needOf at hf
  refine aw_iconst X dX2_needOf_0 ?_
  refine aw_istore X [(4, z_i 0), (0, .ref (ad 743)), (1, .ref (ad a1)), (2, .ref (ad a2)), (3, z_i v3)] dX2_needOf_1 (by decide) rfl ?_
  refine aw_iconst X dX2_needOf_3 ?_
  refine aw_istore X [(5, z_i 0), (4, z_i 0), (0, .ref (ad 743)), (1, .ref (ad a1)), (2, .ref (ad a2)), (3, z_i v3)] dX2_needOf_4 (by decide) rfl ?_
  refine aw_sub [3, 4, 5, 1, 0] rfl ?_
  exact A_X2_needOf_6 X hr σ 100000 a1 h_a1 a2 h_a2 v3 c_v3 0 (z_lit (x := 0) (by decide)) 0 (z_lit (x := 0) (by decide)) hf
-- SpeedDesk$Clockwork.wantOf(LSpeedDesk$Chip;LSpeedDesk$State;I)I
section S_X2_wantOf
variable {p : Program} {l : Launch} {e : Env} {s : State} {m : MethodId} {args : Array Value} {below : List Frame} {meth : Method} {c : Code} {D : va_G} {cA : Nat → ClassId} {sa ad : Nat → Nat} {bs : Nat} {q : Int}
set_option maxHeartbeats 4000000 in
set_option maxRecDepth 100000 in
theorem A_X2_wantOf_39 (X : AX p s m args meth c D cA sa bs cX2_wantOf 5 RX2) (hr : meth.sig.returnType = (some .int)) (σ : Nat → Nat → Int) (a1 : Nat) (h_a1 : a1 ∈ ax_iX1) (v3 : Int) (c_v3 : Z_I v3) (hf : f_X2_wantOf_39 a1 v3 σ = some q) : AW p l e (ax_rm 2 0 0) s m args below meth c D cA ad bs 788 SHp 0 0 (ax_MQ below args s D cA ad bs 788 SHp 0 0 (some (z_i q)) (Z_I q) σ) 5 39 [(1, .ref (ad a1)), (3, z_i v3)] [] σ := by
  unfold f_X2_wantOf_39 at hf
  refine aw_aload_n X 0 dX2_wantOf_39 rfl rfl ?_
  refine aw_getR X (sX1_0 a1 h_a1) fX2_101 rfl dX2_wantOf_40 ?_
  refine aw_iload_n X 1 dX2_wantOf_43 rfl rfl ?_
  obtain ⟨g15, hf⟩ := z_gd hf
  refine aw_iald X (j := v3.toNat) (sX1_5 a1 h_a1) c_v3 g15.1 g15.2 rfl dX2_wantOf_44 (fun c16 => ?_)
  refine aw_iconst X dX2_wantOf_45 ?_
  refine aw_isub X dX2_wantOf_46 ?_
  refine aw_goto X (tgt := 52) dX2_wantOf_47 (by decide) ?_
  obtain rfl := Option.some.inj hf
  exact aw_iret X (z_w_in _) hr rfl dX2_wantOf_52
end S_X2_wantOf
set_option maxHeartbeats 4000000 in
set_option maxRecDepth 100000 in
theorem C_X2_wantOf (l : Launch) (D : va_G) (cA : Nat → ClassId) (sa ad : Nat → Nat) (bs : Nat) (a1 : Nat) (h_a1 : a1 ∈ ax_iX1) (a2 : Nat) (h_a2 : a2 ∈ ax_iX7) (v3 : Int) (c_v3 : Z_I v3) (σ : Nat → Nat → Int) (q : Int) (hf : f_X2_wantOf a1 a2 v3 σ = some q) : AM l D cA sa ad bs 788 SHp yX2_wantOf cX2_wantOf 5 (some .int) 2 [.ref (ad 743), .ref (ad a1), .ref (ad a2), z_i v3] σ (some (z_i q)) (Z_I q) σ := by
  refine am_of (by decide +kernel) (Nat.le_of_ble_eq_true rfl) (fun p e s m args below meth c X hr => ?_)
  refine aw_lv (lv' := [(0, .ref (ad 743)), (1, .ref (ad a1)), (2, .ref (ad a2)), (3, z_i v3)]) rfl ?_
  unfold f_X2_wantOf at hf
  refine aw_aload_n X 1 dX2_wantOf_0 rfl rfl ?_
  refine aw_iload_n X 3 dX2_wantOf_1 rfl rfl ?_
  obtain ⟨q1, e2, hf⟩ := z_bd hf
  refine aw_callV X [z_i v3] [] [z_i q1] cX2_88 (sX1_0 a1 h_a1) ciX1 (C_X1_hasCluster l D cA sa ad bs a1 h_a1 v3 c_v3 σ q1 e2) rfl ⟨(Nat.le_of_ble_eq_true rfl), (Nat.le_of_ble_eq_true rfl), (Nat.le_of_ble_eq_true rfl), (Nat.le_of_ble_eq_true rfl)⟩ rfl (Nat.le_of_ble_eq_true rfl) rfl dX2_wantOf_2 (fun p3 => ?_)
  refine aw_if_ne X (tgt := 10) (z_zI p3) dX2_wantOf_5 (by decide) (fun h4 => ?_) (fun h4 => ?_)
  · rw [if_neg h4] at hf
    refine aw_aload_n X 1 dX2_wantOf_10 rfl rfl ?_
    refine aw_iload_n X 3 dX2_wantOf_11 rfl rfl ?_
    refine aw_aload_n X 0 dX2_wantOf_12 rfl rfl ?_
    refine aw_aload_n X 1 dX2_wantOf_13 rfl rfl ?_
    refine aw_aload_n X 2 dX2_wantOf_14 rfl rfl ?_
    refine aw_iload_n X 3 dX2_wantOf_15 rfl rfl ?_
    obtain ⟨q5, e6, hf⟩ := z_bd hf
    refine aw_callV X [.ref (ad a1), .ref (ad a2), z_i v3] [z_i v3, .ref (ad a1)] [z_i q5, z_i v3, .ref (ad a1)] cX2_92 s_743 ciX2 (C_X2_needOf l D cA sa ad bs a1 h_a1 a2 h_a2 v3 c_v3 σ q5 e6) rfl ⟨(Nat.le_of_ble_eq_true rfl), (Nat.le_of_ble_eq_true rfl), (Nat.le_of_ble_eq_true rfl), (Nat.le_of_ble_eq_true rfl)⟩ rfl (Nat.le_of_ble_eq_true rfl) rfl dX2_wantOf_16 (fun p7 => ?_)
    obtain ⟨q8, e9, hf⟩ := z_bd hf
    refine aw_callV X [z_i v3, z_i q5] [] [z_i q8] cX2_95 (sX1_0 a1 h_a1) ciX1 (C_X1_firstPointFor l D cA sa ad bs a1 h_a1 v3 c_v3 q5 p7 σ q8 e9) rfl ⟨(Nat.le_of_ble_eq_true rfl), (Nat.le_of_ble_eq_true rfl), (Nat.le_of_ble_eq_true rfl), (Nat.le_of_ble_eq_true rfl)⟩ rfl (Nat.le_of_ble_eq_true rfl) rfl dX2_wantOf_19 (fun p10 => ?_)
    refine aw_istore X [(4, z_i q8), (0, .ref (ad 743)), (1, .ref (ad a1)), (2, .ref (ad a2)), (3, z_i v3)] dX2_wantOf_22 (by decide) rfl ?_
    refine aw_iload X 0 dX2_wantOf_24 rfl ?_
    refine aw_iconst X dX2_wantOf_26 ?_
    refine aw_icmp_eq X (tgt := 39) p10 (z_lit (x := (-1)) (by decide)) dX2_wantOf_27 (by decide) (fun h11 => ?_) (fun h11 => ?_)
    · rw [if_pos h11] at hf
      refine aw_sub [2, 4] rfl ?_
      exact A_X2_wantOf_39 X hr σ a1 h_a1 v3 c_v3 hf
    · rw [if_neg h11] at hf
      refine aw_aload_n X 3 dX2_wantOf_30 rfl rfl ?_
      refine aw_getR X (sX7_0 a2 h_a2) fX2_98 rfl dX2_wantOf_31 ?_
      refine aw_iload_n X 4 dX2_wantOf_34 rfl rfl ?_
      obtain ⟨g12, hf⟩ := z_gd hf
      refine aw_iald X (j := v3.toNat) (sX7_7 a2 h_a2) c_v3 g12.1 g12.2 rfl dX2_wantOf_35 (fun c13 => ?_)
      refine aw_if_le X (tgt := 50) c13 dX2_wantOf_36 (by decide) (fun h14 => ?_) (fun h14 => ?_)
      · rw [if_pos h14] at hf
        refine aw_iload X 0 dX2_wantOf_50 rfl ?_
        obtain rfl := Option.some.inj hf
        exact aw_iret X p10 hr rfl dX2_wantOf_52
      · rw [if_neg h14] at hf
        refine aw_sub [2, 4] rfl ?_
        exact A_X2_wantOf_39 X hr σ a1 h_a1 v3 c_v3 hf
  · rw [if_pos h4] at hf
    refine aw_iconst X dX2_wantOf_8 ?_
    obtain rfl := Option.some.inj hf
    exact aw_iret X (z_lit (x := (-1)) (by decide)) hr rfl dX2_wantOf_9
