-- SpeedDesk.doAct(LSpeedDesk$Step;)I
def f_X11_doAct_62 (v2 : Int) (t0 : Int) (t1 : Int) (t2 : Int) (b3 : Nat) (σ : Nat → Nat → Int) : Option (Int × (Nat → Nat → Int)) := (f_X4_write b3 t2 t1 t0 (σ 173 0) σ).bind fun q14 => some (v2, u2 q14 173 3 (z_w ((q14 173 3) + 1)))
def f_X11_doAct (a1 : Nat) (σ : Nat → Nat → Int) : Option (Int × (Nat → Nat → Int)) := (f_X3_keep 173 σ).bind fun q1 => if (q1 0 2).toNat ∈ ax_iX1 then (f_X0_carryOut ((q1 0 2).toNat) 173 a1 q1).bind fun q5 => f_X11_doAct_62 q5.1 (if (q5.2 a1 1) = 6 then q5.1 else (q5.2 (a1 + 1) 0)) (q5.2 a1 1) (q5.2 173 3) 212 q5.2 else none
section S_X11_doAct
variable {p : Program} {l : Launch} {e : Env} {s : State} {m : MethodId} {args : Array Value} {below : List Frame} {meth : Method} {c : Code} {D : va_G} {cA : Nat → ClassId} {sa : Nat → Nat} {bs : Nat} {q : (Int × (Nat → Nat → Int))}
set_option maxHeartbeats 4000000 in
set_option maxRecDepth 100000 in
theorem A_X11_doAct_62 (X : AX p s m args meth c D cA sa bs cX11_doAct 3 RX11) (hr : meth.sig.returnType = (some .int)) (v2 : Int) (c_v2 : Z_I v2) (t0 : Int) (c_t0 : Z_I t0) (t1 : Int) (c_t1 : Z_I t1) (t2 : Int) (c_t2 : Z_I t2) (b3 : Nat) (h_b3 : b3 ∈ ax_iX4) (σ : Nat → Nat → Int) (hf : f_X11_doAct_62 v2 t0 t1 t2 b3 σ = some q) : AW p l e (ax_rm 7 0 0) s m args below meth c D cA bs 787 SH (ax_MQ below args s D cA bs 787 SH (some (z_i q.1)) (Z_I q.1) q.2) 3 62 [(0, .ref (bs + 0)), (2, z_i v2)] [z_i t0, z_i t1, z_i t2, .ref (bs + b3)] σ := by
  unfold f_X11_doAct_62 at hf
  refine aw_aload_n X 0 dX11_doAct_62 rfl rfl ?_
  refine aw_getR X s_0 fX11_42 rfl dX11_doAct_63 ?_
  refine aw_getI X (sX7_0 173 (by decide)) fX11_274 rfl dX11_doAct_66 (fun c13 => ?_)
  obtain ⟨q14, e15, hf⟩ := z_bd hf
  refine aw_callV X [z_i t2, z_i t1, z_i t0, z_i (σ 173 0)] [] [] cX11_461 (sX4_0 b3 h_b3) ciX4 (C_X4_write l D cA sa bs b3 h_b3 t2 c_t2 t1 c_t1 t0 c_t0 (σ 173 0) c13 σ q14 e15) rfl ⟨(Nat.le_of_ble_eq_true rfl), (Nat.le_of_ble_eq_true rfl)⟩ rfl (Nat.le_of_ble_eq_true rfl) rfl dX11_doAct_69 (fun p16 => ?_)
  refine aw_aload_n X 0 dX11_doAct_72 rfl rfl ?_
  refine aw_getR X s_0 fX11_42 rfl dX11_doAct_73 ?_
  refine aw_dup X dX11_doAct_76 rfl ?_
  refine aw_getI X (sX7_0 173 (by decide)) fX11_287 rfl dX11_doAct_77 (fun c17 => ?_)
  refine aw_iconst X dX11_doAct_80 ?_
  refine aw_iadd X dX11_doAct_81 ?_
  refine aw_putI X (sX7_0 173 (by decide)) pX11_287 rfl (z_w_in _) dX11_doAct_82 ?_
  refine aw_iload_n X 1 dX11_doAct_85 rfl rfl ?_
  obtain rfl := Option.some.inj hf
  exact aw_iret X c_v2 hr rfl dX11_doAct_86
end S_X11_doAct
set_option maxHeartbeats 4000000 in
set_option maxRecDepth 100000 in
theorem C_X11_doAct (l : Launch) (D : va_G) (cA : Nat → ClassId) (sa : Nat → Nat) (bs : Nat) (a1 : Nat) (h_a1 : a1 ∈ ax_iX8) (σ : Nat → Nat → Int) (q : (Int × (Nat → Nat → Int))) (hf : f_X11_doAct a1 σ = some q) : AM l D cA sa bs 787 SH yX11_doAct cX11_doAct 3 (some .int) 7 [.ref (bs + 0), .ref (bs + a1)] σ (some (z_i q.1)) (Z_I q.1) q.2 := by
  refine am_of (by decide +kernel) (Nat.le_of_ble_eq_true rfl) (fun p e s m args below meth c X hr => ?_)
  refine aw_lv (lv' := [(0, .ref (bs + 0)), (1, .ref (bs + a1))]) rfl ?_
  unfold f_X11_doAct at hf
  refine aw_aload_n X 0 dX11_doAct_0 rfl rfl ?_
  refine aw_getR X s_0 fX11_65 rfl dX11_doAct_1 ?_
  refine aw_aload_n X 0 dX11_doAct_4 rfl rfl ?_
  refine aw_getR X s_0 fX11_42 rfl dX11_doAct_5 ?_
  obtain ⟨q1, e2, hf⟩ := z_bd hf
  refine aw_callV X [.ref (bs + 173)] [] [] cX11_455 s_220 ciX3 (C_X3_keep l D cA sa bs 173 (by decide) σ q1 e2) rfl ⟨(Nat.le_of_ble_eq_true rfl), (Nat.le_of_ble_eq_true rfl)⟩ rfl (Nat.le_of_ble_eq_true rfl) rfl dX11_doAct_8 (fun p3 => ?_)
  refine aw_aload_n X 0 dX11_doAct_11 rfl rfl ?_
  refine aw_getR X s_0 fX11_72 rfl dX11_doAct_12 ?_
  refine aw_aload_n X 0 dX11_doAct_15 rfl rfl ?_
  obtain ⟨g4, hf⟩ := z_gd hf
  refine aw_getV X s_0 fX11_24 rfl dX11_doAct_16 ?_
  refine aw_aload_n X 0 dX11_doAct_19 rfl rfl ?_
  refine aw_getR X s_0 fX11_42 rfl dX11_doAct_20 ?_
  refine aw_aload_n X 1 dX11_doAct_23 rfl rfl ?_
  obtain ⟨q5, e6, hf⟩ := z_bd hf
  refine aw_callV X [.ref (bs + ((q1 0 2).toNat)), .ref (bs + 173), .ref (bs + a1)] [] [z_i q5.1] cX11_458 s_742 ciX0 (C_X0_carryOut l D cA sa bs ((q1 0 2).toNat) g4 173 (by decide) a1 h_a1 q1 q5 e6) rfl ⟨(Nat.le_of_ble_eq_true rfl), (Nat.le_of_ble_eq_true rfl)⟩ rfl (Nat.le_of_ble_eq_true rfl) rfl dX11_doAct_24 (fun p7 => ?_)
  refine aw_istore_n X [(2, z_i q5.1), (0, .ref (bs + 0)), (1, .ref (bs + a1))] dX11_doAct_27 rfl (by decide) rfl ?_
  refine aw_aload_n X 1 dX11_doAct_28 rfl rfl ?_
  refine aw_getR X s_0 fX11_55 rfl dX11_doAct_29 ?_
  refine aw_aload_n X 1 dX11_doAct_32 rfl rfl ?_
  refine aw_getR X s_0 fX11_42 rfl dX11_doAct_33 ?_
  refine aw_getI X (sX7_0 173 (by decide)) fX11_287 rfl dX11_doAct_36 (fun c8 => ?_)
  refine aw_aload_n X 2 dX11_doAct_39 rfl rfl ?_
  refine aw_getI X (sX8_0 a1 h_a1) fX11_370 rfl dX11_doAct_40 (fun c9 => ?_)
  refine aw_aload_n X 2 dX11_doAct_43 rfl rfl ?_
  refine aw_getI X (sX8_0 a1 h_a1) fX11_370 rfl dX11_doAct_44 (fun c10 => ?_)
  refine aw_bipush X dX11_doAct_47 (by decide) ?_
  refine aw_icmp_ne X (tgt := 56) c10 (z_lit (x := 6) (by decide)) dX11_doAct_49 (by decide) (fun h11 => ?_) (fun h11 => ?_)
  · simp only [if_neg h11] at hf
    refine aw_aload_n X 2 dX11_doAct_56 rfl rfl ?_
    refine aw_getR X (sX8_0 a1 h_a1) fX11_373 rfl dX11_doAct_57 ?_
    refine aw_iconst X dX11_doAct_60 ?_
    refine aw_iald X (j := 0) (sX8_1 a1 h_a1) (z_lit (x := 0) (by decide)) (by decide) (by decide) rfl dX11_doAct_61 (fun c12 => ?_)
    refine aw_sub [1, 0] rfl ?_
    exact A_X11_doAct_62 X hr q5.1 p7 (q5.2 (a1 + 1) 0) c12 (q5.2 a1 1) c9 (q5.2 173 3) c8 212 (by decide) q5.2 hf
  · simp only [if_pos h11] at hf
    refine aw_iload_n X 0 dX11_doAct_52 rfl rfl ?_
    refine aw_goto X (tgt := 62) dX11_doAct_53 (by decide) ?_
    refine aw_sub [1, 0] rfl ?_
    exact A_X11_doAct_62 X hr q5.1 p7 q5.1 p7 (q5.2 a1 1) c9 (q5.2 173 3) c8 212 (by decide) q5.2 hf
-- SpeedDesk.doOrRefuse(LSpeedDesk$Step;)I
def f_X11_doOrRefuse (a1 : Nat) (σ : Nat → Nat → Int) : Option (Int × (Nat → Nat → Int)) := if (σ 0 2).toNat ∈ ax_iX1 then (f_X0_refusalOf ((σ 0 2).toNat) 173 a1 σ).bind fun q2 => if q2.1 = (-1) then ((f_X11_doAct a1 q2.2).bind fun q11 => some (q11.1, q11.2)) else (if q2.1 < 0 then (some ((-1), q2.2)) else (if 4 ≤ q2.1 then (some ((-1), q2.2)) else (if 0 ≤ q2.1 ∧ q2.1 < 4 then if 0 ≤ q2.1 ∧ q2.1 < 4 then some ((-1), u2 q2.2 757 q2.1.toNat (z_w ((q2.2 757 q2.1.toNat) + 1))) else none else none))) else none
section S_X11_doOrRefuse
variable {p : Program} {l : Launch} {e : Env} {s : State} {m : MethodId} {args : Array Value} {below : List Frame} {meth : Method} {c : Code} {D : va_G} {cA : Nat → ClassId} {sa : Nat → Nat} {bs : Nat} {q : (Int × (Nat → Nat → Int))}

end S_X11_doOrRefuse
set_option maxHeartbeats 4000000 in
set_option maxRecDepth 100000 in
theorem C_X11_doOrRefuse (l : Launch) (D : va_G) (cA : Nat → ClassId) (sa : Nat → Nat) (bs : Nat) (a1 : Nat) (h_a1 : a1 ∈ ax_iX8) (σ : Nat → Nat → Int) (q : (Int × (Nat → Nat → Int))) (hf : f_X11_doOrRefuse a1 σ = some q) : AM l D cA sa bs 787 SH yX11_doOrRefuse cX11_doOrRefuse 3 (some .int) 8 [.ref (bs + 0), .ref (bs + a1)] σ (some (z_i q.1)) (Z_I q.1) q.2 := by
  refine am_of (by decide +kernel) (Nat.le_of_ble_eq_true rfl) (fun p e s m args below meth c X hr => ?_)
  refine aw_lv (lv' := [(0, .ref (bs + 0)), (1, .ref (bs + a1))]) rfl ?_
  unfold f_X11_doOrRefuse at hf
  refine aw_aload_n X 0 dX11_doOrRefuse_0 rfl rfl ?_
  refine aw_getR X s_0 fX11_72 rfl dX11_doOrRefuse_1 ?_
  refine aw_aload_n X 0 dX11_doOrRefuse_4 rfl rfl ?_
  obtain ⟨g1, hf⟩ := z_gd hf
  refine aw_getV X s_0 fX11_24 rfl dX11_doOrRefuse_5 ?_
  refine aw_aload_n X 0 dX11_doOrRefuse_8 rfl rfl ?_
  refine aw_getR X s_0 fX11_42 rfl dX11_doOrRefuse_9 ?_
  refine aw_aload_n X 1 dX11_doOrRefuse_12 rfl rfl ?_
  obtain ⟨q2, e3, hf⟩ := z_bd hf
  refine aw_callV X [.ref (bs + ((σ 0 2).toNat)), .ref (bs + 173), .ref (bs + a1)] [] [z_i q2.1] cX11_382 s_742 ciX0 (C_X0_refusalOf l D cA sa bs ((σ 0 2).toNat) g1 173 (by decide) a1 h_a1 σ q2 e3) rfl ⟨(Nat.le_of_ble_eq_true rfl), (Nat.le_of_ble_eq_true rfl)⟩ rfl (Nat.le_of_ble_eq_true rfl) rfl dX11_doOrRefuse_13 (fun p4 => ?_)
  refine aw_istore_n X [(2, z_i q2.1), (0, .ref (bs + 0)), (1, .ref (bs + a1))] dX11_doOrRefuse_16 rfl (by decide) rfl ?_
  refine aw_iload_n X 0 dX11_doOrRefuse_17 rfl rfl ?_
  refine aw_iconst X dX11_doOrRefuse_18 ?_
  refine aw_icmp_ne X (tgt := 28) p4 (z_lit (x := (-1)) (by decide)) dX11_doOrRefuse_19 (by decide) (fun h5 => ?_) (fun h5 => ?_)
  · rw [if_neg h5] at hf
    refine aw_iload_n X 0 dX11_doOrRefuse_28 rfl rfl ?_
    refine aw_if_lt X (tgt := 51) p4 dX11_doOrRefuse_29 (by decide) (fun h6 => ?_) (fun h6 => ?_)
    · rw [if_pos h6] at hf
      refine aw_iconst X dX11_doOrRefuse_51 ?_
      obtain rfl := Option.some.inj hf
      exact aw_iret X (z_lit (x := (-1)) (by decide)) hr rfl dX11_doOrRefuse_52
    · rw [if_neg h6] at hf
      refine aw_iload_n X 0 dX11_doOrRefuse_32 rfl rfl ?_
      refine aw_aload_n X 1 dX11_doOrRefuse_33 rfl rfl ?_
      refine aw_getR X s_0 fX11_93 rfl dX11_doOrRefuse_34 ?_
      refine aw_alenI X (x := 4) s_757 rfl dX11_doOrRefuse_37 ?_
      refine aw_icmp_ge X (tgt := 51) p4 (z_lit (x := 4) (by decide)) dX11_doOrRefuse_38 (by decide) (fun h7 => ?_) (fun h7 => ?_)
      · rw [if_pos h7] at hf
        refine aw_iconst X dX11_doOrRefuse_51 ?_
        obtain rfl := Option.some.inj hf
        exact aw_iret X (z_lit (x := (-1)) (by decide)) hr rfl dX11_doOrRefuse_52
      · rw [if_neg h7] at hf
        refine aw_aload_n X 1 dX11_doOrRefuse_41 rfl rfl ?_
        refine aw_getR X s_0 fX11_93 rfl dX11_doOrRefuse_42 ?_
        refine aw_iload_n X 0 dX11_doOrRefuse_45 rfl rfl ?_
        refine aw_dup2 X dX11_doOrRefuse_46 rfl rfl ?_
        obtain ⟨g8, hf⟩ := z_gd hf
        refine aw_iald X (j := q2.1.toNat) s_757 p4 g8.1 g8.2 rfl dX11_doOrRefuse_47 (fun c9 => ?_)
        refine aw_iconst X dX11_doOrRefuse_48 ?_
        refine aw_iadd X dX11_doOrRefuse_49 ?_
        obtain ⟨g10, hf⟩ := z_gd hf
        refine aw_iast X (j := q2.1.toNat) s_757 p4 g10.1 g10.2 rfl (z_w_in _) dX11_doOrRefuse_50 ?_
        refine aw_iconst X dX11_doOrRefuse_51 ?_
        obtain rfl := Option.some.inj hf
        exact aw_iret X (z_lit (x := (-1)) (by decide)) hr rfl dX11_doOrRefuse_52
  · rw [if_pos h5] at hf
    refine aw_aload_n X 1 dX11_doOrRefuse_22 rfl rfl ?_
    refine aw_aload_n X 2 dX11_doOrRefuse_23 rfl rfl ?_
    obtain ⟨q11, e12, hf⟩ := z_bd hf
    refine aw_callV X [.ref (bs + a1)] [] [z_i q11.1] cX11_386 s_0 ciX11 (C_X11_doAct l D cA sa bs a1 h_a1 q2.2 q11 e12) rfl ⟨(Nat.le_of_ble_eq_true rfl), (Nat.le_of_ble_eq_true rfl)⟩ rfl (Nat.le_of_ble_eq_true rfl) rfl dX11_doOrRefuse_24 (fun p13 => ?_)
    obtain rfl := Option.some.inj hf
    exact aw_iret X p13 hr rfl dX11_doOrRefuse_27
-- SpeedDesk.tick(I)I
def f_X11_tick (v1 : Int) (σ : Nat → Nat → Int) : Option (Int × (Nat → Nat → Int)) := (f_X8_put 755 0 v1 0 0 0 σ).bind fun q1 => (f_X11_doOrRefuse 755 q1).bind fun q4 => some (q4.1, q4.2)
section S_X11_tick
variable {p : Program} {l : Launch} {e : Env} {s : State} {m : MethodId} {args : Array Value} {below : List Frame} {meth : Method} {c : Code} {D : va_G} {cA : Nat → ClassId} {sa : Nat → Nat} {bs : Nat} {q : (Int × (Nat → Nat → Int))}

end S_X11_tick
set_option maxHeartbeats 4000000 in
set_option maxRecDepth 100000 in
theorem C_X11_tick (l : Launch) (D : va_G) (cA : Nat → ClassId) (sa : Nat → Nat) (bs : Nat) (v1 : Int) (c_v1 : Z_I v1) (σ : Nat → Nat → Int) (q : (Int × (Nat → Nat → Int))) (hf : f_X11_tick v1 σ = some q) : AM l D cA sa bs 787 SH yX11_tick cX11_tick 2 (some .int) 9 [.ref (bs + 0), z_i v1] σ (some (z_i q.1)) (Z_I q.1) q.2 := by
  refine am_of (by decide +kernel) (Nat.le_of_ble_eq_true rfl) (fun p e s m args below meth c X hr => ?_)
  refine aw_lv (lv' := [(0, .ref (bs + 0)), (1, z_i v1)]) rfl ?_
  unfold f_X11_tick at hf
  refine aw_aload_n X 0 dX11_tick_0 rfl rfl ?_
  refine aw_getR X s_0 fX11_89 rfl dX11_tick_1 ?_
  refine aw_iconst X dX11_tick_4 ?_
  refine aw_iload_n X 1 dX11_tick_5 rfl rfl ?_
  refine aw_iconst X dX11_tick_6 ?_
  refine aw_iconst X dX11_tick_7 ?_
  refine aw_lconst X (x := 0) dX11_tick_8 (by decide) ?_
  obtain ⟨q1, e2, hf⟩ := z_bd hf
  refine aw_callV X [z_i 0, z_i v1, z_i 0, z_i 0, z_v 0] [] [] cX11_256 (sX8_0 755 (by decide)) ciX8 (C_X8_put l D cA sa bs 755 (by decide) 0 (z_lit (x := 0) (by decide)) v1 c_v1 0 (z_lit (x := 0) (by decide)) 0 (z_lit (x := 0) (by decide)) 0 (z_litL (x := 0) (by decide)) σ q1 e2) rfl ⟨(Nat.le_of_ble_eq_true rfl), (Nat.le_of_ble_eq_true rfl)⟩ rfl (Nat.le_of_ble_eq_true rfl) rfl dX11_tick_9 (fun p3 => ?_)
  refine aw_aload_n X 0 dX11_tick_12 rfl rfl ?_
  refine aw_aload_n X 0 dX11_tick_13 rfl rfl ?_
  refine aw_getR X s_0 fX11_89 rfl dX11_tick_14 ?_
  obtain ⟨q4, e5, hf⟩ := z_bd hf
  refine aw_callV X [.ref (bs + 755)] [] [z_i q4.1] cX11_260 s_0 ciX11 (C_X11_doOrRefuse l D cA sa bs 755 (by decide) q1 q4 e5) rfl ⟨(Nat.le_of_ble_eq_true rfl), (Nat.le_of_ble_eq_true rfl)⟩ rfl (Nat.le_of_ble_eq_true rfl) rfl dX11_tick_17 (fun p6 => ?_)
  obtain rfl := Option.some.inj hf
  exact aw_iret X p6 hr rfl dX11_tick_20
-- SpeedDesk.move(II)I
def f_X11_move (v1 : Int) (v2 : Int) (σ : Nat → Nat → Int) : Option (Int × (Nat → Nat → Int)) := (f_X8_put 755 1 v1 v2 0 0 σ).bind fun q1 => (f_X11_doOrRefuse 755 q1).bind fun q4 => some (q4.1, q4.2)
section S_X11_move
variable {p : Program} {l : Launch} {e : Env} {s : State} {m : MethodId} {args : Array Value} {below : List Frame} {meth : Method} {c : Code} {D : va_G} {cA : Nat → ClassId} {sa : Nat → Nat} {bs : Nat} {q : (Int × (Nat → Nat → Int))}

end S_X11_move
set_option maxHeartbeats 4000000 in
set_option maxRecDepth 100000 in
theorem C_X11_move (l : Launch) (D : va_G) (cA : Nat → ClassId) (sa : Nat → Nat) (bs : Nat) (v1 : Int) (c_v1 : Z_I v1) (v2 : Int) (c_v2 : Z_I v2) (σ : Nat → Nat → Int) (q : (Int × (Nat → Nat → Int))) (hf : f_X11_move v1 v2 σ = some q) : AM l D cA sa bs 787 SH yX11_move cX11_move 3 (some .int) 9 [.ref (bs + 0), z_i v1, z_i v2] σ (some (z_i q.1)) (Z_I q.1) q.2 := by
  refine am_of (by decide +kernel) (Nat.le_of_ble_eq_true rfl) (fun p e s m args below meth c X hr => ?_)
  refine aw_lv (lv' := [(0, .ref (bs + 0)), (1, z_i v1), (2, z_i v2)]) rfl ?_
  unfold f_X11_move at hf
  refine aw_aload_n X 0 dX11_move_0 rfl rfl ?_
  refine aw_getR X s_0 fX11_89 rfl dX11_move_1 ?_
  refine aw_iconst X dX11_move_4 ?_
  refine aw_iload_n X 1 dX11_move_5 rfl rfl ?_
  refine aw_iload_n X 2 dX11_move_6 rfl rfl ?_
  refine aw_iconst X dX11_move_7 ?_
  refine aw_lconst X (x := 0) dX11_move_8 (by decide) ?_
  obtain ⟨q1, e2, hf⟩ := z_bd hf
  refine aw_callV X [z_i 1, z_i v1, z_i v2, z_i 0, z_v 0] [] [] cX11_256 (sX8_0 755 (by decide)) ciX8 (C_X8_put l D cA sa bs 755 (by decide) 1 (z_lit (x := 1) (by decide)) v1 c_v1 v2 c_v2 0 (z_lit (x := 0) (by decide)) 0 (z_litL (x := 0) (by decide)) σ q1 e2) rfl ⟨(Nat.le_of_ble_eq_true rfl), (Nat.le_of_ble_eq_true rfl)⟩ rfl (Nat.le_of_ble_eq_true rfl) rfl dX11_move_9 (fun p3 => ?_)
  refine aw_aload_n X 0 dX11_move_12 rfl rfl ?_
  refine aw_aload_n X 0 dX11_move_13 rfl rfl ?_
  refine aw_getR X s_0 fX11_89 rfl dX11_move_14 ?_
  obtain ⟨q4, e5, hf⟩ := z_bd hf
  refine aw_callV X [.ref (bs + 755)] [] [z_i q4.1] cX11_260 s_0 ciX11 (C_X11_doOrRefuse l D cA sa bs 755 (by decide) q1 q4 e5) rfl ⟨(Nat.le_of_ble_eq_true rfl), (Nat.le_of_ble_eq_true rfl)⟩ rfl (Nat.le_of_ble_eq_true rfl) rfl dX11_move_17 (fun p6 => ?_)
  obtain rfl := Option.some.inj hf
  exact aw_iret X p6 hr rfl dX11_move_20
-- SpeedDesk.doOrRefuseAsker(LSpeedDesk$Step;)I
def f_X11_doOrRefuseAsker (a1 : Nat) (σ : Nat → Nat → Int) : Option (Int × (Nat → Nat → Int)) := (f_X11_doOrRefuse a1 σ).bind fun q1 => if q1.1 = (-1) then (some (q1.1, q1.2)) else (some (q1.1, u2 q1.2 2 1 0))
section S_X11_doOrRefuseAsker
variable {p : Program} {l : Launch} {e : Env} {s : State} {m : MethodId} {args : Array Value} {below : List Frame} {meth : Method} {c : Code} {D : va_G} {cA : Nat → ClassId} {sa : Nat → Nat} {bs : Nat} {q : (Int × (Nat → Nat → Int))}

end S_X11_doOrRefuseAsker
set_option maxHeartbeats 4000000 in
set_option maxRecDepth 100000 in
theorem C_X11_doOrRefuseAsker (l : Launch) (D : va_G) (cA : Nat → ClassId) (sa : Nat → Nat) (bs : Nat) (a1 : Nat) (h_a1 : a1 ∈ ax_iX8) (σ : Nat → Nat → Int) (q : (Int × (Nat → Nat → Int))) (hf : f_X11_doOrRefuseAsker a1 σ = some q) : AM l D cA sa bs 787 SH yX11_doOrRefuseAsker cX11_doOrRefuseAsker 3 (some .int) 9 [.ref (bs + 0), .ref (bs + a1)] σ (some (z_i q.1)) (Z_I q.1) q.2 := by
  refine am_of (by decide +kernel) (Nat.le_of_ble_eq_true rfl) (fun p e s m args below meth c X hr => ?_)
  refine aw_lv (lv' := [(0, .ref (bs + 0)), (1, .ref (bs + a1))]) rfl ?_
  unfold f_X11_doOrRefuseAsker at hf
  refine aw_aload_n X 0 dX11_doOrRefuseAsker_0 rfl rfl ?_
  refine aw_aload_n X 1 dX11_doOrRefuseAsker_1 rfl rfl ?_
  obtain ⟨q1, e2, hf⟩ := z_bd hf
  refine aw_callV X [.ref (bs + a1)] [] [z_i q1.1] cX11_260 s_0 ciX11 (C_X11_doOrRefuse l D cA sa bs a1 h_a1 σ q1 e2) rfl ⟨(Nat.le_of_ble_eq_true rfl), (Nat.le_of_ble_eq_true rfl)⟩ rfl (Nat.le_of_ble_eq_true rfl) rfl dX11_doOrRefuseAsker_2 (fun p3 => ?_)
  refine aw_istore_n X [(2, z_i q1.1), (0, .ref (bs + 0)), (1, .ref (bs + a1))] dX11_doOrRefuseAsker_5 rfl (by decide) rfl ?_
  refine aw_iload_n X 0 dX11_doOrRefuseAsker_6 rfl rfl ?_
  refine aw_iconst X dX11_doOrRefuseAsker_7 ?_
  refine aw_icmp_eq X (tgt := 19) p3 (z_lit (x := (-1)) (by decide)) dX11_doOrRefuseAsker_8 (by decide) (fun h4 => ?_) (fun h4 => ?_)
  · rw [if_pos h4] at hf
    refine aw_iload_n X 0 dX11_doOrRefuseAsker_19 rfl rfl ?_
    obtain rfl := Option.some.inj hf
    exact aw_iret X p3 hr rfl dX11_doOrRefuseAsker_20
  · rw [if_neg h4] at hf
    refine aw_aload_n X 1 dX11_doOrRefuseAsker_11 rfl rfl ?_
    refine aw_getR X s_0 fX11_20 rfl dX11_doOrRefuseAsker_12 ?_
    refine aw_iconst X dX11_doOrRefuseAsker_15 ?_
    refine aw_putI X s_2 pX11_103 rfl (z_lit (x := 0) (by decide)) dX11_doOrRefuseAsker_16 ?_
    refine aw_iload_n X 0 dX11_doOrRefuseAsker_19 rfl rfl ?_
    obtain rfl := Option.some.inj hf
    exact aw_iret X p3 hr rfl dX11_doOrRefuseAsker_20
-- SpeedDesk.ask(III)I
def f_X11_ask (v1 : Int) (v2 : Int) (v3 : Int) (σ : Nat → Nat → Int) : Option (Int × (Nat → Nat → Int)) := (f_X10_readAsker σ).bind fun q1 => (f_X8_put 755 2 v1 v2 v3 q1.1 q1.2).bind fun q4 => (f_X11_doOrRefuseAsker 755 q4).bind fun q7 => some (q7.1, q7.2)
section S_X11_ask
variable {p : Program} {l : Launch} {e : Env} {s : State} {m : MethodId} {args : Array Value} {below : List Frame} {meth : Method} {c : Code} {D : va_G} {cA : Nat → ClassId} {sa : Nat → Nat} {bs : Nat} {q : (Int × (Nat → Nat → Int))}

end S_X11_ask
set_option maxHeartbeats 4000000 in
set_option maxRecDepth 100000 in
theorem C_X11_ask (l : Launch) (D : va_G) (cA : Nat → ClassId) (sa : Nat → Nat) (bs : Nat) (v1 : Int) (c_v1 : Z_I v1) (v2 : Int) (c_v2 : Z_I v2) (v3 : Int) (c_v3 : Z_I v3) (σ : Nat → Nat → Int) (q : (Int × (Nat → Nat → Int))) (hf : f_X11_ask v1 v2 v3 σ = some q) : AM l D cA sa bs 787 SH yX11_ask cX11_ask 4 (some .int) 10 [.ref (bs + 0), z_i v1, z_i v2, z_i v3] σ (some (z_i q.1)) (Z_I q.1) q.2 := by
  refine am_of (by decide +kernel) (Nat.le_of_ble_eq_true rfl) (fun p e s m args below meth c X hr => ?_)
  refine aw_lv (lv' := [(0, .ref (bs + 0)), (1, z_i v1), (2, z_i v2), (3, z_i v3)]) rfl ?_
  unfold f_X11_ask at hf
  refine aw_aload_n X 0 dX11_ask_0 rfl rfl ?_
  refine aw_getR X s_0 fX11_89 rfl dX11_ask_1 ?_
  refine aw_iconst X dX11_ask_4 ?_
  refine aw_iload_n X 1 dX11_ask_5 rfl rfl ?_
  refine aw_iload_n X 2 dX11_ask_6 rfl rfl ?_
  refine aw_iload_n X 3 dX11_ask_7 rfl rfl ?_
  refine aw_aload_n X 0 dX11_ask_8 rfl rfl ?_
  refine aw_getR X s_0 fX11_12 rfl dX11_ask_9 ?_
  obtain ⟨q1, e2, hf⟩ := z_bd hf
  refine aw_callV X [] [z_i v3, z_i v2, z_i v1, z_i 2, .ref (bs + 755)] [z_v q1.1, z_i v3, z_i v2, z_i v1, z_i 2, .ref (bs + 755)] cX11_123 s_1 ciX10 (C_X10_readAsker l D cA sa bs σ q1 e2) rfl ⟨(Nat.le_of_ble_eq_true rfl), (Nat.le_of_ble_eq_true rfl)⟩ rfl (Nat.le_of_ble_eq_true rfl) rfl dX11_ask_12 (fun p3 => ?_)
  obtain ⟨q4, e5, hf⟩ := z_bd hf
  refine aw_callV X [z_i 2, z_i v1, z_i v2, z_i v3, z_v q1.1] [] [] cX11_256 (sX8_0 755 (by decide)) ciX8 (C_X8_put l D cA sa bs 755 (by decide) 2 (z_lit (x := 2) (by decide)) v1 c_v1 v2 c_v2 v3 c_v3 q1.1 p3 q1.2 q4 e5) rfl ⟨(Nat.le_of_ble_eq_true rfl), (Nat.le_of_ble_eq_true rfl)⟩ rfl (Nat.le_of_ble_eq_true rfl) rfl dX11_ask_15 (fun p6 => ?_)
  refine aw_aload_n X 0 dX11_ask_18 rfl rfl ?_
  refine aw_aload_n X 0 dX11_ask_19 rfl rfl ?_
  refine aw_getR X s_0 fX11_89 rfl dX11_ask_20 ?_
  obtain ⟨q7, e8, hf⟩ := z_bd hf
  refine aw_callV X [.ref (bs + 755)] [] [z_i q7.1] cX11_264 s_0 ciX11 (C_X11_doOrRefuseAsker l D cA sa bs 755 (by decide) q4 q7 e8) rfl ⟨(Nat.le_of_ble_eq_true rfl), (Nat.le_of_ble_eq_true rfl)⟩ rfl (Nat.le_of_ble_eq_true rfl) rfl dX11_ask_23 (fun p9 => ?_)
  obtain rfl := Option.some.inj hf
  exact aw_iret X p9 hr rfl dX11_ask_26
-- SpeedDesk.drop(I)I
def f_X11_drop (v1 : Int) (σ : Nat → Nat → Int) : Option (Int × (Nat → Nat → Int)) := (f_X10_readAsker σ).bind fun q1 => (f_X8_put 755 3 v1 0 0 q1.1 q1.2).bind fun q4 => (f_X11_doOrRefuseAsker 755 q4).bind fun q7 => some (q7.1, q7.2)
section S_X11_drop
variable {p : Program} {l : Launch} {e : Env} {s : State} {m : MethodId} {args : Array Value} {below : List Frame} {meth : Method} {c : Code} {D : va_G} {cA : Nat → ClassId} {sa : Nat → Nat} {bs : Nat} {q : (Int × (Nat → Nat → Int))}

end S_X11_drop
set_option maxHeartbeats 4000000 in
set_option maxRecDepth 100000 in
theorem C_X11_drop (l : Launch) (D : va_G) (cA : Nat → ClassId) (sa : Nat → Nat) (bs : Nat) (v1 : Int) (c_v1 : Z_I v1) (σ : Nat → Nat → Int) (q : (Int × (Nat → Nat → Int))) (hf : f_X11_drop v1 σ = some q) : AM l D cA sa bs 787 SH yX11_drop cX11_drop 2 (some .int) 10 [.ref (bs + 0), z_i v1] σ (some (z_i q.1)) (Z_I q.1) q.2 := by
  refine am_of (by decide +kernel) (Nat.le_of_ble_eq_true rfl) (fun p e s m args below meth c X hr => ?_)
  refine aw_lv (lv' := [(0, .ref (bs + 0)), (1, z_i v1)]) rfl ?_
  unfold f_X11_drop at hf
  refine aw_aload_n X 0 dX11_drop_0 rfl rfl ?_
  refine aw_getR X s_0 fX11_89 rfl dX11_drop_1 ?_
  refine aw_iconst X dX11_drop_4 ?_
  refine aw_iload_n X 1 dX11_drop_5 rfl rfl ?_
  refine aw_iconst X dX11_drop_6 ?_
  refine aw_iconst X dX11_drop_7 ?_
  refine aw_aload_n X 0 dX11_drop_8 rfl rfl ?_
  refine aw_getR X s_0 fX11_12 rfl dX11_drop_9 ?_
  obtain ⟨q1, e2, hf⟩ := z_bd hf
  refine aw_callV X [] [z_i 0, z_i 0, z_i v1, z_i 3, .ref (bs + 755)] [z_v q1.1, z_i 0, z_i 0, z_i v1, z_i 3, .ref (bs + 755)] cX11_123 s_1 ciX10 (C_X10_readAsker l D cA sa bs σ q1 e2) rfl ⟨(Nat.le_of_ble_eq_true rfl), (Nat.le_of_ble_eq_true rfl)⟩ rfl (Nat.le_of_ble_eq_true rfl) rfl dX11_drop_12 (fun p3 => ?_)
  obtain ⟨q4, e5, hf⟩ := z_bd hf
  refine aw_callV X [z_i 3, z_i v1, z_i 0, z_i 0, z_v q1.1] [] [] cX11_256 (sX8_0 755 (by decide)) ciX8 (C_X8_put l D cA sa bs 755 (by decide) 3 (z_lit (x := 3) (by decide)) v1 c_v1 0 (z_lit (x := 0) (by decide)) 0 (z_lit (x := 0) (by decide)) q1.1 p3 q1.2 q4 e5) rfl ⟨(Nat.le_of_ble_eq_true rfl), (Nat.le_of_ble_eq_true rfl)⟩ rfl (Nat.le_of_ble_eq_true rfl) rfl dX11_drop_15 (fun p6 => ?_)
  refine aw_aload_n X 0 dX11_drop_18 rfl rfl ?_
  refine aw_aload_n X 0 dX11_drop_19 rfl rfl ?_
  refine aw_getR X s_0 fX11_89 rfl dX11_drop_20 ?_
  obtain ⟨q7, e8, hf⟩ := z_bd hf
  refine aw_callV X [.ref (bs + 755)] [] [z_i q7.1] cX11_264 s_0 ciX11 (C_X11_doOrRefuseAsker l D cA sa bs 755 (by decide) q4 q7 e8) rfl ⟨(Nat.le_of_ble_eq_true rfl), (Nat.le_of_ble_eq_true rfl)⟩ rfl (Nat.le_of_ble_eq_true rfl) rfl dX11_drop_23 (fun p9 => ?_)
  obtain rfl := Option.some.inj hf
  exact aw_iret X p9 hr rfl dX11_drop_26
-- SpeedDesk.stop(I)I
def f_X11_stop (v1 : Int) (σ : Nat → Nat → Int) : Option (Int × (Nat → Nat → Int)) := (f_X8_put 755 4 v1 0 0 0 σ).bind fun q1 => (f_X11_doOrRefuse 755 q1).bind fun q4 => some (q4.1, q4.2)
section S_X11_stop
variable {p : Program} {l : Launch} {e : Env} {s : State} {m : MethodId} {args : Array Value} {below : List Frame} {meth : Method} {c : Code} {D : va_G} {cA : Nat → ClassId} {sa : Nat → Nat} {bs : Nat} {q : (Int × (Nat → Nat → Int))}

end S_X11_stop
set_option maxHeartbeats 4000000 in
set_option maxRecDepth 100000 in
theorem C_X11_stop (l : Launch) (D : va_G) (cA : Nat → ClassId) (sa : Nat → Nat) (bs : Nat) (v1 : Int) (c_v1 : Z_I v1) (σ : Nat → Nat → Int) (q : (Int × (Nat → Nat → Int))) (hf : f_X11_stop v1 σ = some q) : AM l D cA sa bs 787 SH yX11_stop cX11_stop 2 (some .int) 9 [.ref (bs + 0), z_i v1] σ (some (z_i q.1)) (Z_I q.1) q.2 := by
  refine am_of (by decide +kernel) (Nat.le_of_ble_eq_true rfl) (fun p e s m args below meth c X hr => ?_)
  refine aw_lv (lv' := [(0, .ref (bs + 0)), (1, z_i v1)]) rfl ?_
  unfold f_X11_stop at hf
  refine aw_aload_n X 0 dX11_stop_0 rfl rfl ?_
  refine aw_getR X s_0 fX11_89 rfl dX11_stop_1 ?_
  refine aw_iconst X dX11_stop_4 ?_
  refine aw_iload_n X 1 dX11_stop_5 rfl rfl ?_
  refine aw_iconst X dX11_stop_6 ?_
  refine aw_iconst X dX11_stop_7 ?_
  refine aw_lconst X (x := 0) dX11_stop_8 (by decide) ?_
  obtain ⟨q1, e2, hf⟩ := z_bd hf
  refine aw_callV X [z_i 4, z_i v1, z_i 0, z_i 0, z_v 0] [] [] cX11_256 (sX8_0 755 (by decide)) ciX8 (C_X8_put l D cA sa bs 755 (by decide) 4 (z_lit (x := 4) (by decide)) v1 c_v1 0 (z_lit (x := 0) (by decide)) 0 (z_lit (x := 0) (by decide)) 0 (z_litL (x := 0) (by decide)) σ q1 e2) rfl ⟨(Nat.le_of_ble_eq_true rfl), (Nat.le_of_ble_eq_true rfl)⟩ rfl (Nat.le_of_ble_eq_true rfl) rfl dX11_stop_9 (fun p3 => ?_)
  refine aw_aload_n X 0 dX11_stop_12 rfl rfl ?_
  refine aw_aload_n X 0 dX11_stop_13 rfl rfl ?_
  refine aw_getR X s_0 fX11_89 rfl dX11_stop_14 ?_
  obtain ⟨q4, e5, hf⟩ := z_bd hf
  refine aw_callV X [.ref (bs + 755)] [] [z_i q4.1] cX11_260 s_0 ciX11 (C_X11_doOrRefuse l D cA sa bs 755 (by decide) q1 q4 e5) rfl ⟨(Nat.le_of_ble_eq_true rfl), (Nat.le_of_ble_eq_true rfl)⟩ rfl (Nat.le_of_ble_eq_true rfl) rfl dX11_stop_17 (fun p6 => ?_)
  obtain rfl := Option.some.inj hf
  exact aw_iret X p6 hr rfl dX11_stop_20
-- SpeedDesk.start(I)I
def f_X11_start (v1 : Int) (σ : Nat → Nat → Int) : Option (Int × (Nat → Nat → Int)) := (f_X8_put 755 5 v1 0 0 0 σ).bind fun q1 => (f_X11_doOrRefuse 755 q1).bind fun q4 => some (q4.1, q4.2)
section S_X11_start
variable {p : Program} {l : Launch} {e : Env} {s : State} {m : MethodId} {args : Array Value} {below : List Frame} {meth : Method} {c : Code} {D : va_G} {cA : Nat → ClassId} {sa : Nat → Nat} {bs : Nat} {q : (Int × (Nat → Nat → Int))}

end S_X11_start
set_option maxHeartbeats 4000000 in
set_option maxRecDepth 100000 in
theorem C_X11_start (l : Launch) (D : va_G) (cA : Nat → ClassId) (sa : Nat → Nat) (bs : Nat) (v1 : Int) (c_v1 : Z_I v1) (σ : Nat → Nat → Int) (q : (Int × (Nat → Nat → Int))) (hf : f_X11_start v1 σ = some q) : AM l D cA sa bs 787 SH yX11_start cX11_start 2 (some .int) 9 [.ref (bs + 0), z_i v1] σ (some (z_i q.1)) (Z_I q.1) q.2 := by
  refine am_of (by decide +kernel) (Nat.le_of_ble_eq_true rfl) (fun p e s m args below meth c X hr => ?_)
  refine aw_lv (lv' := [(0, .ref (bs + 0)), (1, z_i v1)]) rfl ?_
  unfold f_X11_start at hf
  refine aw_aload_n X 0 dX11_start_0 rfl rfl ?_
  refine aw_getR X s_0 fX11_89 rfl dX11_start_1 ?_
  refine aw_iconst X dX11_start_4 ?_
  refine aw_iload_n X 1 dX11_start_5 rfl rfl ?_
  refine aw_iconst X dX11_start_6 ?_
  refine aw_iconst X dX11_start_7 ?_
  refine aw_lconst X (x := 0) dX11_start_8 (by decide) ?_
  obtain ⟨q1, e2, hf⟩ := z_bd hf
  refine aw_callV X [z_i 5, z_i v1, z_i 0, z_i 0, z_v 0] [] [] cX11_256 (sX8_0 755 (by decide)) ciX8 (C_X8_put l D cA sa bs 755 (by decide) 5 (z_lit (x := 5) (by decide)) v1 c_v1 0 (z_lit (x := 0) (by decide)) 0 (z_lit (x := 0) (by decide)) 0 (z_litL (x := 0) (by decide)) σ q1 e2) rfl ⟨(Nat.le_of_ble_eq_true rfl), (Nat.le_of_ble_eq_true rfl)⟩ rfl (Nat.le_of_ble_eq_true rfl) rfl dX11_start_9 (fun p3 => ?_)
  refine aw_aload_n X 0 dX11_start_12 rfl rfl ?_
  refine aw_aload_n X 0 dX11_start_13 rfl rfl ?_
  refine aw_getR X s_0 fX11_89 rfl dX11_start_14 ?_
  obtain ⟨q4, e5, hf⟩ := z_bd hf
  refine aw_callV X [.ref (bs + 755)] [] [z_i q4.1] cX11_260 s_0 ciX11 (C_X11_doOrRefuse l D cA sa bs 755 (by decide) q1 q4 e5) rfl ⟨(Nat.le_of_ble_eq_true rfl), (Nat.le_of_ble_eq_true rfl)⟩ rfl (Nat.le_of_ble_eq_true rfl) rfl dX11_start_17 (fun p6 => ?_)
  obtain rfl := Option.some.inj hf
  exact aw_iret X p6 hr rfl dX11_start_20
-- SpeedDesk.settle()I
def f_X11_settle  (σ : Nat → Nat → Int) : Option (Int × (Nat → Nat → Int)) := (f_X8_put 755 6 0 0 0 0 σ).bind fun q1 => (f_X11_doOrRefuse 755 q1).bind fun q4 => some (q4.1, q4.2)
section S_X11_settle
variable {p : Program} {l : Launch} {e : Env} {s : State} {m : MethodId} {args : Array Value} {below : List Frame} {meth : Method} {c : Code} {D : va_G} {cA : Nat → ClassId} {sa : Nat → Nat} {bs : Nat} {q : (Int × (Nat → Nat → Int))}

end S_X11_settle
set_option maxHeartbeats 4000000 in
set_option maxRecDepth 100000 in
theorem C_X11_settle (l : Launch) (D : va_G) (cA : Nat → ClassId) (sa : Nat → Nat) (bs : Nat)  (σ : Nat → Nat → Int) (q : (Int × (Nat → Nat → Int))) (hf : f_X11_settle σ = some q) : AM l D cA sa bs 787 SH yX11_settle cX11_settle 1 (some .int) 9 [.ref (bs + 0)] σ (some (z_i q.1)) (Z_I q.1) q.2 := by
  refine am_of (by decide +kernel) (Nat.le_of_ble_eq_true rfl) (fun p e s m args below meth c X hr => ?_)
  refine aw_lv (lv' := [(0, .ref (bs + 0))]) rfl ?_
  unfold f_X11_settle at hf
  refine aw_aload_n X 0 dX11_settle_0 rfl rfl ?_
  refine aw_getR X s_0 fX11_89 rfl dX11_settle_1 ?_
  refine aw_bipush X dX11_settle_4 (by decide) ?_
  refine aw_iconst X dX11_settle_6 ?_
  refine aw_iconst X dX11_settle_7 ?_
  refine aw_iconst X dX11_settle_8 ?_
  refine aw_lconst X (x := 0) dX11_settle_9 (by decide) ?_
  obtain ⟨q1, e2, hf⟩ := z_bd hf
  refine aw_callV X [z_i 6, z_i 0, z_i 0, z_i 0, z_v 0] [] [] cX11_256 (sX8_0 755 (by decide)) ciX8 (C_X8_put l D cA sa bs 755 (by decide) 6 (z_lit (x := 6) (by decide)) 0 (z_lit (x := 0) (by decide)) 0 (z_lit (x := 0) (by decide)) 0 (z_lit (x := 0) (by decide)) 0 (z_litL (x := 0) (by decide)) σ q1 e2) rfl ⟨(Nat.le_of_ble_eq_true rfl), (Nat.le_of_ble_eq_true rfl)⟩ rfl (Nat.le_of_ble_eq_true rfl) rfl dX11_settle_10 (fun p3 => ?_)
  refine aw_aload_n X 0 dX11_settle_13 rfl rfl ?_
  refine aw_aload_n X 0 dX11_settle_14 rfl rfl ?_
  refine aw_getR X s_0 fX11_89 rfl dX11_settle_15 ?_
  obtain ⟨q4, e5, hf⟩ := z_bd hf
  refine aw_callV X [.ref (bs + 755)] [] [z_i q4.1] cX11_260 s_0 ciX11 (C_X11_doOrRefuse l D cA sa bs 755 (by decide) q1 q4 e5) rfl ⟨(Nat.le_of_ble_eq_true rfl), (Nat.le_of_ble_eq_true rfl)⟩ rfl (Nat.le_of_ble_eq_true rfl) rfl dX11_settle_18 (fun p6 => ?_)
  obtain rfl := Option.some.inj hf
  exact aw_iret X p6 hr rfl dX11_settle_21
-- SpeedDesk.draw(I)I
def f_X11_draw (v1 : Int) (σ : Nat → Nat → Int) : Option (Int × (Nat → Nat → Int)) := if 1 ≤ v1 then (if ¬ v1 = 0 then some (z_w (z_l (Int.tmod (z_ushrL ((u2 σ 0 18 (z_l ((z_l ((σ 0 18) * 6364136223846793005)) + 1442695040888963407))) 0 18) 33) v1)), u2 σ 0 18 (z_l ((z_l ((σ 0 18) * 6364136223846793005)) + 1442695040888963407))) else none) else (some (0, u2 σ 0 18 (z_l ((z_l ((σ 0 18) * 6364136223846793005)) + 1442695040888963407))))
section S_X11_draw
variable {p : Program} {l : Launch} {e : Env} {s : State} {m : MethodId} {args : Array Value} {below : List Frame} {meth : Method} {c : Code} {D : va_G} {cA : Nat → ClassId} {sa : Nat → Nat} {bs : Nat} {q : (Int × (Nat → Nat → Int))}

end S_X11_draw
set_option maxHeartbeats 4000000 in
set_option maxRecDepth 100000 in
theorem C_X11_draw (l : Launch) (D : va_G) (cA : Nat → ClassId) (sa : Nat → Nat) (bs : Nat) (v1 : Int) (c_v1 : Z_I v1) (σ : Nat → Nat → Int) (q : (Int × (Nat → Nat → Int))) (hf : f_X11_draw v1 σ = some q) : AM l D cA sa bs 787 SH yX11_draw cX11_draw 2 (some .int) 0 [.ref (bs + 0), z_i v1] σ (some (z_i q.1)) (Z_I q.1) q.2 := by
  refine am_of (by decide +kernel) (Nat.le_of_ble_eq_true rfl) (fun p e s m args below meth c X hr => ?_)
  refine aw_lv (lv' := [(0, .ref (bs + 0)), (1, z_i v1)]) rfl ?_
  unfold f_X11_draw at hf
  refine aw_aload_n X 0 dX11_draw_0 rfl rfl ?_
  refine aw_aload_n X 0 dX11_draw_1 rfl rfl ?_
  refine aw_getL X s_0 fX11_267 rfl dX11_draw_2 (fun c1 => ?_)
  refine aw_ldc2 X (x := 6364136223846793005) dX11_draw_5 kX11_471 (by decide) ?_
  refine aw_lmul X dX11_draw_8 ?_
  refine aw_ldc2 X (x := 1442695040888963407) dX11_draw_9 kX11_473 (by decide) ?_
  refine aw_ladd X dX11_draw_12 ?_
  refine aw_putL X s_0 pX11_267 rfl (z_l_in _) dX11_draw_13 ?_
  refine aw_iload_n X 1 dX11_draw_16 rfl rfl ?_
  refine aw_iconst X dX11_draw_17 ?_
  refine aw_icmp_ge X (tgt := 25) c_v1 (z_lit (x := 1) (by decide)) dX11_draw_18 (by decide) (fun h2 => ?_) (fun h2 => ?_)
  · rw [if_pos h2] at hf
    refine aw_aload_n X 0 dX11_draw_25 rfl rfl ?_
    refine aw_getL X s_0 fX11_267 rfl dX11_draw_26 (fun c3 => ?_)
    refine aw_bipush X dX11_draw_29 (by decide) ?_
    refine aw_lushr X dX11_draw_31 ?_
    refine aw_iload_n X 1 dX11_draw_32 rfl rfl ?_
    refine aw_i2l X c_v1 dX11_draw_33 ?_
    obtain ⟨g4, hf⟩ := z_gd hf
    refine aw_lrem X (z_ushrL_in _ _) (z_IL c_v1) g4 dX11_draw_34 ?_
    refine aw_l2i X dX11_draw_35 ?_
    obtain rfl := Option.some.inj hf
    exact aw_iret X (z_w_in _) hr rfl dX11_draw_36
  · rw [if_neg h2] at hf
    refine aw_iconst X dX11_draw_21 ?_
    refine aw_goto X (tgt := 36) dX11_draw_22 (by decide) ?_
    obtain rfl := Option.some.inj hf
    exact aw_iret X (z_lit (x := 0) (by decide)) hr rfl dX11_draw_36
-- SpeedDesk.drawTaskAct(I)V
def f_X11_drawTaskAct_38 (v2 : Int) (t0 : Int) (b1 : Nat) (σ : Nat → Nat → Int) : Option (Nat → Nat → Int) := (f_X8_put b1 t0 v2 0 0 0 σ).bind fun q19 => some q19
def f_X11_drawTaskAct (v1 : Int) (σ : Nat → Nat → Int) : Option (Nat → Nat → Int) := if (σ 0 2).toNat ∈ ax_iX1 then (f_X11_draw (σ ((σ 0 2).toNat) 1) σ).bind fun q3 => if v1 = 6 then ((f_X7_isStopped 173 q3.1 q3.2).bind fun q15 => f_X11_drawTaskAct_38 q3.1 (if q15 = 0 then 4 else 5) 755 q3.2) else (if (q3.2 0 2).toNat ∈ ax_iX1 then (f_X11_draw (q3.2 ((q3.2 0 2).toNat) 2) q3.2).bind fun q9 => (f_X8_put 755 1 q3.1 q9.1 0 0 q9.2).bind fun q12 => some q12 else none) else none
section S_X11_drawTaskAct
variable {p : Program} {l : Launch} {e : Env} {s : State} {m : MethodId} {args : Array Value} {below : List Frame} {meth : Method} {c : Code} {D : va_G} {cA : Nat → ClassId} {sa : Nat → Nat} {bs : Nat} {q : (Nat → Nat → Int)}
set_option maxHeartbeats 4000000 in
set_option maxRecDepth 100000 in
theorem A_X11_drawTaskAct_38 (X : AX p s m args meth c D cA sa bs cX11_drawTaskAct 3 RX11) (hr : meth.sig.returnType = none) (v2 : Int) (c_v2 : Z_I v2) (t0 : Int) (c_t0 : Z_I t0) (b1 : Nat) (h_b1 : b1 ∈ ax_iX8) (σ : Nat → Nat → Int) (hf : f_X11_drawTaskAct_38 v2 t0 b1 σ = some q) : AW p l e (ax_rm 2 0 0) s m args below meth c D cA bs 787 SH (ax_MQ below args s D cA bs 787 SH none True q) 3 38 [(2, z_i v2)] [z_i t0, .ref (bs + b1)] σ := by
  unfold f_X11_drawTaskAct_38 at hf
  refine aw_iload_n X 0 dX11_drawTaskAct_38 rfl rfl ?_
  refine aw_iconst X dX11_drawTaskAct_39 ?_
  refine aw_iconst X dX11_drawTaskAct_40 ?_
  refine aw_lconst X (x := 0) dX11_drawTaskAct_41 (by decide) ?_
  obtain ⟨q19, e20, hf⟩ := z_bd hf
  refine aw_callV X [z_i t0, z_i v2, z_i 0, z_i 0, z_v 0] [] [] cX11_256 (sX8_0 b1 h_b1) ciX8 (C_X8_put l D cA sa bs b1 h_b1 t0 c_t0 v2 c_v2 0 (z_lit (x := 0) (by decide)) 0 (z_lit (x := 0) (by decide)) 0 (z_litL (x := 0) (by decide)) σ q19 e20) rfl ⟨(Nat.le_of_ble_eq_true rfl), (Nat.le_of_ble_eq_true rfl)⟩ rfl (Nat.le_of_ble_eq_true rfl) rfl dX11_drawTaskAct_42 (fun p21 => ?_)
  refine aw_goto X (tgt := 70) dX11_drawTaskAct_45 (by decide) ?_
  obtain rfl := Option.some.inj hf
  exact aw_vret X trivial hr rfl dX11_drawTaskAct_70
end S_X11_drawTaskAct
set_option maxHeartbeats 4000000 in
set_option maxRecDepth 100000 in
theorem C_X11_drawTaskAct (l : Launch) (D : va_G) (cA : Nat → ClassId) (sa : Nat → Nat) (bs : Nat) (v1 : Int) (c_v1 : Z_I v1) (σ : Nat → Nat → Int) (q : (Nat → Nat → Int)) (hf : f_X11_drawTaskAct v1 σ = some q) : AM l D cA sa bs 787 SH yX11_drawTaskAct cX11_drawTaskAct 3 none 2 [.ref (bs + 0), z_i v1] σ none True q := by
  refine am_of (by decide +kernel) (Nat.le_of_ble_eq_true rfl) (fun p e s m args below meth c X hr => ?_)
  refine aw_lv (lv' := [(0, .ref (bs + 0)), (1, z_i v1)]) rfl ?_
  unfold f_X11_drawTaskAct at hf
  refine aw_aload_n X 0 dX11_drawTaskAct_0 rfl rfl ?_
  refine aw_aload_n X 0 dX11_drawTaskAct_1 rfl rfl ?_
  obtain ⟨g1, hf⟩ := z_gd hf
  refine aw_getV X s_0 fX11_24 rfl dX11_drawTaskAct_2 ?_
  refine aw_getI X (sX1_0 ((σ 0 2).toNat) g1) fX11_414 rfl dX11_drawTaskAct_5 (fun c2 => ?_)
  obtain ⟨q3, e4, hf⟩ := z_bd hf
  refine aw_callV X [z_i (σ ((σ 0 2).toNat) 1)] [] [z_i q3.1] cX11_465 s_0 ciX11 (C_X11_draw l D cA sa bs (σ ((σ 0 2).toNat) 1) c2 σ q3 e4) rfl ⟨(Nat.le_of_ble_eq_true rfl), (Nat.le_of_ble_eq_true rfl)⟩ rfl (Nat.le_of_ble_eq_true rfl) rfl dX11_drawTaskAct_8 (fun p5 => ?_)
  refine aw_istore_n X [(2, z_i q3.1), (0, .ref (bs + 0)), (1, z_i v1)] dX11_drawTaskAct_11 rfl (by decide) rfl ?_
  refine aw_iload_n X 2 dX11_drawTaskAct_12 rfl rfl ?_
  refine aw_bipush X dX11_drawTaskAct_13 (by decide) ?_
  refine aw_icmp_ne X (tgt := 48) c_v1 (z_lit (x := 6) (by decide)) dX11_drawTaskAct_15 (by decide) (fun h6 => ?_) (fun h6 => ?_)
  · rw [if_neg h6] at hf
    refine aw_aload_n X 1 dX11_drawTaskAct_48 rfl rfl ?_
    refine aw_getR X s_0 fX11_89 rfl dX11_drawTaskAct_49 ?_
    refine aw_iconst X dX11_drawTaskAct_52 ?_
    refine aw_iload_n X 0 dX11_drawTaskAct_53 rfl rfl ?_
    refine aw_aload_n X 1 dX11_drawTaskAct_54 rfl rfl ?_
    refine aw_aload_n X 1 dX11_drawTaskAct_55 rfl rfl ?_
    obtain ⟨g7, hf⟩ := z_gd hf
    refine aw_getV X s_0 fX11_24 rfl dX11_drawTaskAct_56 ?_
    refine aw_getI X (sX1_0 ((q3.2 0 2).toNat) g7) fX11_147 rfl dX11_drawTaskAct_59 (fun c8 => ?_)
    obtain ⟨q9, e10, hf⟩ := z_bd hf
    refine aw_callV X [z_i (q3.2 ((q3.2 0 2).toNat) 2)] [z_i q3.1, z_i 1, .ref (bs + 755)] [z_i q9.1, z_i q3.1, z_i 1, .ref (bs + 755)] cX11_465 s_0 ciX11 (C_X11_draw l D cA sa bs (q3.2 ((q3.2 0 2).toNat) 2) c8 q3.2 q9 e10) rfl ⟨(Nat.le_of_ble_eq_true rfl), (Nat.le_of_ble_eq_true rfl)⟩ rfl (Nat.le_of_ble_eq_true rfl) rfl dX11_drawTaskAct_62 (fun p11 => ?_)
    refine aw_iconst X dX11_drawTaskAct_65 ?_
    refine aw_lconst X (x := 0) dX11_drawTaskAct_66 (by decide) ?_
    obtain ⟨q12, e13, hf⟩ := z_bd hf
    refine aw_callV X [z_i 1, z_i q3.1, z_i q9.1, z_i 0, z_v 0] [] [] cX11_256 (sX8_0 755 (by decide)) ciX8 (C_X8_put l D cA sa bs 755 (by decide) 1 (z_lit (x := 1) (by decide)) q3.1 p5 q9.1 p11 0 (z_lit (x := 0) (by decide)) 0 (z_litL (x := 0) (by decide)) q9.2 q12 e13) rfl ⟨(Nat.le_of_ble_eq_true rfl), (Nat.le_of_ble_eq_true rfl)⟩ rfl (Nat.le_of_ble_eq_true rfl) rfl dX11_drawTaskAct_67 (fun p14 => ?_)
    obtain rfl := Option.some.inj hf
    exact aw_vret X trivial hr rfl dX11_drawTaskAct_70
  · rw [if_pos h6] at hf
    refine aw_aload_n X 1 dX11_drawTaskAct_18 rfl rfl ?_
    refine aw_getR X s_0 fX11_89 rfl dX11_drawTaskAct_19 ?_
    refine aw_aload_n X 1 dX11_drawTaskAct_22 rfl rfl ?_
    refine aw_getR X s_0 fX11_42 rfl dX11_drawTaskAct_23 ?_
    refine aw_iload_n X 0 dX11_drawTaskAct_26 rfl rfl ?_
    obtain ⟨q15, e16, hf⟩ := z_bd hf
    refine aw_callV X [z_i q3.1] [.ref (bs + 755)] [z_i q15, .ref (bs + 755)] cX11_451 (sX7_0 173 (by decide)) ciX7 (C_X7_isStopped l D cA sa bs 173 (by decide) q3.1 p5 q3.2 q15 e16) rfl ⟨(Nat.le_of_ble_eq_true rfl), (Nat.le_of_ble_eq_true rfl)⟩ rfl (Nat.le_of_ble_eq_true rfl) rfl dX11_drawTaskAct_27 (fun p17 => ?_)
    refine aw_if_eq X (tgt := 37) (z_zI p17) dX11_drawTaskAct_30 (by decide) (fun h18 => ?_) (fun h18 => ?_)
    · simp only [if_pos h18] at hf
      refine aw_iconst X dX11_drawTaskAct_37 ?_
      refine aw_sub [0] rfl ?_
      exact A_X11_drawTaskAct_38 X hr q3.1 p5 4 (z_lit (x := 4) (by decide)) 755 (by decide) q3.2 hf
    · simp only [if_neg h18] at hf
      refine aw_iconst X dX11_drawTaskAct_33 ?_
      refine aw_goto X (tgt := 38) dX11_drawTaskAct_34 (by decide) ?_
      refine aw_sub [0] rfl ?_
      exact A_X11_drawTaskAct_38 X hr q3.1 p5 5 (z_lit (x := 5) (by decide)) 755 (by decide) q3.2 hf
-- SpeedDesk.doOneYear()V
def f_X11_doOneYear_71  (σ : Nat → Nat → Int) : Option (Nat → Nat → Int) := if (σ 0 2).toNat ∈ ax_iX1 then (f_X0_refusalOf ((σ 0 2).toNat) 173 755 σ).bind fun q22 => if q22.1 = (-1) then ((f_X11_doAct 755 q22.2).bind fun q26 => some q26.2) else (some q22.2) else none
def f_X11_doOneYear  (σ : Nat → Nat → Int) : Option (Nat → Nat → Int) := (f_X11_draw 8 σ).bind fun q1 => if 3 < q1.1 then (if q1.1 = 7 then ((f_X8_put 755 6 0 0 0 0 q1.2).bind fun q12 => f_X11_doOneYear_71 q12) else (if (q1.2 0 2).toNat ∈ ax_iX1 then if (q1.2 ((q1.2 0 2).toNat) 1) = 0 then (some q1.2) else ((f_X11_drawTaskAct q1.1 q1.2).bind fun q9 => f_X11_doOneYear_71 q9) else none)) else ((f_X11_draw 5 q1.2).bind fun q15 => (f_X8_put 755 0 (z_w (q15.1 + 1)) 0 0 0 q15.2).bind fun q18 => f_X11_doOneYear_71 q18)
section S_X11_doOneYear
variable {p : Program} {l : Launch} {e : Env} {s : State} {m : MethodId} {args : Array Value} {below : List Frame} {meth : Method} {c : Code} {D : va_G} {cA : Nat → ClassId} {sa : Nat → Nat} {bs : Nat} {q : (Nat → Nat → Int)}
set_option maxHeartbeats 4000000 in
set_option maxRecDepth 100000 in
theorem A_X11_doOneYear_71 (X : AX p s m args meth c D cA sa bs cX11_doOneYear 2 RX11) (hr : meth.sig.returnType = none)  (σ : Nat → Nat → Int) (hf : f_X11_doOneYear_71 σ = some q) : AW p l e (ax_rm 8 0 0) s m args below meth c D cA bs 787 SH (ax_MQ below args s D cA bs 787 SH none True q) 2 71 [(0, .ref (bs + 0))] [] σ := by
  unfold f_X11_doOneYear_71 at hf
  refine aw_aload_n X 0 dX11_doOneYear_71 rfl rfl ?_
  refine aw_getR X s_0 fX11_72 rfl dX11_doOneYear_72 ?_
  refine aw_aload_n X 0 dX11_doOneYear_75 rfl rfl ?_
  obtain ⟨g21, hf⟩ := z_gd hf
  refine aw_getV X s_0 fX11_24 rfl dX11_doOneYear_76 ?_
  refine aw_aload_n X 0 dX11_doOneYear_79 rfl rfl ?_
  refine aw_getR X s_0 fX11_42 rfl dX11_doOneYear_80 ?_
  refine aw_aload_n X 0 dX11_doOneYear_83 rfl rfl ?_
  refine aw_getR X s_0 fX11_89 rfl dX11_doOneYear_84 ?_
  obtain ⟨q22, e23, hf⟩ := z_bd hf
  refine aw_callV X [.ref (bs + ((σ 0 2).toNat)), .ref (bs + 173), .ref (bs + 755)] [] [z_i q22.1] cX11_382 s_742 ciX0 (C_X0_refusalOf l D cA sa bs ((σ 0 2).toNat) g21 173 (by decide) 755 (by decide) σ q22 e23) rfl ⟨(Nat.le_of_ble_eq_true rfl), (Nat.le_of_ble_eq_true rfl)⟩ rfl (Nat.le_of_ble_eq_true rfl) rfl dX11_doOneYear_87 (fun p24 => ?_)
  refine aw_iconst X dX11_doOneYear_90 ?_
  refine aw_icmp_ne X (tgt := 103) p24 (z_lit (x := (-1)) (by decide)) dX11_doOneYear_91 (by decide) (fun h25 => ?_) (fun h25 => ?_)
  · rw [if_neg h25] at hf
    obtain rfl := Option.some.inj hf
    exact aw_vret X trivial hr rfl dX11_doOneYear_103
  · rw [if_pos h25] at hf
    refine aw_aload_n X 0 dX11_doOneYear_94 rfl rfl ?_
    refine aw_aload_n X 0 dX11_doOneYear_95 rfl rfl ?_
    refine aw_getR X s_0 fX11_89 rfl dX11_doOneYear_96 ?_
    obtain ⟨q26, e27, hf⟩ := z_bd hf
    refine aw_callV X [.ref (bs + 755)] [] [z_i q26.1] cX11_386 s_0 ciX11 (C_X11_doAct l D cA sa bs 755 (by decide) q22.2 q26 e27) rfl ⟨(Nat.le_of_ble_eq_true rfl), (Nat.le_of_ble_eq_true rfl)⟩ rfl (Nat.le_of_ble_eq_true rfl) rfl dX11_doOneYear_99 (fun p28 => ?_)
    refine aw_pop X dX11_doOneYear_102 rfl ?_
    obtain rfl := Option.some.inj hf
    exact aw_vret X trivial hr rfl dX11_doOneYear_103
end S_X11_doOneYear
set_option maxHeartbeats 4000000 in
set_option maxRecDepth 100000 in
theorem C_X11_doOneYear (l : Launch) (D : va_G) (cA : Nat → ClassId) (sa : Nat → Nat) (bs : Nat)  (σ : Nat → Nat → Int) (q : (Nat → Nat → Int)) (hf : f_X11_doOneYear σ = some q) : AM l D cA sa bs 787 SH yX11_doOneYear cX11_doOneYear 2 none 8 [.ref (bs + 0)] σ none True q := by
  refine am_of (by decide +kernel) (Nat.le_of_ble_eq_true rfl) (fun p e s m args below meth c X hr => ?_)
  refine aw_lv (lv' := [(0, .ref (bs + 0))]) rfl ?_
  unfold f_X11_doOneYear at hf
  refine aw_aload_n X 0 dX11_doOneYear_0 rfl rfl ?_
  refine aw_bipush X dX11_doOneYear_1 (by decide) ?_
  obtain ⟨q1, e2, hf⟩ := z_bd hf
  refine aw_callV X [z_i 8] [] [z_i q1.1] cX11_465 s_0 ciX11 (C_X11_draw l D cA sa bs 8 (z_lit (x := 8) (by decide)) σ q1 e2) rfl ⟨(Nat.le_of_ble_eq_true rfl), (Nat.le_of_ble_eq_true rfl)⟩ rfl (Nat.le_of_ble_eq_true rfl) rfl dX11_doOneYear_3 (fun p3 => ?_)
  refine aw_istore_n X [(1, z_i q1.1), (0, .ref (bs + 0))] dX11_doOneYear_6 rfl (by decide) rfl ?_
  refine aw_iload_n X 0 dX11_doOneYear_7 rfl rfl ?_
  refine aw_iconst X dX11_doOneYear_8 ?_
  refine aw_icmp_gt X (tgt := 33) p3 (z_lit (x := 3) (by decide)) dX11_doOneYear_9 (by decide) (fun h4 => ?_) (fun h4 => ?_)
  · rw [if_pos h4] at hf
    refine aw_iload_n X 0 dX11_doOneYear_33 rfl rfl ?_
    refine aw_bipush X dX11_doOneYear_34 (by decide) ?_
    refine aw_icmp_ne X (tgt := 55) p3 (z_lit (x := 7) (by decide)) dX11_doOneYear_36 (by decide) (fun h5 => ?_) (fun h5 => ?_)
    · rw [if_neg h5] at hf
      refine aw_aload_n X 1 dX11_doOneYear_55 rfl rfl ?_
      obtain ⟨g6, hf⟩ := z_gd hf
      refine aw_getV X s_0 fX11_24 rfl dX11_doOneYear_56 ?_
      refine aw_getI X (sX1_0 ((q1.2 0 2).toNat) g6) fX11_414 rfl dX11_doOneYear_59 (fun c7 => ?_)
      refine aw_if_ne X (tgt := 66) c7 dX11_doOneYear_62 (by decide) (fun h8 => ?_) (fun h8 => ?_)
      · rw [if_neg h8] at hf
        refine aw_aload_n X 1 dX11_doOneYear_66 rfl rfl ?_
        refine aw_iload_n X 0 dX11_doOneYear_67 rfl rfl ?_
        obtain ⟨q9, e10, hf⟩ := z_bd hf
        refine aw_callV X [z_i q1.1] [] [] cX11_468 s_0 ciX11 (C_X11_drawTaskAct l D cA sa bs q1.1 p3 q1.2 q9 e10) rfl ⟨(Nat.le_of_ble_eq_true rfl), (Nat.le_of_ble_eq_true rfl)⟩ rfl (Nat.le_of_ble_eq_true rfl) rfl dX11_doOneYear_68 (fun p11 => ?_)
        refine aw_sub [1] rfl ?_
        exact A_X11_doOneYear_71 X hr q9 hf
      · rw [if_pos h8] at hf
        obtain rfl := Option.some.inj hf
        exact aw_vret X trivial hr rfl dX11_doOneYear_65
    · rw [if_pos h5] at hf
      refine aw_aload_n X 1 dX11_doOneYear_39 rfl rfl ?_
      refine aw_getR X s_0 fX11_89 rfl dX11_doOneYear_40 ?_
      refine aw_bipush X dX11_doOneYear_43 (by decide) ?_
      refine aw_iconst X dX11_doOneYear_45 ?_
      refine aw_iconst X dX11_doOneYear_46 ?_
      refine aw_iconst X dX11_doOneYear_47 ?_
      refine aw_lconst X (x := 0) dX11_doOneYear_48 (by decide) ?_
      obtain ⟨q12, e13, hf⟩ := z_bd hf
      refine aw_callV X [z_i 6, z_i 0, z_i 0, z_i 0, z_v 0] [] [] cX11_256 (sX8_0 755 (by decide)) ciX8 (C_X8_put l D cA sa bs 755 (by decide) 6 (z_lit (x := 6) (by decide)) 0 (z_lit (x := 0) (by decide)) 0 (z_lit (x := 0) (by decide)) 0 (z_lit (x := 0) (by decide)) 0 (z_litL (x := 0) (by decide)) q1.2 q12 e13) rfl ⟨(Nat.le_of_ble_eq_true rfl), (Nat.le_of_ble_eq_true rfl)⟩ rfl (Nat.le_of_ble_eq_true rfl) rfl dX11_doOneYear_49 (fun p14 => ?_)
      refine aw_goto X (tgt := 71) dX11_doOneYear_52 (by decide) ?_
      refine aw_sub [1] rfl ?_
      exact A_X11_doOneYear_71 X hr q12 hf
  · rw [if_neg h4] at hf
    refine aw_aload_n X 1 dX11_doOneYear_12 rfl rfl ?_
    refine aw_getR X s_0 fX11_89 rfl dX11_doOneYear_13 ?_
    refine aw_iconst X dX11_doOneYear_16 ?_
    refine aw_aload_n X 1 dX11_doOneYear_17 rfl rfl ?_
    refine aw_iconst X dX11_doOneYear_18 ?_
    obtain ⟨q15, e16, hf⟩ := z_bd hf
    refine aw_callV X [z_i 5] [z_i 0, .ref (bs + 755)] [z_i q15.1, z_i 0, .ref (bs + 755)] cX11_465 s_0 ciX11 (C_X11_draw l D cA sa bs 5 (z_lit (x := 5) (by decide)) q1.2 q15 e16) rfl ⟨(Nat.le_of_ble_eq_true rfl), (Nat.le_of_ble_eq_true rfl)⟩ rfl (Nat.le_of_ble_eq_true rfl) rfl dX11_doOneYear_19 (fun p17 => ?_)
    refine aw_iconst X dX11_doOneYear_22 ?_
    refine aw_iadd X dX11_doOneYear_23 ?_
    refine aw_iconst X dX11_doOneYear_24 ?_
    refine aw_iconst X dX11_doOneYear_25 ?_
    refine aw_lconst X (x := 0) dX11_doOneYear_26 (by decide) ?_
    obtain ⟨q18, e19, hf⟩ := z_bd hf
    refine aw_callV X [z_i 0, z_i (z_w (q15.1 + 1)), z_i 0, z_i 0, z_v 0] [] [] cX11_256 (sX8_0 755 (by decide)) ciX8 (C_X8_put l D cA sa bs 755 (by decide) 0 (z_lit (x := 0) (by decide)) (z_w (q15.1 + 1)) (z_w_in _) 0 (z_lit (x := 0) (by decide)) 0 (z_lit (x := 0) (by decide)) 0 (z_litL (x := 0) (by decide)) q15.2 q18 e19) rfl ⟨(Nat.le_of_ble_eq_true rfl), (Nat.le_of_ble_eq_true rfl)⟩ rfl (Nat.le_of_ble_eq_true rfl) rfl dX11_doOneYear_27 (fun p20 => ?_)
    refine aw_goto X (tgt := 71) dX11_doOneYear_30 (by decide) ?_
    refine aw_sub [1] rfl ?_
    exact A_X11_doOneYear_71 X hr q18 hf
-- SpeedDesk.years(IJ)I
def f_X11_years_31 : Nat → Int → Int → (Nat → Nat → Int) → Option (Int × (Nat → Nat → Int))
  | 0, _, _, _ => none
  | k + 1, v1, v4, σ => if v1 ≤ v4 then (some (σ 173 0, σ)) else ((f_X11_doOneYear σ).bind fun q10 => (f_X11_years_31 k) v1 (z_w (v4 + 1)) q10)
def f_X11_years (v1 : Int) (v2 : Int) (σ : Nat → Nat → Int) : Option (Int × (Nat → Nat → Int)) := if (σ 0 2).toNat ∈ ax_iX1 then (f_X1_isTold ((σ 0 2).toNat) σ).bind fun q2 => if q2 = 0 then (some ((-1), σ)) else (if v1 < 1 then (some ((-1), σ)) else (if v1 ≤ 40 then (f_X11_years_31 100000 v1 0 (u2 σ 0 18 v2)) else (some ((-1), σ)))) else none
section S_X11_years
variable {p : Program} {l : Launch} {e : Env} {s : State} {m : MethodId} {args : Array Value} {below : List Frame} {meth : Method} {c : Code} {D : va_G} {cA : Nat → ClassId} {sa : Nat → Nat} {bs : Nat} {q : (Int × (Nat → Nat → Int))}
set_option maxHeartbeats 4000000 in
set_option maxRecDepth 100000 in
theorem A_X11_years_31 (X : AX p s m args meth c D cA sa bs cX11_years 5 RX11) (hr : meth.sig.returnType = (some .int)) : ∀ (k : Nat) (v1 : Int) (c_v1 : Z_I v1) (v4 : Int) (c_v4 : Z_I v4) (σ : Nat → Nat → Int), f_X11_years_31 k v1 v4 σ = some q → AW p l e (ax_rm 9 0 0) s m args below meth c D cA bs 787 SH (ax_MQ below args s D cA bs 787 SH (some (z_i q.1)) (Z_I q.1) q.2) 5 31 [(0, .ref (bs + 0)), (1, z_i v1), (4, z_i v4)] [] σ := by
  intro k
  induction k with
  | zero =>
    intro v1 c_v1 v4 c_v4 σ hf
    unfold f_X11_years_31 at hf
    cases hf
  | succ k ih =>
    intro v1 c_v1 v4 c_v4 σ hf
    unfold f_X11_years_31 at hf
    refine aw_iload X 2 dX11_years_31 rfl ?_
    refine aw_iload_n X 1 dX11_years_33 rfl rfl ?_
    refine aw_icmp_ge X (tgt := 47) c_v4 c_v1 dX11_years_34 (by decide) (fun h8 => ?_) (fun h8 => ?_)
    · rw [if_pos h8] at hf
      refine aw_aload_n X 0 dX11_years_47 rfl rfl ?_
      refine aw_getR X s_0 fX11_42 rfl dX11_years_48 ?_
      refine aw_getI X (sX7_0 173 (by decide)) fX11_274 rfl dX11_years_51 (fun c9 => ?_)
      obtain rfl := Option.some.inj hf
      exact aw_iret X c9 hr rfl dX11_years_54
    · rw [if_neg h8] at hf
      refine aw_aload_n X 0 dX11_years_37 rfl rfl ?_
      obtain ⟨q10, e11, hf⟩ := z_bd hf
      refine aw_callV X [] [] [] cX11_271 s_0 ciX11 (C_X11_doOneYear l D cA sa bs σ q10 e11) rfl ⟨(Nat.le_of_ble_eq_true rfl), (Nat.le_of_ble_eq_true rfl)⟩ rfl (Nat.le_of_ble_eq_true rfl) rfl dX11_years_38 (fun p12 => ?_)
      refine aw_iinc X 2 [(4, z_i (z_w (v4 + 1))), (0, .ref (bs + 0)), (1, z_i v1)] dX11_years_41 rfl (by decide) rfl ?_
      refine aw_goto X (tgt := 31) dX11_years_44 (by decide) ?_
      refine aw_sub [1, 2, 0] rfl ?_
      exact ih v1 c_v1 (z_w (v4 + 1)) (z_w_in _) q10 hf
end S_X11_years
set_option maxHeartbeats 4000000 in
set_option maxRecDepth 100000 in
theorem C_X11_years (l : Launch) (D : va_G) (cA : Nat → ClassId) (sa : Nat → Nat) (bs : Nat) (v1 : Int) (c_v1 : Z_I v1) (v2 : Int) (c_v2 : Z_L v2) (σ : Nat → Nat → Int) (q : (Int × (Nat → Nat → Int))) (hf : f_X11_years v1 v2 σ = some q) : AM l D cA sa bs 787 SH yX11_years cX11_years 5 (some .int) 9 [.ref (bs + 0), z_i v1, z_v v2] σ (some (z_i q.1)) (Z_I q.1) q.2 := by
  refine am_of (by decide +kernel) (Nat.le_of_ble_eq_true rfl) (fun p e s m args below meth c X hr => ?_)
  refine aw_lv (lv' := [(0, .ref (bs + 0)), (1, z_i v1), (2, z_v v2)]) rfl ?_
  unfold f_X11_years at hf
  refine aw_aload_n X 0 dX11_years_0 rfl rfl ?_
  obtain ⟨g1, hf⟩ := z_gd hf
  refine aw_getV X s_0 fX11_24 rfl dX11_years_1 ?_
  obtain ⟨q2, e3, hf⟩ := z_bd hf
  refine aw_callV X [] [] [z_i q2] cX11_137 (sX1_0 ((σ 0 2).toNat) g1) ciX1 (C_X1_isTold l D cA sa bs ((σ 0 2).toNat) g1 σ q2 e3) rfl ⟨(Nat.le_of_ble_eq_true rfl), (Nat.le_of_ble_eq_true rfl)⟩ rfl (Nat.le_of_ble_eq_true rfl) rfl dX11_years_4 (fun p4 => ?_)
  refine aw_if_eq X (tgt := 21) (z_zI p4) dX11_years_7 (by decide) (fun h5 => ?_) (fun h5 => ?_)
  · rw [if_pos h5] at hf
    refine aw_iconst X dX11_years_21 ?_
    obtain rfl := Option.some.inj hf
    exact aw_iret X (z_lit (x := (-1)) (by decide)) hr rfl dX11_years_22
  · rw [if_neg h5] at hf
    refine aw_iload_n X 1 dX11_years_10 rfl rfl ?_
    refine aw_iconst X dX11_years_11 ?_
    refine aw_icmp_lt X (tgt := 21) c_v1 (z_lit (x := 1) (by decide)) dX11_years_12 (by decide) (fun h6 => ?_) (fun h6 => ?_)
    · rw [if_pos h6] at hf
      refine aw_iconst X dX11_years_21 ?_
      obtain rfl := Option.some.inj hf
      exact aw_iret X (z_lit (x := (-1)) (by decide)) hr rfl dX11_years_22
    · rw [if_neg h6] at hf
      refine aw_iload_n X 1 dX11_years_15 rfl rfl ?_
      refine aw_bipush X dX11_years_16 (by decide) ?_
      refine aw_icmp_le X (tgt := 23) c_v1 (z_lit (x := 40) (by decide)) dX11_years_18 (by decide) (fun h7 => ?_) (fun h7 => ?_)
      · rw [if_pos h7] at hf
        refine aw_aload_n X 0 dX11_years_23 rfl rfl ?_
        refine aw_lload_n X 2 dX11_years_24 rfl rfl ?_
        refine aw_putL X s_0 pX11_267 rfl c_v2 dX11_years_25 ?_
        refine aw_iconst X dX11_years_28 ?_
        refine aw_istore X [(4, z_i 0), (0, .ref (bs + 0)), (1, z_i v1), (2, z_v v2)] dX11_years_29 (by decide) rfl ?_
        refine aw_sub [1, 2, 0] rfl ?_
        exact A_X11_years_31 X hr 100000 v1 c_v1 0 (z_lit (x := 0) (by decide)) (u2 σ 0 18 v2) hf
      · rw [if_neg h7] at hf
        refine aw_iconst X dX11_years_21 ?_
        obtain rfl := Option.some.inj hf
        exact aw_iret X (z_lit (x := (-1)) (by decide)) hr rfl dX11_years_22
-- SpeedDesk.status(I)I
def f_X11_status (v1 : Int) (σ : Nat → Nat → Int) : Option Int := if v1 < 0 then (some (-1)) else (if 4 ≤ v1 then (some (-1)) else (if 0 ≤ v1 ∧ v1 < 4 then some (σ 757 v1.toNat) else none))
section S_X11_status
variable {p : Program} {l : Launch} {e : Env} {s : State} {m : MethodId} {args : Array Value} {below : List Frame} {meth : Method} {c : Code} {D : va_G} {cA : Nat → ClassId} {sa : Nat → Nat} {bs : Nat} {q : Int}

end S_X11_status
set_option maxHeartbeats 4000000 in
set_option maxRecDepth 100000 in
theorem C_X11_status (l : Launch) (D : va_G) (cA : Nat → ClassId) (sa : Nat → Nat) (bs : Nat) (v1 : Int) (c_v1 : Z_I v1) (σ : Nat → Nat → Int) (q : Int) (hf : f_X11_status v1 σ = some q) : AM l D cA sa bs 787 SH yX11_status cX11_status 2 (some .int) 0 [.ref (bs + 0), z_i v1] σ (some (z_i q)) (Z_I q) σ := by
  refine am_of (by decide +kernel) (Nat.le_of_ble_eq_true rfl) (fun p e s m args below meth c X hr => ?_)
  refine aw_lv (lv' := [(0, .ref (bs + 0)), (1, z_i v1)]) rfl ?_
  unfold f_X11_status at hf
  refine aw_iload_n X 1 dX11_status_0 rfl rfl ?_
  refine aw_if_lt X (tgt := 22) c_v1 dX11_status_1 (by decide) (fun h1 => ?_) (fun h1 => ?_)
  · rw [if_pos h1] at hf
    refine aw_iconst X dX11_status_22 ?_
    obtain rfl := Option.some.inj hf
    exact aw_iret X (z_lit (x := (-1)) (by decide)) hr rfl dX11_status_23
  · rw [if_neg h1] at hf
    refine aw_iload_n X 1 dX11_status_4 rfl rfl ?_
    refine aw_aload_n X 0 dX11_status_5 rfl rfl ?_
    refine aw_getR X s_0 fX11_93 rfl dX11_status_6 ?_
    refine aw_alenI X (x := 4) s_757 rfl dX11_status_9 ?_
    refine aw_icmp_ge X (tgt := 22) c_v1 (z_lit (x := 4) (by decide)) dX11_status_10 (by decide) (fun h2 => ?_) (fun h2 => ?_)
    · rw [if_pos h2] at hf
      refine aw_iconst X dX11_status_22 ?_
      obtain rfl := Option.some.inj hf
      exact aw_iret X (z_lit (x := (-1)) (by decide)) hr rfl dX11_status_23
    · rw [if_neg h2] at hf
      refine aw_aload_n X 0 dX11_status_13 rfl rfl ?_
      refine aw_getR X s_0 fX11_93 rfl dX11_status_14 ?_
      refine aw_iload_n X 1 dX11_status_17 rfl rfl ?_
      obtain ⟨g3, hf⟩ := z_gd hf
      refine aw_iald X (j := v1.toNat) s_757 c_v1 g3.1 g3.2 rfl dX11_status_18 (fun c4 => ?_)
      refine aw_goto X (tgt := 23) dX11_status_19 (by decide) ?_
      obtain rfl := Option.some.inj hf
      exact aw_iret X c4 hr rfl dX11_status_23
-- SpeedDesk.undo()I
def f_X11_undo  (σ : Nat → Nat → Int) : Option (Int × (Nat → Nat → Int)) := (f_X3_giveBack 173 σ).bind fun q1 => if q1.1 = 0 then (some ((-1), q1.2)) else (some (q1.2 220 2, q1.2))
section S_X11_undo
variable {p : Program} {l : Launch} {e : Env} {s : State} {m : MethodId} {args : Array Value} {below : List Frame} {meth : Method} {c : Code} {D : va_G} {cA : Nat → ClassId} {sa : Nat → Nat} {bs : Nat} {q : (Int × (Nat → Nat → Int))}

end S_X11_undo
set_option maxHeartbeats 4000000 in
set_option maxRecDepth 100000 in
theorem C_X11_undo (l : Launch) (D : va_G) (cA : Nat → ClassId) (sa : Nat → Nat) (bs : Nat)  (σ : Nat → Nat → Int) (q : (Int × (Nat → Nat → Int))) (hf : f_X11_undo σ = some q) : AM l D cA sa bs 787 SH yX11_undo cX11_undo 1 (some .int) 3 [.ref (bs + 0)] σ (some (z_i q.1)) (Z_I q.1) q.2 := by
  refine am_of (by decide +kernel) (Nat.le_of_ble_eq_true rfl) (fun p e s m args below meth c X hr => ?_)
  refine aw_lv (lv' := [(0, .ref (bs + 0))]) rfl ?_
  unfold f_X11_undo at hf
  refine aw_aload_n X 0 dX11_undo_0 rfl rfl ?_
  refine aw_getR X s_0 fX11_65 rfl dX11_undo_1 ?_
  refine aw_aload_n X 0 dX11_undo_4 rfl rfl ?_
  refine aw_getR X s_0 fX11_42 rfl dX11_undo_5 ?_
  obtain ⟨q1, e2, hf⟩ := z_bd hf
  refine aw_callV X [.ref (bs + 173)] [] [z_i q1.1] cX11_277 s_220 ciX3 (C_X3_giveBack l D cA sa bs 173 (by decide) σ q1 e2) rfl ⟨(Nat.le_of_ble_eq_true rfl), (Nat.le_of_ble_eq_true rfl)⟩ rfl (Nat.le_of_ble_eq_true rfl) rfl dX11_undo_8 (fun p3 => ?_)
  refine aw_if_eq X (tgt := 24) (z_zI p3) dX11_undo_11 (by decide) (fun h4 => ?_) (fun h4 => ?_)
  · rw [if_pos h4] at hf
    refine aw_iconst X dX11_undo_24 ?_
    obtain rfl := Option.some.inj hf
    exact aw_iret X (z_lit (x := (-1)) (by decide)) hr rfl dX11_undo_25
  · rw [if_neg h4] at hf
    refine aw_aload_n X 0 dX11_undo_14 rfl rfl ?_
    refine aw_getR X s_0 fX11_65 rfl dX11_undo_15 ?_
    refine aw_getI X s_220 fX11_281 rfl dX11_undo_18 (fun c5 => ?_)
    refine aw_goto X (tgt := 25) dX11_undo_21 (by decide) ?_
    obtain rfl := Option.some.inj hf
    exact aw_iret X c5 hr rfl dX11_undo_25
-- SpeedDesk.logLength()I
def f_X11_logLength  (σ : Nat → Nat → Int) : Option Int := some (min (σ 173 3) 60)
section S_X11_logLength
variable {p : Program} {l : Launch} {e : Env} {s : State} {m : MethodId} {args : Array Value} {below : List Frame} {meth : Method} {c : Code} {D : va_G} {cA : Nat → ClassId} {sa : Nat → Nat} {bs : Nat} {q : Int}

end S_X11_logLength
set_option maxHeartbeats 4000000 in
set_option maxRecDepth 100000 in
theorem C_X11_logLength (l : Launch) (D : va_G) (cA : Nat → ClassId) (sa : Nat → Nat) (bs : Nat)  (σ : Nat → Nat → Int) (q : Int) (hf : f_X11_logLength σ = some q) : AM l D cA sa bs 787 SH yX11_logLength cX11_logLength 1 (some .int) 1 [.ref (bs + 0)] σ (some (z_i q)) (Z_I q) σ := by
  refine am_of (by decide +kernel) (Nat.le_of_ble_eq_true rfl) (fun p e s m args below meth c X hr => ?_)
  refine aw_lv (lv' := [(0, .ref (bs + 0))]) rfl ?_
  unfold f_X11_logLength at hf
  refine aw_aload_n X 0 dX11_logLength_0 rfl rfl ?_
  refine aw_getR X s_0 fX11_42 rfl dX11_logLength_1 ?_
  refine aw_getI X (sX7_0 173 (by decide)) fX11_287 rfl dX11_logLength_4 (fun c1 => ?_)
  refine aw_bipush X dX11_logLength_7 (by decide) ?_
  refine aw_min X c1 (z_lit (x := 60) (by decide)) cX11_421 ⟨(Nat.le_of_ble_eq_true rfl), (Nat.le_of_ble_eq_true rfl)⟩ dX11_logLength_9 ?_
  obtain rfl := Option.some.inj hf
  exact aw_iret X (z_min_in c1 (z_lit (x := 60) (by decide))) hr rfl dX11_logLength_12
