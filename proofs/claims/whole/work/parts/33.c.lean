-- SpeedDesk.name(III)I
section S_X11_name
variable {p : Program} {l : Launch} {e : Env} {s : State} {m : MethodId} {args : Array Value} {below : List Frame} {meth : Method} {c : Code} {D : va_G} {cA : Nat → ClassId} {sa ad : Nat → Nat} {bs : Nat} {q : Int}
set_option maxHeartbeats 4000000 in
set_option maxRecDepth 100000 in
theorem A_X11_name_59 (X : AX p s m args meth c D cA sa bs cX11_name 4 RX11) (hr : meth.sig.returnType = (some .int)) (σ : Nat → Nat → Int) (v1 : Int) (c_v1 : Z_I v1) (v2 : Int) (c_v2 : Z_I v2) (v3 : Int) (c_v3 : Z_I v3) (hf : f_X11_name_59 v1 v2 v3 σ = some q) : AW p l e (ax_rm 1 0 0) s m args below meth c D cA ad bs 788 SHp 0 0 (ax_MQ below args s D cA ad bs 788 SHp 0 0 (some (z_i q)) (Z_I q) σ) 4 59 [(0, .ref (ad 0)), (1, z_i v1), (2, z_i v2), (3, z_i v3)] [] σ := by
  unfold f_X11_name_59 at hf
  refine aw_iload_n X 1 dX11_name_59 rfl rfl ?_
  refine aw_iconst X dX11_name_60 ?_
  refine aw_icmp_ne X (tgt := 89) c_v1 (z_lit (x := 2) (by decide)) dX11_name_61 (by decide) (fun h25 => ?_) (fun h25 => ?_)
  · rw [if_neg h25] at hf
    refine aw_iconst X dX11_name_89 ?_
    obtain rfl := Option.some.inj hf
    exact aw_iret X (z_lit (x := (-1)) (by decide)) hr rfl dX11_name_90
  · rw [if_pos h25] at hf
    refine aw_aload_n X 0 dX11_name_64 rfl rfl ?_
    refine aw_getR X s_0 fX11_42 rfl dX11_name_65 ?_
    refine aw_iload_n X 2 dX11_name_68 rfl rfl ?_
    obtain ⟨q26, e27, hf⟩ := z_bd hf
    refine aw_callV X [z_i v2] [] [z_i q26] cX11_244 (sX7_0 173 (by decide)) ciX7 (C_X7_hasAsk l D cA sa ad bs 173 (by decide) v2 c_v2 σ q26 e27) rfl ⟨(Nat.le_of_ble_eq_true rfl), (Nat.le_of_ble_eq_true rfl), (Nat.le_of_ble_eq_true rfl), (Nat.le_of_ble_eq_true rfl)⟩ rfl (Nat.le_of_ble_eq_true rfl) rfl dX11_name_69 (fun p28 => ?_)
    refine aw_if_eq X (tgt := 89) (z_zI p28) dX11_name_72 (by decide) (fun h29 => ?_) (fun h29 => ?_)
    · rw [if_pos h29] at hf
      refine aw_iconst X dX11_name_89 ?_
      obtain rfl := Option.some.inj hf
      exact aw_iret X (z_lit (x := (-1)) (by decide)) hr rfl dX11_name_90
    · rw [if_neg h29] at hf
      refine aw_aload_n X 0 dX11_name_75 rfl rfl ?_
      refine aw_getR X s_0 fX11_42 rfl dX11_name_76 ?_
      refine aw_getR X (sX7_0 173 (by decide)) fX11_247 rfl dX11_name_79 ?_
      refine aw_iload_n X 2 dX11_name_82 rfl rfl ?_
      obtain ⟨g30, hf⟩ := z_gd hf
      refine aw_lald X (j := v2.toNat) (sX7_9 173 (by decide)) c_v2 g30.1 g30.2 rfl dX11_name_83 (fun c31 => ?_)
      refine aw_iload_n X 3 dX11_name_84 rfl rfl ?_
      obtain ⟨q32, e33, hf⟩ := z_bd hf
      refine aw_callS X [z_v (σ (173 + 9) v2.toNat), z_i v3] [] [z_i q32] cX11_237 (C_X11_letterOf l D cA sa ad bs (σ (173 + 9) v2.toNat) c31 v3 c_v3 σ q32 e33) rfl ⟨(Nat.le_of_ble_eq_true rfl), (Nat.le_of_ble_eq_true rfl), (Nat.le_of_ble_eq_true rfl), (Nat.le_of_ble_eq_true rfl)⟩ rfl (Nat.le_of_ble_eq_true rfl) rfl dX11_name_85 (fun p34 => ?_)
      obtain rfl := Option.some.inj hf
      exact aw_iret X p34 hr rfl dX11_name_88
set_option maxHeartbeats 4000000 in
set_option maxRecDepth 100000 in
theorem A_X11_name_29 (X : AX p s m args meth c D cA sa bs cX11_name 4 RX11) (hr : meth.sig.returnType = (some .int)) (σ : Nat → Nat → Int) (v1 : Int) (c_v1 : Z_I v1) (v2 : Int) (c_v2 : Z_I v2) (v3 : Int) (c_v3 : Z_I v3) (hf : f_X11_name_29 v1 v2 v3 σ = some q) : AW p l e (ax_rm 1 0 0) s m args below meth c D cA ad bs 788 SHp 0 0 (ax_MQ below args s D cA ad bs 788 SHp 0 0 (some (z_i q)) (Z_I q) σ) 4 29 [(0, .ref (ad 0)), (1, z_i v1), (2, z_i v2), (3, z_i v3)] [] σ := by
  unfold f_X11_name_29 at hf
  refine aw_iload_n X 1 dX11_name_29 rfl rfl ?_
  refine aw_iconst X dX11_name_30 ?_
  refine aw_icmp_ne X (tgt := 59) c_v1 (z_lit (x := 1) (by decide)) dX11_name_31 (by decide) (fun h13 => ?_) (fun h13 => ?_)
  · rw [if_neg h13] at hf
    exact A_X11_name_59 X hr σ v1 c_v1 v2 c_v2 v3 c_v3 hf
  · rw [if_pos h13] at hf
    refine aw_aload_n X 0 dX11_name_34 rfl rfl ?_
    obtain ⟨g14, hf⟩ := z_gd hf
    refine aw_getV X s_0 fX11_24 rfl dX11_name_35 ?_
    refine aw_iload_n X 2 dX11_name_38 rfl rfl ?_
    obtain ⟨q15, e16, hf⟩ := z_bd hf
    refine aw_callV X [z_i v2] [] [z_i q15] cX11_206 (sX1_0 ((σ 0 2).toNat) g14) ciX1 (C_X1_hasTask l D cA sa ad bs ((σ 0 2).toNat) g14 v2 c_v2 σ q15 e16) rfl ⟨(Nat.le_of_ble_eq_true rfl), (Nat.le_of_ble_eq_true rfl), (Nat.le_of_ble_eq_true rfl), (Nat.le_of_ble_eq_true rfl)⟩ rfl (Nat.le_of_ble_eq_true rfl) rfl dX11_name_39 (fun p17 => ?_)
    refine aw_if_eq X (tgt := 59) (z_zI p17) dX11_name_42 (by decide) (fun h18 => ?_) (fun h18 => ?_)
    · rw [if_pos h18] at hf
      exact A_X11_name_59 X hr σ v1 c_v1 v2 c_v2 v3 c_v3 hf
    · rw [if_neg h18] at hf
      refine aw_aload_n X 0 dX11_name_45 rfl rfl ?_
      obtain ⟨g19, hf⟩ := z_gd hf
      refine aw_getV X s_0 fX11_24 rfl dX11_name_46 ?_
      refine aw_getR X (sX1_0 ((σ 0 2).toNat) g19) fX11_241 rfl dX11_name_49 ?_
      refine aw_iload_n X 2 dX11_name_52 rfl rfl ?_
      obtain ⟨g20, hf⟩ := z_gd hf
      refine aw_lald X (j := v2.toNat) (sX1_15 ((σ 0 2).toNat) g19) c_v2 g20.1 g20.2 rfl dX11_name_53 (fun c21 => ?_)
      refine aw_iload_n X 3 dX11_name_54 rfl rfl ?_
      obtain ⟨q22, e23, hf⟩ := z_bd hf
      refine aw_callS X [z_v (σ (((σ 0 2).toNat) + 15) v2.toNat), z_i v3] [] [z_i q22] cX11_237 (C_X11_letterOf l D cA sa ad bs (σ (((σ 0 2).toNat) + 15) v2.toNat) c21 v3 c_v3 σ q22 e23) rfl ⟨(Nat.le_of_ble_eq_true rfl), (Nat.le_of_ble_eq_true rfl), (Nat.le_of_ble_eq_true rfl), (Nat.le_of_ble_eq_true rfl)⟩ rfl (Nat.le_of_ble_eq_true rfl) rfl dX11_name_55 (fun p24 => ?_)
      obtain rfl := Option.some.inj hf
      exact aw_iret X p24 hr rfl dX11_name_58
end S_X11_name
set_option maxHeartbeats 4000000 in
set_option maxRecDepth 100000 in
theorem C_X11_name (l : Launch) (D : va_G) (cA : Nat → ClassId) (sa ad : Nat → Nat) (bs : Nat) (v1 : Int) (c_v1 : Z_I v1) (v2 : Int) (c_v2 : Z_I v2) (v3 : Int) (c_v3 : Z_I v3) (σ : Nat → Nat → Int) (q : Int) (hf : f_X11_name v1 v2 v3 σ = some q) : AM l D cA sa ad bs 788 SHp yX11_name cX11_name 4 (some .int) 1 [.ref (ad 0), z_i v1, z_i v2, z_i v3] σ (some (z_i q)) (Z_I q) σ := by
  refine am_of (by decide +kernel) (Nat.le_of_ble_eq_true rfl) (fun p e s m args below meth c X hr => ?_)
  refine aw_lv (lv' := [(0, .ref (ad 0)), (1, z_i v1), (2, z_i v2), (3, z_i v3)]) rfl ?_
  unfold f_X11_name at hf
  refine aw_iload_n X 1 dX11_name_0 rfl rfl ?_
  refine aw_if_ne X (tgt := 29) c_v1 dX11_name_1 (by decide) (fun h1 => ?_) (fun h1 => ?_)
  · rw [if_neg h1] at hf
    exact A_X11_name_29 X hr σ v1 c_v1 v2 c_v2 v3 c_v3 hf
  · rw [if_pos h1] at hf
    refine aw_aload_n X 0 dX11_name_4 rfl rfl ?_
    obtain ⟨g2, hf⟩ := z_gd hf
    refine aw_getV X s_0 fX11_24 rfl dX11_name_5 ?_
    refine aw_iload_n X 2 dX11_name_8 rfl rfl ?_
    obtain ⟨q3, e4, hf⟩ := z_bd hf
    refine aw_callV X [z_i v2] [] [z_i q3] cX11_153 (sX1_0 ((σ 0 2).toNat) g2) ciX1 (C_X1_hasCluster l D cA sa ad bs ((σ 0 2).toNat) g2 v2 c_v2 σ q3 e4) rfl ⟨(Nat.le_of_ble_eq_true rfl), (Nat.le_of_ble_eq_true rfl), (Nat.le_of_ble_eq_true rfl), (Nat.le_of_ble_eq_true rfl)⟩ rfl (Nat.le_of_ble_eq_true rfl) rfl dX11_name_9 (fun p5 => ?_)
    refine aw_if_eq X (tgt := 29) (z_zI p5) dX11_name_12 (by decide) (fun h6 => ?_) (fun h6 => ?_)
    · rw [if_pos h6] at hf
      exact A_X11_name_29 X hr σ v1 c_v1 v2 c_v2 v3 c_v3 hf
    · rw [if_neg h6] at hf
      refine aw_aload_n X 0 dX11_name_15 rfl rfl ?_
      obtain ⟨g7, hf⟩ := z_gd hf
      refine aw_getV X s_0 fX11_24 rfl dX11_name_16 ?_
      refine aw_getR X (sX1_0 ((σ 0 2).toNat) g7) fX11_233 rfl dX11_name_19 ?_
      refine aw_iload_n X 2 dX11_name_22 rfl rfl ?_
      obtain ⟨g8, hf⟩ := z_gd hf
      refine aw_lald X (j := v2.toNat) (sX1_1 ((σ 0 2).toNat) g7) c_v2 g8.1 g8.2 rfl dX11_name_23 (fun c9 => ?_)
      refine aw_iload_n X 3 dX11_name_24 rfl rfl ?_
      obtain ⟨q10, e11, hf⟩ := z_bd hf
      refine aw_callS X [z_v (σ (((σ 0 2).toNat) + 1) v2.toNat), z_i v3] [] [z_i q10] cX11_237 (C_X11_letterOf l D cA sa ad bs (σ (((σ 0 2).toNat) + 1) v2.toNat) c9 v3 c_v3 σ q10 e11) rfl ⟨(Nat.le_of_ble_eq_true rfl), (Nat.le_of_ble_eq_true rfl), (Nat.le_of_ble_eq_true rfl), (Nat.le_of_ble_eq_true rfl)⟩ rfl (Nat.le_of_ble_eq_true rfl) rfl dX11_name_25 (fun p12 => ?_)
      obtain rfl := Option.some.inj hf
      exact aw_iret X p12 hr rfl dX11_name_28
-- SpeedDesk.asked(II)I
section S_X11_asked
variable {p : Program} {l : Launch} {e : Env} {s : State} {m : MethodId} {args : Array Value} {below : List Frame} {meth : Method} {c : Code} {D : va_G} {cA : Nat → ClassId} {sa ad : Nat → Nat} {bs : Nat} {q : Int}

end S_X11_asked
set_option maxHeartbeats 4000000 in
set_option maxRecDepth 100000 in
theorem C_X11_asked (l : Launch) (D : va_G) (cA : Nat → ClassId) (sa ad : Nat → Nat) (bs : Nat) (v1 : Int) (c_v1 : Z_I v1) (v2 : Int) (c_v2 : Z_I v2) (σ : Nat → Nat → Int) (q : Int) (hf : f_X11_asked v1 v2 σ = some q) : AM l D cA sa ad bs 788 SHp yX11_asked cX11_asked 3 (some .int) 1 [.ref (ad 0), z_i v1, z_i v2] σ (some (z_i q)) (Z_I q) σ := by
  refine am_of (by decide +kernel) (Nat.le_of_ble_eq_true rfl) (fun p e s m args below meth c X hr => ?_)
  refine aw_lv (lv' := [(0, .ref (ad 0)), (1, z_i v1), (2, z_i v2)]) rfl ?_
  unfold f_X11_asked at hf
  refine aw_aload_n X 0 dX11_asked_0 rfl rfl ?_
  refine aw_getR X s_0 fX11_42 rfl dX11_asked_1 ?_
  refine aw_iload_n X 1 dX11_asked_4 rfl rfl ?_
  obtain ⟨q1, e2, hf⟩ := z_bd hf
  refine aw_callV X [z_i v1] [] [z_i q1] cX11_244 (sX7_0 173 (by decide)) ciX7 (C_X7_hasAsk l D cA sa ad bs 173 (by decide) v1 c_v1 σ q1 e2) rfl ⟨(Nat.le_of_ble_eq_true rfl), (Nat.le_of_ble_eq_true rfl), (Nat.le_of_ble_eq_true rfl), (Nat.le_of_ble_eq_true rfl)⟩ rfl (Nat.le_of_ble_eq_true rfl) rfl dX11_asked_5 (fun p3 => ?_)
  refine aw_if_ne X (tgt := 13) (z_zI p3) dX11_asked_8 (by decide) (fun h4 => ?_) (fun h4 => ?_)
  · rw [if_neg h4] at hf
    refine aw_iload_n X 2 dX11_asked_13 rfl rfl ?_
    by_cases h5 : v2 = 0
    · rw [if_pos h5] at hf
      refine aw_tabIn X (tgt := 40) c_v2 dX11_asked_14 (by omega) (by omega) (by rw [h5]; rfl) (by decide) ?_
      refine aw_aload_n X 0 dX11_asked_40 rfl rfl ?_
      refine aw_getR X s_0 fX11_42 rfl dX11_asked_41 ?_
      refine aw_getR X (sX7_0 173 (by decide)) fX11_250 rfl dX11_asked_44 ?_
      refine aw_iload_n X 1 dX11_asked_47 rfl rfl ?_
      obtain ⟨g6, hf⟩ := z_gd hf
      refine aw_iald X (j := v1.toNat) (sX7_10 173 (by decide)) c_v1 g6.1 g6.2 rfl dX11_asked_48 (fun c7 => ?_)
      obtain rfl := Option.some.inj hf
      exact aw_iret X c7 hr rfl dX11_asked_49
    rw [if_neg h5] at hf
    by_cases h8 : v2 = 1
    · rw [if_pos h8] at hf
      refine aw_tabIn X (tgt := 50) c_v2 dX11_asked_14 (by omega) (by omega) (by rw [h8]; rfl) (by decide) ?_
      refine aw_aload_n X 0 dX11_asked_50 rfl rfl ?_
      refine aw_getR X s_0 fX11_42 rfl dX11_asked_51 ?_
      refine aw_getR X (sX7_0 173 (by decide)) fX11_253 rfl dX11_asked_54 ?_
      refine aw_iload_n X 1 dX11_asked_57 rfl rfl ?_
      obtain ⟨g9, hf⟩ := z_gd hf
      refine aw_iald X (j := v1.toNat) (sX7_11 173 (by decide)) c_v1 g9.1 g9.2 rfl dX11_asked_58 (fun c10 => ?_)
      obtain rfl := Option.some.inj hf
      exact aw_iret X c10 hr rfl dX11_asked_59
    rw [if_neg h8] at hf
    by_cases h11 : v2 = 2
    · rw [if_pos h11] at hf
      refine aw_tabIn X (tgt := 60) c_v2 dX11_asked_14 (by omega) (by omega) (by rw [h11]; rfl) (by decide) ?_
      refine aw_aload_n X 0 dX11_asked_60 rfl rfl ?_
      refine aw_getR X s_0 fX11_42 rfl dX11_asked_61 ?_
      refine aw_getR X (sX7_0 173 (by decide)) fX11_256 rfl dX11_asked_64 ?_
      refine aw_iload_n X 1 dX11_asked_67 rfl rfl ?_
      obtain ⟨g12, hf⟩ := z_gd hf
      refine aw_iald X (j := v1.toNat) (sX7_12 173 (by decide)) c_v1 g12.1 g12.2 rfl dX11_asked_68 (fun c13 => ?_)
      obtain rfl := Option.some.inj hf
      exact aw_iret X c13 hr rfl dX11_asked_69
    rw [if_neg h11] at hf
    refine aw_tabOut X (tgt := 70) c_v2 dX11_asked_14 (by omega) (by decide) ?_
    refine aw_iconst X dX11_asked_70 ?_
    obtain rfl := Option.some.inj hf
    exact aw_iret X (z_lit (x := (-1)) (by decide)) hr rfl dX11_asked_71
  · rw [if_pos h4] at hf
    refine aw_iconst X dX11_asked_11 ?_
    obtain rfl := Option.some.inj hf
    exact aw_iret X (z_lit (x := (-1)) (by decide)) hr rfl dX11_asked_12
-- SpeedDesk.doAct(LSpeedDesk$Step;)I
section S_X11_doAct
variable {p : Program} {l : Launch} {e : Env} {s : State} {m : MethodId} {args : Array Value} {below : List Frame} {meth : Method} {c : Code} {D : va_G} {cA : Nat → ClassId} {sa ad : Nat → Nat} {bs : Nat} {q : (Int × (Nat → Nat → Int))}
set_option maxHeartbeats 4000000 in
set_option maxRecDepth 100000 in
theorem A_X11_doAct_62 (X : AX p s m args meth c D cA sa bs cX11_doAct 3 RX11) (hr : meth.sig.returnType = (some .int)) (v2 : Int) (c_v2 : Z_I v2) (t0 : Int) (c_t0 : Z_I t0) (t1 : Int) (c_t1 : Z_I t1) (t2 : Int) (c_t2 : Z_I t2) (b3 : Nat) (h_b3 : b3 ∈ ax_iX4) (σ : Nat → Nat → Int) (hf : f_X11_doAct_62 v2 t0 t1 t2 b3 σ = some q) : AW p l e (ax_rm 5 0 0) s m args below meth c D cA ad bs 788 SHp 0 0 (ax_MQ below args s D cA ad bs 788 SHp 0 0 (some (z_i q.1)) (Z_I q.1) q.2) 3 62 [(0, .ref (ad 0)), (2, z_i v2)] [z_i t0, z_i t1, z_i t2, .ref (ad b3)] σ := by
  unfold f_X11_doAct_62 at hf
  refine aw_aload_n X 0 dX11_doAct_62 rfl rfl ?_
  refine aw_getR X s_0 fX11_42 rfl dX11_doAct_63 ?_
  refine aw_getI X (sX7_0 173 (by decide)) fX11_277 rfl dX11_doAct_66 (fun c13 => ?_)
  obtain ⟨q14, e15, hf⟩ := z_bd hf
  refine aw_callV X [z_i t2, z_i t1, z_i t0, z_i (σ 173 0)] [] [] cX11_461 (sX4_0 b3 h_b3) ciX4 (C_X4_write l D cA sa ad bs b3 h_b3 t2 c_t2 t1 c_t1 t0 c_t0 (σ 173 0) c13 σ q14 e15) rfl ⟨(Nat.le_of_ble_eq_true rfl), (Nat.le_of_ble_eq_true rfl), (Nat.le_of_ble_eq_true rfl), (Nat.le_of_ble_eq_true rfl)⟩ rfl (Nat.le_of_ble_eq_true rfl) rfl dX11_doAct_69 (fun p16 => ?_)
  refine aw_aload_n X 0 dX11_doAct_72 rfl rfl ?_
  refine aw_getR X s_0 fX11_42 rfl dX11_doAct_73 ?_
  refine aw_dup X dX11_doAct_76 rfl ?_
  refine aw_getI X (sX7_0 173 (by decide)) fX11_290 rfl dX11_doAct_77 (fun c17 => ?_)
  refine aw_iconst X dX11_doAct_80 ?_
  refine aw_iadd X dX11_doAct_81 ?_
  refine aw_putI X (sX7_0 173 (by decide)) pX11_290 rfl (z_w_in _) dX11_doAct_82 ?_
  refine aw_iload_n X 1 dX11_doAct_85 rfl rfl ?_
  obtain rfl := Option.some.inj hf
  exact aw_iret X c_v2 hr rfl dX11_doAct_86
end S_X11_doAct
set_option maxHeartbeats 4000000 in
set_option maxRecDepth 100000 in
theorem C_X11_doAct (l : Launch) (D : va_G) (cA : Nat → ClassId) (sa ad : Nat → Nat) (bs : Nat) (a1 : Nat) (h_a1 : a1 ∈ ax_iX8) (σ : Nat → Nat → Int) (q : (Int × (Nat → Nat → Int))) (hf : f_X11_doAct a1 σ = some q) : AM l D cA sa ad bs 788 SHp yX11_doAct cX11_doAct 3 (some .int) 5 [.ref (ad 0), .ref (ad a1)] σ (some (z_i q.1)) (Z_I q.1) q.2 := by
  refine am_of (by decide +kernel) (Nat.le_of_ble_eq_true rfl) (fun p e s m args below meth c X hr => ?_)
  refine aw_lv (lv' := [(0, .ref (ad 0)), (1, .ref (ad a1))]) rfl ?_
  unfold f_X11_doAct at hf
  refine aw_aload_n X 0 dX11_doAct_0 rfl rfl ?_
  refine aw_getR X s_0 fX11_65 rfl dX11_doAct_1 ?_
  refine aw_aload_n X 0 dX11_doAct_4 rfl rfl ?_
  refine aw_getR X s_0 fX11_42 rfl dX11_doAct_5 ?_
  obtain ⟨q1, e2, hf⟩ := z_bd hf
  refine aw_callV X [.ref (ad 173)] [] [] cX11_455 s_220 ciX3 (C_X3_keep l D cA sa ad bs 173 (by decide) σ q1 e2) rfl ⟨(Nat.le_of_ble_eq_true rfl), (Nat.le_of_ble_eq_true rfl), (Nat.le_of_ble_eq_true rfl), (Nat.le_of_ble_eq_true rfl)⟩ rfl (Nat.le_of_ble_eq_true rfl) rfl dX11_doAct_8 (fun p3 => ?_)
  refine aw_aload_n X 0 dX11_doAct_11 rfl rfl ?_
  refine aw_getR X s_0 fX11_72 rfl dX11_doAct_12 ?_
  refine aw_aload_n X 0 dX11_doAct_15 rfl rfl ?_
  obtain ⟨g4, hf⟩ := z_gd hf
  refine aw_getV X s_0 fX11_24 rfl dX11_doAct_16 ?_
  refine aw_aload_n X 0 dX11_doAct_19 rfl rfl ?_
  refine aw_getR X s_0 fX11_42 rfl dX11_doAct_20 ?_
  refine aw_aload_n X 1 dX11_doAct_23 rfl rfl ?_
  obtain ⟨q5, e6, hf⟩ := z_bd hf
  refine aw_callV X [.ref (ad ((q1 0 2).toNat)), .ref (ad 173), .ref (ad a1)] [] [z_i q5.1] cX11_458 s_742 ciX0 (C_X0_carryOut l D cA sa ad bs ((q1 0 2).toNat) g4 173 (by decide) a1 h_a1 q1 q5 e6) rfl ⟨(Nat.le_of_ble_eq_true rfl), (Nat.le_of_ble_eq_true rfl), (Nat.le_of_ble_eq_true rfl), (Nat.le_of_ble_eq_true rfl)⟩ rfl (Nat.le_of_ble_eq_true rfl) rfl dX11_doAct_24 (fun p7 => ?_)
  refine aw_istore_n X [(2, z_i q5.1), (0, .ref (ad 0)), (1, .ref (ad a1))] dX11_doAct_27 rfl (by decide) rfl ?_
  refine aw_aload_n X 1 dX11_doAct_28 rfl rfl ?_
  refine aw_getR X s_0 fX11_55 rfl dX11_doAct_29 ?_
  refine aw_aload_n X 1 dX11_doAct_32 rfl rfl ?_
  refine aw_getR X s_0 fX11_42 rfl dX11_doAct_33 ?_
  refine aw_getI X (sX7_0 173 (by decide)) fX11_290 rfl dX11_doAct_36 (fun c8 => ?_)
  refine aw_aload_n X 2 dX11_doAct_39 rfl rfl ?_
  refine aw_getI X (sX8_0 a1 h_a1) fX11_370 rfl dX11_doAct_40 (fun c9 => ?_)
  refine aw_aload_n X 2 dX11_doAct_43 rfl rfl ?_
  refine aw_getI X (sX8_0 a1 h_a1) fX11_370 rfl dX11_doAct_44 (fun c10 => ?_)
  refine aw_bipush X dX11_doAct_47 (by decide) ?_
  refine aw_icmp_ne X (tgt := 56) c10 (z_lit (x := 6) (by decide)) dX11_doAct_49 (by decide) (fun h11 => ?_) (fun h11 => ?_)
  · simp only [if_neg h11] at hf
    refine aw_aload_n X 2 dX11_doAct_56 rfl rfl ?_
    refine aw_getR X (sX8_0 a1 h_a1) fX11_373 rfl dX11_doAct_57 ?_
    refine aw_iconst X dX11_doAct_60 ?_
    refine aw_iald X (j := 0) (sX8_1 a1 h_a1) (z_lit (x := 0) (by decide)) (by decide) (by decide) rfl dX11_doAct_61 (fun c12 => ?_)
    refine aw_sub [1, 0] rfl ?_
    exact A_X11_doAct_62 X hr q5.1 p7 (q5.2 (a1 + 1) 0) c12 (q5.2 a1 1) c9 (q5.2 173 3) c8 212 (by decide) q5.2 hf
  · simp only [if_pos h11] at hf
    refine aw_iload_n X 0 dX11_doAct_52 rfl rfl ?_
    refine aw_goto X (tgt := 62) dX11_doAct_53 (by decide) ?_
    refine aw_sub [1, 0] rfl ?_
    exact A_X11_doAct_62 X hr q5.1 p7 q5.1 p7 (q5.2 a1 1) c9 (q5.2 173 3) c8 212 (by decide) q5.2 hf
-- SpeedDesk.doOrRefuse(LSpeedDesk$Step;)I
section S_X11_doOrRefuse
variable {p : Program} {l : Launch} {e : Env} {s : State} {m : MethodId} {args : Array Value} {below : List Frame} {meth : Method} {c : Code} {D : va_G} {cA : Nat → ClassId} {sa ad : Nat → Nat} {bs : Nat} {q : (Int × (Nat → Nat → Int))}

end S_X11_doOrRefuse
set_option maxHeartbeats 4000000 in
set_option maxRecDepth 100000 in
theorem C_X11_doOrRefuse (l : Launch) (D : va_G) (cA : Nat → ClassId) (sa ad : Nat → Nat) (bs : Nat) (a1 : Nat) (h_a1 : a1 ∈ ax_iX8) (σ : Nat → Nat → Int) (q : (Int × (Nat → Nat → Int))) (hf : f_X11_doOrRefuse a1 σ = some q) : AM l D cA sa ad bs 788 SHp yX11_doOrRefuse cX11_doOrRefuse 3 (some .int) 6 [.ref (ad 0), .ref (ad a1)] σ (some (z_i q.1)) (Z_I q.1) q.2 := by
  refine am_of (by decide +kernel) (Nat.le_of_ble_eq_true rfl) (fun p e s m args below meth c X hr => ?_)
  refine aw_lv (lv' := [(0, .ref (ad 0)), (1, .ref (ad a1))]) rfl ?_
  unfold f_X11_doOrRefuse at hf
  refine aw_aload_n X 0 dX11_doOrRefuse_0 rfl rfl ?_
  refine aw_getR X s_0 fX11_72 rfl dX11_doOrRefuse_1 ?_
  refine aw_aload_n X 0 dX11_doOrRefuse_4 rfl rfl ?_
  obtain ⟨g1, hf⟩ := z_gd hf
  refine aw_getV X s_0 fX11_24 rfl dX11_doOrRefuse_5 ?_
  refine aw_aload_n X 0 dX11_doOrRefuse_8 rfl rfl ?_
  refine aw_getR X s_0 fX11_42 rfl dX11_doOrRefuse_9 ?_
  refine aw_aload_n X 1 dX11_doOrRefuse_12 rfl rfl ?_
  obtain ⟨q2, e3, hf⟩ := z_bd hf
  refine aw_callV X [.ref (ad ((σ 0 2).toNat)), .ref (ad 173), .ref (ad a1)] [] [z_i q2.1] cX11_382 s_742 ciX0 (C_X0_refusalOf l D cA sa ad bs ((σ 0 2).toNat) g1 173 (by decide) a1 h_a1 σ q2 e3) rfl ⟨(Nat.le_of_ble_eq_true rfl), (Nat.le_of_ble_eq_true rfl), (Nat.le_of_ble_eq_true rfl), (Nat.le_of_ble_eq_true rfl)⟩ rfl (Nat.le_of_ble_eq_true rfl) rfl dX11_doOrRefuse_13 (fun p4 => ?_)
  refine aw_istore_n X [(2, z_i q2.1), (0, .ref (ad 0)), (1, .ref (ad a1))] dX11_doOrRefuse_16 rfl (by decide) rfl ?_
  refine aw_iload_n X 0 dX11_doOrRefuse_17 rfl rfl ?_
  refine aw_iconst X dX11_doOrRefuse_18 ?_
  refine aw_icmp_ne X (tgt := 28) p4 (z_lit (x := (-1)) (by decide)) dX11_doOrRefuse_19 (by decide) (fun h5 => ?_) (fun h5 => ?_)
  · rw [if_neg h5] at hf
    refine aw_iload_n X 0 dX11_doOrRefuse_28 rfl rfl ?_
    refine aw_if_lt X (tgt := 51) p4 dX11_doOrRefuse_29 (by decide) (fun h6 => ?_) (fun h6 => ?_)
    · rw [if_pos h6] at hf
      refine aw_iconst X dX11_doOrRefuse_51 ?_
      obtain rfl := Option.some.inj hf
      exact aw_iret X (z_lit (x := (-1)) (by decide)) hr rfl dX11_doOrRefuse_52
    · rw [if_neg h6] at hf
      refine aw_iload_n X 0 dX11_doOrRefuse_32 rfl rfl ?_
      refine aw_aload_n X 1 dX11_doOrRefuse_33 rfl rfl ?_
      refine aw_getR X s_0 fX11_93 rfl dX11_doOrRefuse_34 ?_
      refine aw_alenI X (x := 4) s_757 rfl dX11_doOrRefuse_37 ?_
      refine aw_icmp_ge X (tgt := 51) p4 (z_lit (x := 4) (by decide)) dX11_doOrRefuse_38 (by decide) (fun h7 => ?_) (fun h7 => ?_)
      · rw [if_pos h7] at hf
        refine aw_iconst X dX11_doOrRefuse_51 ?_
        obtain rfl := Option.some.inj hf
        exact aw_iret X (z_lit (x := (-1)) (by decide)) hr rfl dX11_doOrRefuse_52
      · rw [if_neg h7] at hf
        refine aw_aload_n X 1 dX11_doOrRefuse_41 rfl rfl ?_
        refine aw_getR X s_0 fX11_93 rfl dX11_doOrRefuse_42 ?_
        refine aw_iload_n X 0 dX11_doOrRefuse_45 rfl rfl ?_
        refine aw_dup2 X dX11_doOrRefuse_46 rfl rfl ?_
        obtain ⟨g8, hf⟩ := z_gd hf
        refine aw_iald X (j := q2.1.toNat) s_757 p4 g8.1 g8.2 rfl dX11_doOrRefuse_47 (fun c9 => ?_)
        refine aw_iconst X dX11_doOrRefuse_48 ?_
        refine aw_iadd X dX11_doOrRefuse_49 ?_
        obtain ⟨g10, hf⟩ := z_gd hf
        refine aw_iast X (j := q2.1.toNat) s_757 p4 g10.1 g10.2 rfl (z_w_in _) dX11_doOrRefuse_50 ?_
        refine aw_iconst X dX11_doOrRefuse_51 ?_
        obtain rfl := Option.some.inj hf
        exact aw_iret X (z_lit (x := (-1)) (by decide)) hr rfl dX11_doOrRefuse_52
  · rw [if_pos h5] at hf
    refine aw_aload_n X 1 dX11_doOrRefuse_22 rfl rfl ?_
    refine aw_aload_n X 2 dX11_doOrRefuse_23 rfl rfl ?_
    obtain ⟨q11, e12, hf⟩ := z_bd hf
    refine aw_callV X [.ref (ad a1)] [] [z_i q11.1] cX11_386 s_0 ciX11 (C_X11_doAct l D cA sa ad bs a1 h_a1 q2.2 q11 e12) rfl ⟨(Nat.le_of_ble_eq_true rfl), (Nat.le_of_ble_eq_true rfl), (Nat.le_of_ble_eq_true rfl), (Nat.le_of_ble_eq_true rfl)⟩ rfl (Nat.le_of_ble_eq_true rfl) rfl dX11_doOrRefuse_24 (fun p13 => ?_)
    obtain rfl := Option.some.inj hf
    exact aw_iret X p13 hr rfl dX11_doOrRefuse_27
-- SpeedDesk.tick(I)I
section S_X11_tick
variable {p : Program} {l : Launch} {e : Env} {s : State} {m : MethodId} {args : Array Value} {below : List Frame} {meth : Method} {c : Code} {D : va_G} {cA : Nat → ClassId} {sa ad : Nat → Nat} {bs : Nat} {q : (Int × (Nat → Nat → Int))}

end S_X11_tick
set_option maxHeartbeats 4000000 in
set_option maxRecDepth 100000 in
theorem C_X11_tick (l : Launch) (D : va_G) (cA : Nat → ClassId) (sa ad : Nat → Nat) (bs : Nat) (v1 : Int) (c_v1 : Z_I v1) (σ : Nat → Nat → Int) (q : (Int × (Nat → Nat → Int))) (hf : f_X11_tick v1 σ = some q) : AM l D cA sa ad bs 788 SHp yX11_tick cX11_tick 2 (some .int) 7 [.ref (ad 0), z_i v1] σ (some (z_i q.1)) (Z_I q.1) q.2 := by
  refine am_of (by decide +kernel) (Nat.le_of_ble_eq_true rfl) (fun p e s m args below meth c X hr => ?_)
  refine aw_lv (lv' := [(0, .ref (ad 0)), (1, z_i v1)]) rfl ?_
  unfold f_X11_tick at hf
  refine aw_aload_n X 0 dX11_tick_0 rfl rfl ?_
  refine aw_getR X s_0 fX11_89 rfl dX11_tick_1 ?_
  refine aw_iconst X dX11_tick_4 ?_
  refine aw_iload_n X 1 dX11_tick_5 rfl rfl ?_
  refine aw_iconst X dX11_tick_6 ?_
  refine aw_iconst X dX11_tick_7 ?_
  refine aw_lconst X (x := 0) dX11_tick_8 (by decide) ?_
  obtain ⟨q1, e2, hf⟩ := z_bd hf
  refine aw_callV X [z_i 0, z_i v1, z_i 0, z_i 0, z_v 0] [] [] cX11_259 (sX8_0 755 (by decide)) ciX8 (C_X8_put l D cA sa ad bs 755 (by decide) 0 (z_lit (x := 0) (by decide)) v1 c_v1 0 (z_lit (x := 0) (by decide)) 0 (z_lit (x := 0) (by decide)) 0 (z_litL (x := 0) (by decide)) σ q1 e2) rfl ⟨(Nat.le_of_ble_eq_true rfl), (Nat.le_of_ble_eq_true rfl), (Nat.le_of_ble_eq_true rfl), (Nat.le_of_ble_eq_true rfl)⟩ rfl (Nat.le_of_ble_eq_true rfl) rfl dX11_tick_9 (fun p3 => ?_)
  refine aw_aload_n X 0 dX11_tick_12 rfl rfl ?_
  refine aw_aload_n X 0 dX11_tick_13 rfl rfl ?_
  refine aw_getR X s_0 fX11_89 rfl dX11_tick_14 ?_
  obtain ⟨q4, e5, hf⟩ := z_bd hf
  refine aw_callV X [.ref (ad 755)] [] [z_i q4.1] cX11_263 s_0 ciX11 (C_X11_doOrRefuse l D cA sa ad bs 755 (by decide) q1 q4 e5) rfl ⟨(Nat.le_of_ble_eq_true rfl), (Nat.le_of_ble_eq_true rfl), (Nat.le_of_ble_eq_true rfl), (Nat.le_of_ble_eq_true rfl)⟩ rfl (Nat.le_of_ble_eq_true rfl) rfl dX11_tick_17 (fun p6 => ?_)
  obtain rfl := Option.some.inj hf
  exact aw_iret X p6 hr rfl dX11_tick_20
-- SpeedDesk.move(II)I
section S_X11_move
variable {p : Program} {l : Launch} {e : Env} {s : State} {m : MethodId} {args : Array Value} {below : List Frame} {meth : Method} {c : Code} {D : va_G} {cA : Nat → ClassId} {sa ad : Nat → Nat} {bs : Nat} {q : (Int × (Nat → Nat → Int))}

end S_X11_move
set_option maxHeartbeats 4000000 in
set_option maxRecDepth 100000 in
theorem C_X11_move (l : Launch) (D : va_G) (cA : Nat → ClassId) (sa ad : Nat → Nat) (bs : Nat) (v1 : Int) (c_v1 : Z_I v1) (v2 : Int) (c_v2 : Z_I v2) (σ : Nat → Nat → Int) (q : (Int × (Nat → Nat → Int))) (hf : f_X11_move v1 v2 σ = some q) : AM l D cA sa ad bs 788 SHp yX11_move cX11_move 3 (some .int) 7 [.ref (ad 0), z_i v1, z_i v2] σ (some (z_i q.1)) (Z_I q.1) q.2 := by
  refine am_of (by decide +kernel) (Nat.le_of_ble_eq_true rfl) (fun p e s m args below meth c X hr => ?_)
  refine aw_lv (lv' := [(0, .ref (ad 0)), (1, z_i v1), (2, z_i v2)]) rfl ?_
  unfold f_X11_move at hf
  refine aw_aload_n X 0 dX11_move_0 rfl rfl ?_
  refine aw_getR X s_0 fX11_89 rfl dX11_move_1 ?_
  refine aw_iconst X dX11_move_4 ?_
  refine aw_iload_n X 1 dX11_move_5 rfl rfl ?_
  refine aw_iload_n X 2 dX11_move_6 rfl rfl ?_
  refine aw_iconst X dX11_move_7 ?_
  refine aw_lconst X (x := 0) dX11_move_8 (by decide) ?_
  obtain ⟨q1, e2, hf⟩ := z_bd hf
  refine aw_callV X [z_i 1, z_i v1, z_i v2, z_i 0, z_v 0] [] [] cX11_259 (sX8_0 755 (by decide)) ciX8 (C_X8_put l D cA sa ad bs 755 (by decide) 1 (z_lit (x := 1) (by decide)) v1 c_v1 v2 c_v2 0 (z_lit (x := 0) (by decide)) 0 (z_litL (x := 0) (by decide)) σ q1 e2) rfl ⟨(Nat.le_of_ble_eq_true rfl), (Nat.le_of_ble_eq_true rfl), (Nat.le_of_ble_eq_true rfl), (Nat.le_of_ble_eq_true rfl)⟩ rfl (Nat.le_of_ble_eq_true rfl) rfl dX11_move_9 (fun p3 => ?_)
  refine aw_aload_n X 0 dX11_move_12 rfl rfl ?_
  refine aw_aload_n X 0 dX11_move_13 rfl rfl ?_
  refine aw_getR X s_0 fX11_89 rfl dX11_move_14 ?_
  obtain ⟨q4, e5, hf⟩ := z_bd hf
  refine aw_callV X [.ref (ad 755)] [] [z_i q4.1] cX11_263 s_0 ciX11 (C_X11_doOrRefuse l D cA sa ad bs 755 (by decide) q1 q4 e5) rfl ⟨(Nat.le_of_ble_eq_true rfl), (Nat.le_of_ble_eq_true rfl), (Nat.le_of_ble_eq_true rfl), (Nat.le_of_ble_eq_true rfl)⟩ rfl (Nat.le_of_ble_eq_true rfl) rfl dX11_move_17 (fun p6 => ?_)
  obtain rfl := Option.some.inj hf
  exact aw_iret X p6 hr rfl dX11_move_20
-- SpeedDesk.useUpTapeFor(I)I
section S_X11_useUpTapeFor
variable {p : Program} {l : Launch} {e : Env} {s : State} {m : MethodId} {args : Array Value} {below : List Frame} {meth : Method} {c : Code} {D : va_G} {cA : Nat → ClassId} {sa ad : Nat → Nat} {bs : Nat} {q : (Int × (Nat → Nat → Int))}

end S_X11_useUpTapeFor
set_option maxHeartbeats 4000000 in
set_option maxRecDepth 100000 in
theorem C_X11_useUpTapeFor (l : Launch) (D : va_G) (cA : Nat → ClassId) (sa ad : Nat → Nat) (bs : Nat) (v1 : Int) (c_v1 : Z_I v1) (σ : Nat → Nat → Int) (q : (Int × (Nat → Nat → Int))) (hf : f_X11_useUpTapeFor v1 σ = some q) : AM l D cA sa ad bs 788 SHp yX11_useUpTapeFor cX11_useUpTapeFor 2 (some .int) 0 [.ref (ad 0), z_i v1] σ (some (z_i q.1)) (Z_I q.1) q.2 := by
  refine am_of (by decide +kernel) (Nat.le_of_ble_eq_true rfl) (fun p e s m args below meth c X hr => ?_)
  refine aw_lv (lv' := [(0, .ref (ad 0)), (1, z_i v1)]) rfl ?_
  unfold f_X11_useUpTapeFor at hf
  refine aw_iload_n X 1 dX11_useUpTapeFor_0 rfl rfl ?_
  refine aw_iconst X dX11_useUpTapeFor_1 ?_
  refine aw_icmp_eq X (tgt := 13) c_v1 (z_lit (x := (-1)) (by decide)) dX11_useUpTapeFor_2 (by decide) (fun h1 => ?_) (fun h1 => ?_)
  · rw [if_pos h1] at hf
    refine aw_iload_n X 1 dX11_useUpTapeFor_13 rfl rfl ?_
    obtain rfl := Option.some.inj hf
    exact aw_iret X c_v1 hr rfl dX11_useUpTapeFor_14
  · rw [if_neg h1] at hf
    refine aw_aload_n X 0 dX11_useUpTapeFor_5 rfl rfl ?_
    refine aw_getR X s_0 fX11_20 rfl dX11_useUpTapeFor_6 ?_
    refine aw_iconst X dX11_useUpTapeFor_9 ?_
    refine aw_putI X s_2 pX11_103 rfl (z_lit (x := 0) (by decide)) dX11_useUpTapeFor_10 ?_
    refine aw_iload_n X 1 dX11_useUpTapeFor_13 rfl rfl ?_
    obtain rfl := Option.some.inj hf
    exact aw_iret X c_v1 hr rfl dX11_useUpTapeFor_14
-- SpeedDesk.ask(III)I
section S_X11_ask
variable {p : Program} {l : Launch} {e : Env} {s : State} {m : MethodId} {args : Array Value} {below : List Frame} {meth : Method} {c : Code} {D : va_G} {cA : Nat → ClassId} {sa ad : Nat → Nat} {bs : Nat} {q : (Int × (Nat → Nat → Int))}

end S_X11_ask
set_option maxHeartbeats 4000000 in
set_option maxRecDepth 100000 in
theorem C_X11_ask (l : Launch) (D : va_G) (cA : Nat → ClassId) (sa ad : Nat → Nat) (bs : Nat) (v1 : Int) (c_v1 : Z_I v1) (v2 : Int) (c_v2 : Z_I v2) (v3 : Int) (c_v3 : Z_I v3) (σ : Nat → Nat → Int) (q : (Int × (Nat → Nat → Int))) (hf : f_X11_ask v1 v2 v3 σ = some q) : AM l D cA sa ad bs 788 SHp yX11_ask cX11_ask 4 (some .int) 7 [.ref (ad 0), z_i v1, z_i v2, z_i v3] σ (some (z_i q.1)) (Z_I q.1) q.2 := by
  refine am_of (by decide +kernel) (Nat.le_of_ble_eq_true rfl) (fun p e s m args below meth c X hr => ?_)
  refine aw_lv (lv' := [(0, .ref (ad 0)), (1, z_i v1), (2, z_i v2), (3, z_i v3)]) rfl ?_
  unfold f_X11_ask at hf
  refine aw_aload_n X 0 dX11_ask_0 rfl rfl ?_
  refine aw_getR X s_0 fX11_89 rfl dX11_ask_1 ?_
  refine aw_iconst X dX11_ask_4 ?_
  refine aw_iload_n X 1 dX11_ask_5 rfl rfl ?_
  refine aw_iload_n X 2 dX11_ask_6 rfl rfl ?_
  refine aw_iload_n X 3 dX11_ask_7 rfl rfl ?_
  refine aw_aload_n X 0 dX11_ask_8 rfl rfl ?_
  refine aw_getR X s_0 fX11_12 rfl dX11_ask_9 ?_
  obtain ⟨q1, e2, hf⟩ := z_bd hf
  refine aw_callV X [] [z_i v3, z_i v2, z_i v1, z_i 2, .ref (ad 755)] [z_v q1.1, z_i v3, z_i v2, z_i v1, z_i 2, .ref (ad 755)] cX11_123 s_1 ciX10 (C_X10_readAsker l D cA sa ad bs σ q1 e2) rfl ⟨(Nat.le_of_ble_eq_true rfl), (Nat.le_of_ble_eq_true rfl), (Nat.le_of_ble_eq_true rfl), (Nat.le_of_ble_eq_true rfl)⟩ rfl (Nat.le_of_ble_eq_true rfl) rfl dX11_ask_12 (fun p3 => ?_)
  obtain ⟨q4, e5, hf⟩ := z_bd hf
  refine aw_callV X [z_i 2, z_i v1, z_i v2, z_i v3, z_v q1.1] [] [] cX11_259 (sX8_0 755 (by decide)) ciX8 (C_X8_put l D cA sa ad bs 755 (by decide) 2 (z_lit (x := 2) (by decide)) v1 c_v1 v2 c_v2 v3 c_v3 q1.1 p3 q1.2 q4 e5) rfl ⟨(Nat.le_of_ble_eq_true rfl), (Nat.le_of_ble_eq_true rfl), (Nat.le_of_ble_eq_true rfl), (Nat.le_of_ble_eq_true rfl)⟩ rfl (Nat.le_of_ble_eq_true rfl) rfl dX11_ask_15 (fun p6 => ?_)
  refine aw_aload_n X 0 dX11_ask_18 rfl rfl ?_
  refine aw_aload_n X 0 dX11_ask_19 rfl rfl ?_
  refine aw_aload_n X 0 dX11_ask_20 rfl rfl ?_
  refine aw_getR X s_0 fX11_89 rfl dX11_ask_21 ?_
  obtain ⟨q7, e8, hf⟩ := z_bd hf
  refine aw_callV X [.ref (ad 755)] [.ref (ad 0)] [z_i q7.1, .ref (ad 0)] cX11_263 s_0 ciX11 (C_X11_doOrRefuse l D cA sa ad bs 755 (by decide) q4 q7 e8) rfl ⟨(Nat.le_of_ble_eq_true rfl), (Nat.le_of_ble_eq_true rfl), (Nat.le_of_ble_eq_true rfl), (Nat.le_of_ble_eq_true rfl)⟩ rfl (Nat.le_of_ble_eq_true rfl) rfl dX11_ask_24 (fun p9 => ?_)
  obtain ⟨q10, e11, hf⟩ := z_bd hf
  refine aw_callV X [z_i q7.1] [] [z_i q10.1] cX11_267 s_0 ciX11 (C_X11_useUpTapeFor l D cA sa ad bs q7.1 p9 q7.2 q10 e11) rfl ⟨(Nat.le_of_ble_eq_true rfl), (Nat.le_of_ble_eq_true rfl), (Nat.le_of_ble_eq_true rfl), (Nat.le_of_ble_eq_true rfl)⟩ rfl (Nat.le_of_ble_eq_true rfl) rfl dX11_ask_27 (fun p12 => ?_)
  obtain rfl := Option.some.inj hf
  exact aw_iret X p12 hr rfl dX11_ask_30
-- SpeedDesk.drop(I)I
section S_X11_drop
variable {p : Program} {l : Launch} {e : Env} {s : State} {m : MethodId} {args : Array Value} {below : List Frame} {meth : Method} {c : Code} {D : va_G} {cA : Nat → ClassId} {sa ad : Nat → Nat} {bs : Nat} {q : (Int × (Nat → Nat → Int))}

end S_X11_drop
set_option maxHeartbeats 4000000 in
set_option maxRecDepth 100000 in
theorem C_X11_drop (l : Launch) (D : va_G) (cA : Nat → ClassId) (sa ad : Nat → Nat) (bs : Nat) (v1 : Int) (c_v1 : Z_I v1) (σ : Nat → Nat → Int) (q : (Int × (Nat → Nat → Int))) (hf : f_X11_drop v1 σ = some q) : AM l D cA sa ad bs 788 SHp yX11_drop cX11_drop 2 (some .int) 7 [.ref (ad 0), z_i v1] σ (some (z_i q.1)) (Z_I q.1) q.2 := by
  refine am_of (by decide +kernel) (Nat.le_of_ble_eq_true rfl) (fun p e s m args below meth c X hr => ?_)
  refine aw_lv (lv' := [(0, .ref (ad 0)), (1, z_i v1)]) rfl ?_
  unfold f_X11_drop at hf
  refine aw_aload_n X 0 dX11_drop_0 rfl rfl ?_
  refine aw_getR X s_0 fX11_89 rfl dX11_drop_1 ?_
  refine aw_iconst X dX11_drop_4 ?_
  refine aw_iload_n X 1 dX11_drop_5 rfl rfl ?_
  refine aw_iconst X dX11_drop_6 ?_
  refine aw_iconst X dX11_drop_7 ?_
  refine aw_aload_n X 0 dX11_drop_8 rfl rfl ?_
  refine aw_getR X s_0 fX11_12 rfl dX11_drop_9 ?_
  obtain ⟨q1, e2, hf⟩ := z_bd hf
  refine aw_callV X [] [z_i 0, z_i 0, z_i v1, z_i 3, .ref (ad 755)] [z_v q1.1, z_i 0, z_i 0, z_i v1, z_i 3, .ref (ad 755)] cX11_123 s_1 ciX10 (C_X10_readAsker l D cA sa ad bs σ q1 e2) rfl ⟨(Nat.le_of_ble_eq_true rfl), (Nat.le_of_ble_eq_true rfl), (Nat.le_of_ble_eq_true rfl), (Nat.le_of_ble_eq_true rfl)⟩ rfl (Nat.le_of_ble_eq_true rfl) rfl dX11_drop_12 (fun p3 => ?_)
  obtain ⟨q4, e5, hf⟩ := z_bd hf
  refine aw_callV X [z_i 3, z_i v1, z_i 0, z_i 0, z_v q1.1] [] [] cX11_259 (sX8_0 755 (by decide)) ciX8 (C_X8_put l D cA sa ad bs 755 (by decide) 3 (z_lit (x := 3) (by decide)) v1 c_v1 0 (z_lit (x := 0) (by decide)) 0 (z_lit (x := 0) (by decide)) q1.1 p3 q1.2 q4 e5) rfl ⟨(Nat.le_of_ble_eq_true rfl), (Nat.le_of_ble_eq_true rfl), (Nat.le_of_ble_eq_true rfl), (Nat.le_of_ble_eq_true rfl)⟩ rfl (Nat.le_of_ble_eq_true rfl) rfl dX11_drop_15 (fun p6 => ?_)
  refine aw_aload_n X 0 dX11_drop_18 rfl rfl ?_
  refine aw_aload_n X 0 dX11_drop_19 rfl rfl ?_
  refine aw_aload_n X 0 dX11_drop_20 rfl rfl ?_
  refine aw_getR X s_0 fX11_89 rfl dX11_drop_21 ?_
  obtain ⟨q7, e8, hf⟩ := z_bd hf
  refine aw_callV X [.ref (ad 755)] [.ref (ad 0)] [z_i q7.1, .ref (ad 0)] cX11_263 s_0 ciX11 (C_X11_doOrRefuse l D cA sa ad bs 755 (by decide) q4 q7 e8) rfl ⟨(Nat.le_of_ble_eq_true rfl), (Nat.le_of_ble_eq_true rfl), (Nat.le_of_ble_eq_true rfl), (Nat.le_of_ble_eq_true rfl)⟩ rfl (Nat.le_of_ble_eq_true rfl) rfl dX11_drop_24 (fun p9 => ?_)
  obtain ⟨q10, e11, hf⟩ := z_bd hf
  refine aw_callV X [z_i q7.1] [] [z_i q10.1] cX11_267 s_0 ciX11 (C_X11_useUpTapeFor l D cA sa ad bs q7.1 p9 q7.2 q10 e11) rfl ⟨(Nat.le_of_ble_eq_true rfl), (Nat.le_of_ble_eq_true rfl), (Nat.le_of_ble_eq_true rfl), (Nat.le_of_ble_eq_true rfl)⟩ rfl (Nat.le_of_ble_eq_true rfl) rfl dX11_drop_27 (fun p12 => ?_)
  obtain rfl := Option.some.inj hf
  exact aw_iret X p12 hr rfl dX11_drop_30
-- SpeedDesk.stop(I)I
section S_X11_stop
variable {p : Program} {l : Launch} {e : Env} {s : State} {m : MethodId} {args : Array Value} {below : List Frame} {meth : Method} {c : Code} {D : va_G} {cA : Nat → ClassId} {sa ad : Nat → Nat} {bs : Nat} {q : (Int × (Nat → Nat → Int))}

end S_X11_stop
set_option maxHeartbeats 4000000 in
set_option maxRecDepth 100000 in
theorem C_X11_stop (l : Launch) (D : va_G) (cA : Nat → ClassId) (sa ad : Nat → Nat) (bs : Nat) (v1 : Int) (c_v1 : Z_I v1) (σ : Nat → Nat → Int) (q : (Int × (Nat → Nat → Int))) (hf : f_X11_stop v1 σ = some q) : AM l D cA sa ad bs 788 SHp yX11_stop cX11_stop 2 (some .int) 7 [.ref (ad 0), z_i v1] σ (some (z_i q.1)) (Z_I q.1) q.2 := by
  refine am_of (by decide +kernel) (Nat.le_of_ble_eq_true rfl) (fun p e s m args below meth c X hr => ?_)
  refine aw_lv (lv' := [(0, .ref (ad 0)), (1, z_i v1)]) rfl ?_
  unfold f_X11_stop at hf
  refine aw_aload_n X 0 dX11_stop_0 rfl rfl ?_
  refine aw_getR X s_0 fX11_89 rfl dX11_stop_1 ?_
  refine aw_iconst X dX11_stop_4 ?_
  refine aw_iload_n X 1 dX11_stop_5 rfl rfl ?_
  refine aw_iconst X dX11_stop_6 ?_
  refine aw_iconst X dX11_stop_7 ?_
  refine aw_lconst X (x := 0) dX11_stop_8 (by decide) ?_
  obtain ⟨q1, e2, hf⟩ := z_bd hf
  refine aw_callV X [z_i 4, z_i v1, z_i 0, z_i 0, z_v 0] [] [] cX11_259 (sX8_0 755 (by decide)) ciX8 (C_X8_put l D cA sa ad bs 755 (by decide) 4 (z_lit (x := 4) (by decide)) v1 c_v1 0 (z_lit (x := 0) (by decide)) 0 (z_lit (x := 0) (by decide)) 0 (z_litL (x := 0) (by decide)) σ q1 e2) rfl ⟨(Nat.le_of_ble_eq_true rfl), (Nat.le_of_ble_eq_true rfl), (Nat.le_of_ble_eq_true rfl), (Nat.le_of_ble_eq_true rfl)⟩ rfl (Nat.le_of_ble_eq_true rfl) rfl dX11_stop_9 (fun p3 => ?_)
  refine aw_aload_n X 0 dX11_stop_12 rfl rfl ?_
  refine aw_aload_n X 0 dX11_stop_13 rfl rfl ?_
  refine aw_getR X s_0 fX11_89 rfl dX11_stop_14 ?_
  obtain ⟨q4, e5, hf⟩ := z_bd hf
  refine aw_callV X [.ref (ad 755)] [] [z_i q4.1] cX11_263 s_0 ciX11 (C_X11_doOrRefuse l D cA sa ad bs 755 (by decide) q1 q4 e5) rfl ⟨(Nat.le_of_ble_eq_true rfl), (Nat.le_of_ble_eq_true rfl), (Nat.le_of_ble_eq_true rfl), (Nat.le_of_ble_eq_true rfl)⟩ rfl (Nat.le_of_ble_eq_true rfl) rfl dX11_stop_17 (fun p6 => ?_)
  obtain rfl := Option.some.inj hf
  exact aw_iret X p6 hr rfl dX11_stop_20
-- SpeedDesk.start(I)I
section S_X11_start
variable {p : Program} {l : Launch} {e : Env} {s : State} {m : MethodId} {args : Array Value} {below : List Frame} {meth : Method} {c : Code} {D : va_G} {cA : Nat → ClassId} {sa ad : Nat → Nat} {bs : Nat} {q : (Int × (Nat → Nat → Int))}

end S_X11_start
set_option maxHeartbeats 4000000 in
set_option maxRecDepth 100000 in
theorem C_X11_start (l : Launch) (D : va_G) (cA : Nat → ClassId) (sa ad : Nat → Nat) (bs : Nat) (v1 : Int) (c_v1 : Z_I v1) (σ : Nat → Nat → Int) (q : (Int × (Nat → Nat → Int))) (hf : f_X11_start v1 σ = some q) : AM l D cA sa ad bs 788 SHp yX11_start cX11_start 2 (some .int) 7 [.ref (ad 0), z_i v1] σ (some (z_i q.1)) (Z_I q.1) q.2 := by
  refine am_of (by decide +kernel) (Nat.le_of_ble_eq_true rfl) (fun p e s m args below meth c X hr => ?_)
  refine aw_lv (lv' := [(0, .ref (ad 0)), (1, z_i v1)]) rfl ?_
  unfold f_X11_start at hf
  refine aw_aload_n X 0 dX11_start_0 rfl rfl ?_
  refine aw_getR X s_0 fX11_89 rfl dX11_start_1 ?_
  refine aw_iconst X dX11_start_4 ?_
  refine aw_iload_n X 1 dX11_start_5 rfl rfl ?_
  refine aw_iconst X dX11_start_6 ?_
  refine aw_iconst X dX11_start_7 ?_
  refine aw_lconst X (x := 0) dX11_start_8 (by decide) ?_
  obtain ⟨q1, e2, hf⟩ := z_bd hf
  refine aw_callV X [z_i 5, z_i v1, z_i 0, z_i 0, z_v 0] [] [] cX11_259 (sX8_0 755 (by decide)) ciX8 (C_X8_put l D cA sa ad bs 755 (by decide) 5 (z_lit (x := 5) (by decide)) v1 c_v1 0 (z_lit (x := 0) (by decide)) 0 (z_lit (x := 0) (by decide)) 0 (z_litL (x := 0) (by decide)) σ q1 e2) rfl ⟨(Nat.le_of_ble_eq_true rfl), (Nat.le_of_ble_eq_true rfl), (Nat.le_of_ble_eq_true rfl), (Nat.le_of_ble_eq_true rfl)⟩ rfl (Nat.le_of_ble_eq_true rfl) rfl dX11_start_9 (fun p3 => ?_)
  refine aw_aload_n X 0 dX11_start_12 rfl rfl ?_
  refine aw_aload_n X 0 dX11_start_13 rfl rfl ?_
  refine aw_getR X s_0 fX11_89 rfl dX11_start_14 ?_
  obtain ⟨q4, e5, hf⟩ := z_bd hf
  refine aw_callV X [.ref (ad 755)] [] [z_i q4.1] cX11_263 s_0 ciX11 (C_X11_doOrRefuse l D cA sa ad bs 755 (by decide) q1 q4 e5) rfl ⟨(Nat.le_of_ble_eq_true rfl), (Nat.le_of_ble_eq_true rfl), (Nat.le_of_ble_eq_true rfl), (Nat.le_of_ble_eq_true rfl)⟩ rfl (Nat.le_of_ble_eq_true rfl) rfl dX11_start_17 (fun p6 => ?_)
  obtain rfl := Option.some.inj hf
  exact aw_iret X p6 hr rfl dX11_start_20
-- SpeedDesk.settle()I
section S_X11_settle
variable {p : Program} {l : Launch} {e : Env} {s : State} {m : MethodId} {args : Array Value} {below : List Frame} {meth : Method} {c : Code} {D : va_G} {cA : Nat → ClassId} {sa ad : Nat → Nat} {bs : Nat} {q : (Int × (Nat → Nat → Int))}

end S_X11_settle
set_option maxHeartbeats 4000000 in
set_option maxRecDepth 100000 in
theorem C_X11_settle (l : Launch) (D : va_G) (cA : Nat → ClassId) (sa ad : Nat → Nat) (bs : Nat)  (σ : Nat → Nat → Int) (q : (Int × (Nat → Nat → Int))) (hf : f_X11_settle σ = some q) : AM l D cA sa ad bs 788 SHp yX11_settle cX11_settle 1 (some .int) 7 [.ref (ad 0)] σ (some (z_i q.1)) (Z_I q.1) q.2 := by
  refine am_of (by decide +kernel) (Nat.le_of_ble_eq_true rfl) (fun p e s m args below meth c X hr => ?_)
  refine aw_lv (lv' := [(0, .ref (ad 0))]) rfl ?_
  unfold f_X11_settle at hf
  refine aw_aload_n X 0 dX11_settle_0 rfl rfl ?_
  refine aw_getR X s_0 fX11_89 rfl dX11_settle_1 ?_
  refine aw_bipush X dX11_settle_4 (by decide) ?_
  refine aw_iconst X dX11_settle_6 ?_
  refine aw_iconst X dX11_settle_7 ?_
  refine aw_iconst X dX11_settle_8 ?_
  refine aw_lconst X (x := 0) dX11_settle_9 (by decide) ?_
  obtain ⟨q1, e2, hf⟩ := z_bd hf
  refine aw_callV X [z_i 6, z_i 0, z_i 0, z_i 0, z_v 0] [] [] cX11_259 (sX8_0 755 (by decide)) ciX8 (C_X8_put l D cA sa ad bs 755 (by decide) 6 (z_lit (x := 6) (by decide)) 0 (z_lit (x := 0) (by decide)) 0 (z_lit (x := 0) (by decide)) 0 (z_lit (x := 0) (by decide)) 0 (z_litL (x := 0) (by decide)) σ q1 e2) rfl ⟨(Nat.le_of_ble_eq_true rfl), (Nat.le_of_ble_eq_true rfl), (Nat.le_of_ble_eq_true rfl), (Nat.le_of_ble_eq_true rfl)⟩ rfl (Nat.le_of_ble_eq_true rfl) rfl dX11_settle_10 (fun p3 => ?_)
  refine aw_aload_n X 0 dX11_settle_13 rfl rfl ?_
  refine aw_aload_n X 0 dX11_settle_14 rfl rfl ?_
  refine aw_getR X s_0 fX11_89 rfl dX11_settle_15 ?_
  obtain ⟨q4, e5, hf⟩ := z_bd hf
  refine aw_callV X [.ref (ad 755)] [] [z_i q4.1] cX11_263 s_0 ciX11 (C_X11_doOrRefuse l D cA sa ad bs 755 (by decide) q1 q4 e5) rfl ⟨(Nat.le_of_ble_eq_true rfl), (Nat.le_of_ble_eq_true rfl), (Nat.le_of_ble_eq_true rfl), (Nat.le_of_ble_eq_true rfl)⟩ rfl (Nat.le_of_ble_eq_true rfl) rfl dX11_settle_18 (fun p6 => ?_)
  obtain rfl := Option.some.inj hf
  exact aw_iret X p6 hr rfl dX11_settle_21
-- SpeedDesk.draw(I)I
section S_X11_draw
variable {p : Program} {l : Launch} {e : Env} {s : State} {m : MethodId} {args : Array Value} {below : List Frame} {meth : Method} {c : Code} {D : va_G} {cA : Nat → ClassId} {sa ad : Nat → Nat} {bs : Nat} {q : (Int × (Nat → Nat → Int))}

end S_X11_draw
set_option maxHeartbeats 4000000 in
set_option maxRecDepth 100000 in
theorem C_X11_draw (l : Launch) (D : va_G) (cA : Nat → ClassId) (sa ad : Nat → Nat) (bs : Nat) (v1 : Int) (c_v1 : Z_I v1) (σ : Nat → Nat → Int) (q : (Int × (Nat → Nat → Int))) (hf : f_X11_draw v1 σ = some q) : AM l D cA sa ad bs 788 SHp yX11_draw cX11_draw 2 (some .int) 0 [.ref (ad 0), z_i v1] σ (some (z_i q.1)) (Z_I q.1) q.2 := by
  refine am_of (by decide +kernel) (Nat.le_of_ble_eq_true rfl) (fun p e s m args below meth c X hr => ?_)
  refine aw_lv (lv' := [(0, .ref (ad 0)), (1, z_i v1)]) rfl ?_
  unfold f_X11_draw at hf
  refine aw_aload_n X 0 dX11_draw_0 rfl rfl ?_
  refine aw_aload_n X 0 dX11_draw_1 rfl rfl ?_
  refine aw_getL X s_0 fX11_270 rfl dX11_draw_2 (fun c1 => ?_)
  refine aw_ldc2 X (x := 6364136223846793005) dX11_draw_5 kX11_471 (by decide) ?_
  refine aw_lmul X dX11_draw_8 ?_
  refine aw_ldc2 X (x := 1442695040888963407) dX11_draw_9 kX11_473 (by decide) ?_
  refine aw_ladd X dX11_draw_12 ?_
  refine aw_putL X s_0 pX11_270 rfl (z_l_in _) dX11_draw_13 ?_
  refine aw_iload_n X 1 dX11_draw_16 rfl rfl ?_
  refine aw_iconst X dX11_draw_17 ?_
  refine aw_icmp_ge X (tgt := 25) c_v1 (z_lit (x := 1) (by decide)) dX11_draw_18 (by decide) (fun h2 => ?_) (fun h2 => ?_)
  · rw [if_pos h2] at hf
    refine aw_aload_n X 0 dX11_draw_25 rfl rfl ?_
    refine aw_getL X s_0 fX11_270 rfl dX11_draw_26 (fun c3 => ?_)
    refine aw_bipush X dX11_draw_29 (by decide) ?_
    refine aw_lushr X dX11_draw_31 ?_
    refine aw_iload_n X 1 dX11_draw_32 rfl rfl ?_
    refine aw_i2l X c_v1 dX11_draw_33 ?_
    obtain ⟨g4, hf⟩ := z_gd hf
    refine aw_lrem X (z_ushrL_in _ _) (z_IL c_v1) g4 dX11_draw_34 ?_
    refine aw_l2i X dX11_draw_35 ?_
    obtain rfl := Option.some.inj hf
    exact aw_iret X (z_w_in _) hr rfl dX11_draw_36
  · rw [if_neg h2] at hf
    refine aw_iconst X dX11_draw_21 ?_
    refine aw_goto X (tgt := 36) dX11_draw_22 (by decide) ?_
    obtain rfl := Option.some.inj hf
    exact aw_iret X (z_lit (x := 0) (by decide)) hr rfl dX11_draw_36
-- SpeedDesk.drawTaskAct(I)V
section S_X11_drawTaskAct
variable {p : Program} {l : Launch} {e : Env} {s : State} {m : MethodId} {args : Array Value} {below : List Frame} {meth : Method} {c : Code} {D : va_G} {cA : Nat → ClassId} {sa ad : Nat → Nat} {bs : Nat} {q : (Nat → Nat → Int)}
set_option maxHeartbeats 4000000 in
set_option maxRecDepth 100000 in
theorem A_X11_drawTaskAct_38 (X : AX p s m args meth c D cA sa bs cX11_drawTaskAct 3 RX11) (hr : meth.sig.returnType = none) (v2 : Int) (c_v2 : Z_I v2) (t0 : Int) (c_t0 : Z_I t0) (b1 : Nat) (h_b1 : b1 ∈ ax_iX8) (σ : Nat → Nat → Int) (hf : f_X11_drawTaskAct_38 v2 t0 b1 σ = some q) : AW p l e (ax_rm 2 0 0) s m args below meth c D cA ad bs 788 SHp 0 0 (ax_MQ below args s D cA ad bs 788 SHp 0 0 none True q) 3 38 [(2, z_i v2)] [z_i t0, .ref (ad b1)] σ := by
  unfold f_X11_drawTaskAct_38 at hf
  refine aw_iload_n X 0 dX11_drawTaskAct_38 rfl rfl ?_
  refine aw_iconst X dX11_drawTaskAct_39 ?_
  refine aw_iconst X dX11_drawTaskAct_40 ?_
  refine aw_lconst X (x := 0) dX11_drawTaskAct_41 (by decide) ?_
  obtain ⟨q19, e20, hf⟩ := z_bd hf
  refine aw_callV X [z_i t0, z_i v2, z_i 0, z_i 0, z_v 0] [] [] cX11_259 (sX8_0 b1 h_b1) ciX8 (C_X8_put l D cA sa ad bs b1 h_b1 t0 c_t0 v2 c_v2 0 (z_lit (x := 0) (by decide)) 0 (z_lit (x := 0) (by decide)) 0 (z_litL (x := 0) (by decide)) σ q19 e20) rfl ⟨(Nat.le_of_ble_eq_true rfl), (Nat.le_of_ble_eq_true rfl), (Nat.le_of_ble_eq_true rfl), (Nat.le_of_ble_eq_true rfl)⟩ rfl (Nat.le_of_ble_eq_true rfl) rfl dX11_drawTaskAct_42 (fun p21 => ?_)
  refine aw_goto X (tgt := 70) dX11_drawTaskAct_45 (by decide) ?_
  obtain rfl := Option.some.inj hf
  exact aw_vret X trivial hr rfl dX11_drawTaskAct_70
end S_X11_drawTaskAct
set_option maxHeartbeats 4000000 in
set_option maxRecDepth 100000 in
theorem C_X11_drawTaskAct (l : Launch) (D : va_G) (cA : Nat → ClassId) (sa ad : Nat → Nat) (bs : Nat) (v1 : Int) (c_v1 : Z_I v1) (σ : Nat → Nat → Int) (q : (Nat → Nat → Int)) (hf : f_X11_drawTaskAct v1 σ = some q) : AM l D cA sa ad bs 788 SHp yX11_drawTaskAct cX11_drawTaskAct 3 none 2 [.ref (ad 0), z_i v1] σ none True q := by
  refine am_of (by decide +kernel) (Nat.le_of_ble_eq_true rfl) (fun p e s m args below meth c X hr => ?_)
  refine aw_lv (lv' := [(0, .ref (ad 0)), (1, z_i v1)]) rfl ?_
  unfold f_X11_drawTaskAct at hf
  refine aw_aload_n X 0 dX11_drawTaskAct_0 rfl rfl ?_
  refine aw_aload_n X 0 dX11_drawTaskAct_1 rfl rfl ?_
  obtain ⟨g1, hf⟩ := z_gd hf
  refine aw_getV X s_0 fX11_24 rfl dX11_drawTaskAct_2 ?_
  refine aw_getI X (sX1_0 ((σ 0 2).toNat) g1) fX11_414 rfl dX11_drawTaskAct_5 (fun c2 => ?_)
  obtain ⟨q3, e4, hf⟩ := z_bd hf
  refine aw_callV X [z_i (σ ((σ 0 2).toNat) 1)] [] [z_i q3.1] cX11_465 s_0 ciX11 (C_X11_draw l D cA sa ad bs (σ ((σ 0 2).toNat) 1) c2 σ q3 e4) rfl ⟨(Nat.le_of_ble_eq_true rfl), (Nat.le_of_ble_eq_true rfl), (Nat.le_of_ble_eq_true rfl), (Nat.le_of_ble_eq_true rfl)⟩ rfl (Nat.le_of_ble_eq_true rfl) rfl dX11_drawTaskAct_8 (fun p5 => ?_)
  refine aw_istore_n X [(2, z_i q3.1), (0, .ref (ad 0)), (1, z_i v1)] dX11_drawTaskAct_11 rfl (by decide) rfl ?_
  refine aw_iload_n X 2 dX11_drawTaskAct_12 rfl rfl ?_
  refine aw_bipush X dX11_drawTaskAct_13 (by decide) ?_
  refine aw_icmp_ne X (tgt := 48) c_v1 (z_lit (x := 6) (by decide)) dX11_drawTaskAct_15 (by decide) (fun h6 => ?_) (fun h6 => ?_)
  · rw [if_neg h6] at hf
    refine aw_aload_n X 1 dX11_drawTaskAct_48 rfl rfl ?_
    refine aw_getR X s_0 fX11_89 rfl dX11_drawTaskAct_49 ?_
    refine aw_iconst X dX11_drawTaskAct_52 ?_
    refine aw_iload_n X 0 dX11_drawTaskAct_53 rfl rfl ?_
    refine aw_aload_n X 1 dX11_drawTaskAct_54 rfl rfl ?_
    refine aw_aload_n X 1 dX11_drawTaskAct_55 rfl rfl ?_
    obtain ⟨g7, hf⟩ := z_gd hf
    refine aw_getV X s_0 fX11_24 rfl dX11_drawTaskAct_56 ?_
    refine aw_getI X (sX1_0 ((q3.2 0 2).toNat) g7) fX11_150 rfl dX11_drawTaskAct_59 (fun c8 => ?_)
    obtain ⟨q9, e10, hf⟩ := z_bd hf
    refine aw_callV X [z_i (q3.2 ((q3.2 0 2).toNat) 2)] [z_i q3.1, z_i 1, .ref (ad 755)] [z_i q9.1, z_i q3.1, z_i 1, .ref (ad 755)] cX11_465 s_0 ciX11 (C_X11_draw l D cA sa ad bs (q3.2 ((q3.2 0 2).toNat) 2) c8 q3.2 q9 e10) rfl ⟨(Nat.le_of_ble_eq_true rfl), (Nat.le_of_ble_eq_true rfl), (Nat.le_of_ble_eq_true rfl), (Nat.le_of_ble_eq_true rfl)⟩ rfl (Nat.le_of_ble_eq_true rfl) rfl dX11_drawTaskAct_62 (fun p11 => ?_)
    refine aw_iconst X dX11_drawTaskAct_65 ?_
    refine aw_lconst X (x := 0) dX11_drawTaskAct_66 (by decide) ?_
    obtain ⟨q12, e13, hf⟩ := z_bd hf
    refine aw_callV X [z_i 1, z_i q3.1, z_i q9.1, z_i 0, z_v 0] [] [] cX11_259 (sX8_0 755 (by decide)) ciX8 (C_X8_put l D cA sa ad bs 755 (by decide) 1 (z_lit (x := 1) (by decide)) q3.1 p5 q9.1 p11 0 (z_lit (x := 0) (by decide)) 0 (z_litL (x := 0) (by decide)) q9.2 q12 e13) rfl ⟨(Nat.le_of_ble_eq_true rfl), (Nat.le_of_ble_eq_true rfl), (Nat.le_of_ble_eq_true rfl), (Nat.le_of_ble_eq_true rfl)⟩ rfl (Nat.le_of_ble_eq_true rfl) rfl dX11_drawTaskAct_67 (fun p14 => ?_)
    obtain rfl := Option.some.inj hf
    exact aw_vret X trivial hr rfl dX11_drawTaskAct_70
  · rw [if_pos h6] at hf
    refine aw_aload_n X 1 dX11_drawTaskAct_18 rfl rfl ?_
    refine aw_getR X s_0 fX11_89 rfl dX11_drawTaskAct_19 ?_
    refine aw_aload_n X 1 dX11_drawTaskAct_22 rfl rfl ?_
    refine aw_getR X s_0 fX11_42 rfl dX11_drawTaskAct_23 ?_
    refine aw_iload_n X 0 dX11_drawTaskAct_26 rfl rfl ?_
    obtain ⟨q15, e16, hf⟩ := z_bd hf
    refine aw_callV X [z_i q3.1] [.ref (ad 755)] [z_i q15, .ref (ad 755)] cX11_451 (sX7_0 173 (by decide)) ciX7 (C_X7_isStopped l D cA sa ad bs 173 (by decide) q3.1 p5 q3.2 q15 e16) rfl ⟨(Nat.le_of_ble_eq_true rfl), (Nat.le_of_ble_eq_true rfl), (Nat.le_of_ble_eq_true rfl), (Nat.le_of_ble_eq_true rfl)⟩ rfl (Nat.le_of_ble_eq_true rfl) rfl dX11_drawTaskAct_27 (fun p17 => ?_)
    refine aw_if_eq X (tgt := 37) (z_zI p17) dX11_drawTaskAct_30 (by decide) (fun h18 => ?_) (fun h18 => ?_)
    · simp only [if_pos h18] at hf
      refine aw_iconst X dX11_drawTaskAct_37 ?_
      refine aw_sub [0] rfl ?_
      exact A_X11_drawTaskAct_38 X hr q3.1 p5 4 (z_lit (x := 4) (by decide)) 755 (by decide) q3.2 hf
    · simp only [if_neg h18] at hf
      refine aw_iconst X dX11_drawTaskAct_33 ?_
      refine aw_goto X (tgt := 38) dX11_drawTaskAct_34 (by decide) ?_
      refine aw_sub [0] rfl ?_
      exact A_X11_drawTaskAct_38 X hr q3.1 p5 5 (z_lit (x := 5) (by decide)) 755 (by decide) q3.2 hf
