-- SpeedDesk.doOneYear()V
section S_X11_doOneYear
variable {p : Program} {l : Launch} {e : Env} {s : State} {m : MethodId} {args : Array Value} {below : List Frame} {meth : Method} {c : Code} {D : va_G} {cA : Nat → ClassId} {sa ad : Nat → Nat} {bs : Nat} {q : (Nat → Nat → Int)}
set_option maxHeartbeats 4000000 in
set_option maxRecDepth 100000 in
theorem A_X11_doOneYear_71 (X : AX p s m args meth c D cA sa bs cX11_doOneYear 2 RX11) (hr : meth.sig.returnType = none)  (σ : Nat → Nat → Int) (hf : f_X11_doOneYear_71 σ = some q) : AW p l e (ax_rm 6 0 0) s m args below meth c D cA ad bs 788 SHp 0 0 (ax_MQ below args s D cA ad bs 788 SHp 0 0 none True q) 2 71 [(0, .ref (ad 0))] [] σ := by
  unfold f_X11_doOneYear_71 at hf
  refine aw_aload_n X 0 dX11_doOneYear_71 rfl rfl ?_
  refine aw_getR X s_0 fX11_72 rfl dX11_doOneYear_72 ?_
  refine aw_aload_n X 0 dX11_doOneYear_75 rfl rfl ?_
  obtain ⟨g21, hf⟩ := z_gd hf
  refine aw_getV X s_0 fX11_24 rfl dX11_doOneYear_76 ?_
  refine aw_aload_n X 0 dX11_doOneYear_79 rfl rfl ?_
  refine aw_getR X s_0 fX11_42 rfl dX11_doOneYear_80 ?_
  refine aw_aload_n X 0 dX11_doOneYear_83 rfl rfl ?_
  refine aw_getR X s_0 fX11_89 rfl dX11_doOneYear_84 ?_
  obtain ⟨q22, e23, hf⟩ := z_bd hf
  refine aw_callV X [.ref (ad ((σ 0 2).toNat)), .ref (ad 173), .ref (ad 755)] [] [z_i q22.1] cX11_382 s_742 ciX0 (C_X0_refusalOf l D cA sa ad bs ((σ 0 2).toNat) g21 173 (by decide) 755 (by decide) σ q22 e23) rfl ⟨(Nat.le_of_ble_eq_true rfl), (Nat.le_of_ble_eq_true rfl), (Nat.le_of_ble_eq_true rfl), (Nat.le_of_ble_eq_true rfl)⟩ rfl (Nat.le_of_ble_eq_true rfl) rfl dX11_doOneYear_87 (fun p24 => ?_)
  refine aw_iconst X dX11_doOneYear_90 ?_
  refine aw_icmp_ne X (tgt := 103) p24 (z_lit (x := (-1)) (by decide)) dX11_doOneYear_91 (by decide) (fun h25 => ?_) (fun h25 => ?_)
  · rw [if_neg h25] at hf
    obtain rfl := Option.some.inj hf
    exact aw_vret X trivial hr rfl dX11_doOneYear_103
  · rw [if_pos h25] at hf
    refine aw_aload_n X 0 dX11_doOneYear_94 rfl rfl ?_
    refine aw_aload_n X 0 dX11_doOneYear_95 rfl rfl ?_
    refine aw_getR X s_0 fX11_89 rfl dX11_doOneYear_96 ?_
    obtain ⟨q26, e27, hf⟩ := z_bd hf
    refine aw_callV X [.ref (ad 755)] [] [z_i q26.1] cX11_386 s_0 ciX11 (C_X11_doAct l D cA sa ad bs 755 (by decide) q22.2 q26 e27) rfl ⟨(Nat.le_of_ble_eq_true rfl), (Nat.le_of_ble_eq_true rfl), (Nat.le_of_ble_eq_true rfl), (Nat.le_of_ble_eq_true rfl)⟩ rfl (Nat.le_of_ble_eq_true rfl) rfl dX11_doOneYear_99 (fun p28 => ?_)
    refine aw_pop X dX11_doOneYear_102 rfl ?_
    obtain rfl := Option.some.inj hf
    exact aw_vret X trivial hr rfl dX11_doOneYear_103
end S_X11_doOneYear
set_option maxHeartbeats 4000000 in
set_option maxRecDepth 100000 in
theorem C_X11_doOneYear (l : Launch) (D : va_G) (cA : Nat → ClassId) (sa ad : Nat → Nat) (bs : Nat)  (σ : Nat → Nat → Int) (q : (Nat → Nat → Int)) (hf : f_X11_doOneYear σ = some q) : AM l D cA sa ad bs 788 SHp yX11_doOneYear cX11_doOneYear 2 none 6 [.ref (ad 0)] σ none True q := by
  refine am_of (by decide +kernel) (Nat.le_of_ble_eq_true rfl) (fun p e s m args below meth c X hr => ?_)
  refine aw_lv (lv' := [(0, .ref (ad 0))]) rfl ?_
  unfold f_X11_doOneYear at hf
  refine aw_aload_n X 0 dX11_doOneYear_0 rfl rfl ?_
  refine aw_bipush X dX11_doOneYear_1 (by decide) ?_
  obtain ⟨q1, e2, hf⟩ := z_bd hf
  refine aw_callV X [z_i 8] [] [z_i q1.1] cX11_465 s_0 ciX11 (C_X11_draw l D cA sa ad bs 8 (z_lit (x := 8) (by decide)) σ q1 e2) rfl ⟨(Nat.le_of_ble_eq_true rfl), (Nat.le_of_ble_eq_true rfl), (Nat.le_of_ble_eq_true rfl), (Nat.le_of_ble_eq_true rfl)⟩ rfl (Nat.le_of_ble_eq_true rfl) rfl dX11_doOneYear_3 (fun p3 => ?_)
  refine aw_istore_n X [(1, z_i q1.1), (0, .ref (ad 0))] dX11_doOneYear_6 rfl (by decide) rfl ?_
  refine aw_iload_n X 0 dX11_doOneYear_7 rfl rfl ?_
  refine aw_iconst X dX11_doOneYear_8 ?_
  refine aw_icmp_gt X (tgt := 33) p3 (z_lit (x := 3) (by decide)) dX11_doOneYear_9 (by decide) (fun h4 => ?_) (fun h4 => ?_)
  · rw [if_pos h4] at hf
    refine aw_iload_n X 0 dX11_doOneYear_33 rfl rfl ?_
    refine aw_bipush X dX11_doOneYear_34 (by decide) ?_
    refine aw_icmp_ne X (tgt := 55) p3 (z_lit (x := 7) (by decide)) dX11_doOneYear_36 (by decide) (fun h5 => ?_) (fun h5 => ?_)
    · rw [if_neg h5] at hf
      refine aw_aload_n X 1 dX11_doOneYear_55 rfl rfl ?_
      obtain ⟨g6, hf⟩ := z_gd hf
      refine aw_getV X s_0 fX11_24 rfl dX11_doOneYear_56 ?_
      refine aw_getI X (sX1_0 ((q1.2 0 2).toNat) g6) fX11_414 rfl dX11_doOneYear_59 (fun c7 => ?_)
      refine aw_if_ne X (tgt := 66) c7 dX11_doOneYear_62 (by decide) (fun h8 => ?_) (fun h8 => ?_)
      · rw [if_neg h8] at hf
        refine aw_aload_n X 1 dX11_doOneYear_66 rfl rfl ?_
        refine aw_iload_n X 0 dX11_doOneYear_67 rfl rfl ?_
        obtain ⟨q9, e10, hf⟩ := z_bd hf
        refine aw_callV X [z_i q1.1] [] [] cX11_468 s_0 ciX11 (C_X11_drawTaskAct l D cA sa ad bs q1.1 p3 q1.2 q9 e10) rfl ⟨(Nat.le_of_ble_eq_true rfl), (Nat.le_of_ble_eq_true rfl), (Nat.le_of_ble_eq_true rfl), (Nat.le_of_ble_eq_true rfl)⟩ rfl (Nat.le_of_ble_eq_true rfl) rfl dX11_doOneYear_68 (fun p11 => ?_)
        refine aw_sub [1] rfl ?_
        exact A_X11_doOneYear_71 X hr q9 hf
      · rw [if_pos h8] at hf
        obtain rfl := Option.some.inj hf
        exact aw_vret X trivial hr rfl dX11_doOneYear_65
    · rw [if_pos h5] at hf
      refine aw_aload_n X 1 dX11_doOneYear_39 rfl rfl ?_
      refine aw_getR X s_0 fX11_89 rfl dX11_doOneYear_40 ?_
      refine aw_bipush X dX11_doOneYear_43 (by decide) ?_
      refine aw_iconst X dX11_doOneYear_45 ?_
      refine aw_iconst X dX11_doOneYear_46 ?_
      refine aw_iconst X dX11_doOneYear_47 ?_
      refine aw_lconst X (x := 0) dX11_doOneYear_48 (by decide) ?_
      obtain ⟨q12, e13, hf⟩ := z_bd hf
      refine aw_callV X [z_i 6, z_i 0, z_i 0, z_i 0, z_v 0] [] [] cX11_259 (sX8_0 755 (by decide)) ciX8 (C_X8_put l D cA sa ad bs 755 (by decide) 6 (z_lit (x := 6) (by decide)) 0 (z_lit (x := 0) (by decide)) 0 (z_lit (x := 0) (by decide)) 0 (z_lit (x := 0) (by decide)) 0 (z_litL (x := 0) (by decide)) q1.2 q12 e13) rfl ⟨(Nat.le_of_ble_eq_true rfl), (Nat.le_of_ble_eq_true rfl), (Nat.le_of_ble_eq_true rfl), (Nat.le_of_ble_eq_true rfl)⟩ rfl (Nat.le_of_ble_eq_true rfl) rfl dX11_doOneYear_49 (fun p14 => ?_)
      refine aw_goto X (tgt := 71) dX11_doOneYear_52 (by decide) ?_
      refine aw_sub [1] rfl ?_
      exact A_X11_doOneYear_71 X hr q12 hf
  · rw [if_neg h4] at hf
    refine aw_aload_n X 1 dX11_doOneYear_12 rfl rfl ?_
    refine aw_getR X s_0 fX11_89 rfl dX11_doOneYear_13 ?_
    refine aw_iconst X dX11_doOneYear_16 ?_
    refine aw_aload_n X 1 dX11_doOneYear_17 rfl rfl ?_
    refine aw_iconst X dX11_doOneYear_18 ?_
    obtain ⟨q15, e16, hf⟩ := z_bd hf
    refine aw_callV X [z_i 5] [z_i 0, .ref (ad 755)] [z_i q15.1, z_i 0, .ref (ad 755)] cX11_465 s_0 ciX11 (C_X11_draw l D cA sa ad bs 5 (z_lit (x := 5) (by decide)) q1.2 q15 e16) rfl ⟨(Nat.le_of_ble_eq_true rfl), (Nat.le_of_ble_eq_true rfl), (Nat.le_of_ble_eq_true rfl), (Nat.le_of_ble_eq_true rfl)⟩ rfl (Nat.le_of_ble_eq_true rfl) rfl dX11_doOneYear_19 (fun p17 => ?_)
    refine aw_iconst X dX11_doOneYear_22 ?_
    refine aw_iadd X dX11_doOneYear_23 ?_
    refine aw_iconst X dX11_doOneYear_24 ?_
    refine aw_iconst X dX11_doOneYear_25 ?_
    refine aw_lconst X (x := 0) dX11_doOneYear_26 (by decide) ?_
    obtain ⟨q18, e19, hf⟩ := z_bd hf
    refine aw_callV X [z_i 0, z_i (z_w (q15.1 + 1)), z_i 0, z_i 0, z_v 0] [] [] cX11_259 (sX8_0 755 (by decide)) ciX8 (C_X8_put l D cA sa ad bs 755 (by decide) 0 (z_lit (x := 0) (by decide)) (z_w (q15.1 + 1)) (z_w_in _) 0 (z_lit (x := 0) (by decide)) 0 (z_lit (x := 0) (by decide)) 0 (z_litL (x := 0) (by decide)) q15.2 q18 e19) rfl ⟨(Nat.le_of_ble_eq_true rfl), (Nat.le_of_ble_eq_true rfl), (Nat.le_of_ble_eq_true rfl), (Nat.le_of_ble_eq_true rfl)⟩ rfl (Nat.le_of_ble_eq_true rfl) rfl dX11_doOneYear_27 (fun p20 => ?_)
    refine aw_goto X (tgt := 71) dX11_doOneYear_30 (by decide) ?_
    refine aw_sub [1] rfl ?_
    exact A_X11_doOneYear_71 X hr q18 hf
-- SpeedDesk.years(IJ)I
section S_X11_years
variable {p : Program} {l : Launch} {e : Env} {s : State} {m : MethodId} {args : Array Value} {below : List Frame} {meth : Method} {c : Code} {D : va_G} {cA : Nat → ClassId} {sa ad : Nat → Nat} {bs : Nat} {q : (Int × (Nat → Nat → Int))}
set_option maxHeartbeats 4000000 in
set_option maxRecDepth 100000 in
theorem A_X11_years_31 (X : AX p s m args meth c D cA sa bs cX11_years 5 RX11) (hr : meth.sig.returnType = (some .int)) : ∀ (k : Nat) (v1 : Int) (c_v1 : Z_I v1) (v4 : Int) (c_v4 : Z_I v4) (σ : Nat → Nat → Int), f_X11_years_31 k v1 v4 σ = some q → AW p l e (ax_rm 7 0 0) s m args below meth c D cA ad bs 788 SHp 0 0 (ax_MQ below args s D cA ad bs 788 SHp 0 0 (some (z_i q.1)) (Z_I q.1) q.2) 5 31 [(0, .ref (ad 0)), (1, z_i v1), (4, z_i v4)] [] σ := by
  intro k
  induction k with
  | zero =>
    intro v1 c_v1 v4 c_v4 σ hf
    unfold f_X11_years_31 at hf
    cases hf
  | succ k ih =>
    intro v1 c_v1 v4 c_v4 σ hf
    unfold f_X11_years_31 at hf
    refine aw_iload X 2 dX11_years_31 rfl ?_
    refine aw_iload_n X 1 dX11_years_33 rfl rfl ?_
    refine aw_icmp_ge X (tgt := 47) c_v4 c_v1 dX11_years_34 (by decide) (fun h8 => ?_) (fun h8 => ?_)
    · rw [if_pos h8] at hf
      refine aw_aload_n X 0 dX11_years_47 rfl rfl ?_
      refine aw_getR X s_0 fX11_42 rfl dX11_years_48 ?_
      refine aw_getI X (sX7_0 173 (by decide)) fX11_277 rfl dX11_years_51 (fun c9 => ?_)
      obtain rfl := Option.some.inj hf
      exact aw_iret X c9 hr rfl dX11_years_54
    · rw [if_neg h8] at hf
      refine aw_aload_n X 0 dX11_years_37 rfl rfl ?_
      obtain ⟨q10, e11, hf⟩ := z_bd hf
      refine aw_callV X [] [] [] cX11_274 s_0 ciX11 (C_X11_doOneYear l D cA sa ad bs σ q10 e11) rfl ⟨(Nat.le_of_ble_eq_true rfl), (Nat.le_of_ble_eq_true rfl), (Nat.le_of_ble_eq_true rfl), (Nat.le_of_ble_eq_true rfl)⟩ rfl (Nat.le_of_ble_eq_true rfl) rfl dX11_years_38 (fun p12 => ?_)
      refine aw_iinc X 2 [(4, z_i (z_w (v4 + 1))), (0, .ref (ad 0)), (1, z_i v1)] dX11_years_41 rfl (by decide) rfl ?_
      refine aw_goto X (tgt := 31) dX11_years_44 (by decide) ?_
      refine aw_sub [1, 2, 0] rfl ?_
      exact ih v1 c_v1 (z_w (v4 + 1)) (z_w_in _) q10 hf
end S_X11_years
set_option maxHeartbeats 4000000 in
set_option maxRecDepth 100000 in
theorem C_X11_years (l : Launch) (D : va_G) (cA : Nat → ClassId) (sa ad : Nat → Nat) (bs : Nat) (v1 : Int) (c_v1 : Z_I v1) (v2 : Int) (c_v2 : Z_L v2) (σ : Nat → Nat → Int) (q : (Int × (Nat → Nat → Int))) (hf : f_X11_years v1 v2 σ = some q) : AM l D cA sa ad bs 788 SHp yX11_years cX11_years 5 (some .int) 7 [.ref (ad 0), z_i v1, z_v v2] σ (some (z_i q.1)) (Z_I q.1) q.2 := by
  refine am_of (by decide +kernel) (Nat.le_of_ble_eq_true rfl) (fun p e s m args below meth c X hr => ?_)
  refine aw_lv (lv' := [(0, .ref (ad 0)), (1, z_i v1), (2, z_v v2)]) rfl ?_
  unfold f_X11_years at hf
  refine aw_aload_n X 0 dX11_years_0 rfl rfl ?_
  obtain ⟨g1, hf⟩ := z_gd hf
  refine aw_getV X s_0 fX11_24 rfl dX11_years_1 ?_
  obtain ⟨q2, e3, hf⟩ := z_bd hf
  refine aw_callV X [] [] [z_i q2] cX11_140 (sX1_0 ((σ 0 2).toNat) g1) ciX1 (C_X1_isTold l D cA sa ad bs ((σ 0 2).toNat) g1 σ q2 e3) rfl ⟨(Nat.le_of_ble_eq_true rfl), (Nat.le_of_ble_eq_true rfl), (Nat.le_of_ble_eq_true rfl), (Nat.le_of_ble_eq_true rfl)⟩ rfl (Nat.le_of_ble_eq_true rfl) rfl dX11_years_4 (fun p4 => ?_)
  refine aw_if_eq X (tgt := 21) (z_zI p4) dX11_years_7 (by decide) (fun h5 => ?_) (fun h5 => ?_)
  · rw [if_pos h5] at hf
    refine aw_iconst X dX11_years_21 ?_
    obtain rfl := Option.some.inj hf
    exact aw_iret X (z_lit (x := (-1)) (by decide)) hr rfl dX11_years_22
  · rw [if_neg h5] at hf
    refine aw_iload_n X 1 dX11_years_10 rfl rfl ?_
    refine aw_iconst X dX11_years_11 ?_
    refine aw_icmp_lt X (tgt := 21) c_v1 (z_lit (x := 1) (by decide)) dX11_years_12 (by decide) (fun h6 => ?_) (fun h6 => ?_)
    · rw [if_pos h6] at hf
      refine aw_iconst X dX11_years_21 ?_
      obtain rfl := Option.some.inj hf
      exact aw_iret X (z_lit (x := (-1)) (by decide)) hr rfl dX11_years_22
    · rw [if_neg h6] at hf
      refine aw_iload_n X 1 dX11_years_15 rfl rfl ?_
      refine aw_bipush X dX11_years_16 (by decide) ?_
      refine aw_icmp_le X (tgt := 23) c_v1 (z_lit (x := 40) (by decide)) dX11_years_18 (by decide) (fun h7 => ?_) (fun h7 => ?_)
      · rw [if_pos h7] at hf
        refine aw_aload_n X 0 dX11_years_23 rfl rfl ?_
        refine aw_lload_n X 2 dX11_years_24 rfl rfl ?_
        refine aw_putL X s_0 pX11_270 rfl c_v2 dX11_years_25 ?_
        refine aw_iconst X dX11_years_28 ?_
        refine aw_istore X [(4, z_i 0), (0, .ref (ad 0)), (1, z_i v1), (2, z_v v2)] dX11_years_29 (by decide) rfl ?_
        refine aw_sub [1, 2, 0] rfl ?_
        exact A_X11_years_31 X hr 100000 v1 c_v1 0 (z_lit (x := 0) (by decide)) (u2 σ 0 18 v2) hf
      · rw [if_neg h7] at hf
        refine aw_iconst X dX11_years_21 ?_
        obtain rfl := Option.some.inj hf
        exact aw_iret X (z_lit (x := (-1)) (by decide)) hr rfl dX11_years_22
-- SpeedDesk.status(I)I
section S_X11_status
variable {p : Program} {l : Launch} {e : Env} {s : State} {m : MethodId} {args : Array Value} {below : List Frame} {meth : Method} {c : Code} {D : va_G} {cA : Nat → ClassId} {sa ad : Nat → Nat} {bs : Nat} {q : Int}

end S_X11_status
set_option maxHeartbeats 4000000 in
set_option maxRecDepth 100000 in
theorem C_X11_status (l : Launch) (D : va_G) (cA : Nat → ClassId) (sa ad : Nat → Nat) (bs : Nat) (v1 : Int) (c_v1 : Z_I v1) (σ : Nat → Nat → Int) (q : Int) (hf : f_X11_status v1 σ = some q) : AM l D cA sa ad bs 788 SHp yX11_status cX11_status 2 (some .int) 0 [.ref (ad 0), z_i v1] σ (some (z_i q)) (Z_I q) σ := by
  refine am_of (by decide +kernel) (Nat.le_of_ble_eq_true rfl) (fun p e s m args below meth c X hr => ?_)
  refine aw_lv (lv' := [(0, .ref (ad 0)), (1, z_i v1)]) rfl ?_
  unfold f_X11_status at hf
  refine aw_iload_n X 1 dX11_status_0 rfl rfl ?_
  refine aw_if_lt X (tgt := 22) c_v1 dX11_status_1 (by decide) (fun h1 => ?_) (fun h1 => ?_)
  · rw [if_pos h1] at hf
    refine aw_iconst X dX11_status_22 ?_
    obtain rfl := Option.some.inj hf
    exact aw_iret X (z_lit (x := (-1)) (by decide)) hr rfl dX11_status_23
  · rw [if_neg h1] at hf
    refine aw_iload_n X 1 dX11_status_4 rfl rfl ?_
    refine aw_aload_n X 0 dX11_status_5 rfl rfl ?_
    refine aw_getR X s_0 fX11_93 rfl dX11_status_6 ?_
    refine aw_alenI X (x := 4) s_757 rfl dX11_status_9 ?_
    refine aw_icmp_ge X (tgt := 22) c_v1 (z_lit (x := 4) (by decide)) dX11_status_10 (by decide) (fun h2 => ?_) (fun h2 => ?_)
    · rw [if_pos h2] at hf
      refine aw_iconst X dX11_status_22 ?_
      obtain rfl := Option.some.inj hf
      exact aw_iret X (z_lit (x := (-1)) (by decide)) hr rfl dX11_status_23
    · rw [if_neg h2] at hf
      refine aw_aload_n X 0 dX11_status_13 rfl rfl ?_
      refine aw_getR X s_0 fX11_93 rfl dX11_status_14 ?_
      refine aw_iload_n X 1 dX11_status_17 rfl rfl ?_
      obtain ⟨g3, hf⟩ := z_gd hf
      refine aw_iald X (j := v1.toNat) s_757 c_v1 g3.1 g3.2 rfl dX11_status_18 (fun c4 => ?_)
      refine aw_goto X (tgt := 23) dX11_status_19 (by decide) ?_
      obtain rfl := Option.some.inj hf
      exact aw_iret X c4 hr rfl dX11_status_23
-- SpeedDesk.undo()I
section S_X11_undo
variable {p : Program} {l : Launch} {e : Env} {s : State} {m : MethodId} {args : Array Value} {below : List Frame} {meth : Method} {c : Code} {D : va_G} {cA : Nat → ClassId} {sa ad : Nat → Nat} {bs : Nat} {q : (Int × (Nat → Nat → Int))}

end S_X11_undo
set_option maxHeartbeats 4000000 in
set_option maxRecDepth 100000 in
theorem C_X11_undo (l : Launch) (D : va_G) (cA : Nat → ClassId) (sa ad : Nat → Nat) (bs : Nat)  (σ : Nat → Nat → Int) (q : (Int × (Nat → Nat → Int))) (hf : f_X11_undo σ = some q) : AM l D cA sa ad bs 788 SHp yX11_undo cX11_undo 1 (some .int) 3 [.ref (ad 0)] σ (some (z_i q.1)) (Z_I q.1) q.2 := by
  refine am_of (by decide +kernel) (Nat.le_of_ble_eq_true rfl) (fun p e s m args below meth c X hr => ?_)
  refine aw_lv (lv' := [(0, .ref (ad 0))]) rfl ?_
  unfold f_X11_undo at hf
  refine aw_aload_n X 0 dX11_undo_0 rfl rfl ?_
  refine aw_getR X s_0 fX11_65 rfl dX11_undo_1 ?_
  refine aw_aload_n X 0 dX11_undo_4 rfl rfl ?_
  refine aw_getR X s_0 fX11_42 rfl dX11_undo_5 ?_
  obtain ⟨q1, e2, hf⟩ := z_bd hf
  refine aw_callV X [.ref (ad 173)] [] [z_i q1.1] cX11_280 s_220 ciX3 (C_X3_giveBack l D cA sa ad bs 173 (by decide) σ q1 e2) rfl ⟨(Nat.le_of_ble_eq_true rfl), (Nat.le_of_ble_eq_true rfl), (Nat.le_of_ble_eq_true rfl), (Nat.le_of_ble_eq_true rfl)⟩ rfl (Nat.le_of_ble_eq_true rfl) rfl dX11_undo_8 (fun p3 => ?_)
  refine aw_if_eq X (tgt := 24) (z_zI p3) dX11_undo_11 (by decide) (fun h4 => ?_) (fun h4 => ?_)
  · rw [if_pos h4] at hf
    refine aw_iconst X dX11_undo_24 ?_
    obtain rfl := Option.some.inj hf
    exact aw_iret X (z_lit (x := (-1)) (by decide)) hr rfl dX11_undo_25
  · rw [if_neg h4] at hf
    refine aw_aload_n X 0 dX11_undo_14 rfl rfl ?_
    refine aw_getR X s_0 fX11_65 rfl dX11_undo_15 ?_
    refine aw_getI X s_220 fX11_284 rfl dX11_undo_18 (fun c5 => ?_)
    refine aw_goto X (tgt := 25) dX11_undo_21 (by decide) ?_
    obtain rfl := Option.some.inj hf
    exact aw_iret X c5 hr rfl dX11_undo_25
-- SpeedDesk.logLength()I
section S_X11_logLength
variable {p : Program} {l : Launch} {e : Env} {s : State} {m : MethodId} {args : Array Value} {below : List Frame} {meth : Method} {c : Code} {D : va_G} {cA : Nat → ClassId} {sa ad : Nat → Nat} {bs : Nat} {q : Int}

end S_X11_logLength
set_option maxHeartbeats 4000000 in
set_option maxRecDepth 100000 in
theorem C_X11_logLength (l : Launch) (D : va_G) (cA : Nat → ClassId) (sa ad : Nat → Nat) (bs : Nat)  (σ : Nat → Nat → Int) (q : Int) (hf : f_X11_logLength σ = some q) : AM l D cA sa ad bs 788 SHp yX11_logLength cX11_logLength 1 (some .int) 1 [.ref (ad 0)] σ (some (z_i q)) (Z_I q) σ := by
  refine am_of (by decide +kernel) (Nat.le_of_ble_eq_true rfl) (fun p e s m args below meth c X hr => ?_)
  refine aw_lv (lv' := [(0, .ref (ad 0))]) rfl ?_
  unfold f_X11_logLength at hf
  refine aw_aload_n X 0 dX11_logLength_0 rfl rfl ?_
  refine aw_getR X s_0 fX11_42 rfl dX11_logLength_1 ?_
  refine aw_getI X (sX7_0 173 (by decide)) fX11_290 rfl dX11_logLength_4 (fun c1 => ?_)
  refine aw_bipush X dX11_logLength_7 (by decide) ?_
  refine aw_min X c1 (z_lit (x := 60) (by decide)) cX11_421 ⟨(Nat.le_of_ble_eq_true rfl), (Nat.le_of_ble_eq_true rfl), (Nat.le_of_ble_eq_true rfl), (Nat.le_of_ble_eq_true rfl)⟩ dX11_logLength_9 ?_
  obtain rfl := Option.some.inj hf
  exact aw_iret X (z_min_in c1 (z_lit (x := 60) (by decide))) hr rfl dX11_logLength_12
-- SpeedDesk.log(II)I
section S_X11_log
variable {p : Program} {l : Launch} {e : Env} {s : State} {m : MethodId} {args : Array Value} {below : List Frame} {meth : Method} {c : Code} {D : va_G} {cA : Nat → ClassId} {sa ad : Nat → Nat} {bs : Nat} {q : Int}

end S_X11_log
set_option maxHeartbeats 4000000 in
set_option maxRecDepth 100000 in
theorem C_X11_log (l : Launch) (D : va_G) (cA : Nat → ClassId) (sa ad : Nat → Nat) (bs : Nat) (v1 : Int) (c_v1 : Z_I v1) (v2 : Int) (c_v2 : Z_I v2) (σ : Nat → Nat → Int) (q : Int) (hf : f_X11_log v1 v2 σ = some q) : AM l D cA sa ad bs 788 SHp yX11_log cX11_log 3 (some .int) 2 [.ref (ad 0), z_i v1, z_i v2] σ (some (z_i q)) (Z_I q) σ := by
  refine am_of (by decide +kernel) (Nat.le_of_ble_eq_true rfl) (fun p e s m args below meth c X hr => ?_)
  refine aw_lv (lv' := [(0, .ref (ad 0)), (1, z_i v1), (2, z_i v2)]) rfl ?_
  unfold f_X11_log at hf
  refine aw_iload_n X 1 dX11_log_0 rfl rfl ?_
  refine aw_if_lt X (tgt := 12) c_v1 dX11_log_1 (by decide) (fun h1 => ?_) (fun h1 => ?_)
  · rw [if_pos h1] at hf
    refine aw_ldc X (x := (-1000000)) dX11_log_12 kX11_181 (by decide) ?_
    obtain rfl := Option.some.inj hf
    exact aw_iret X (z_lit (x := (-1000000)) (by decide)) hr rfl dX11_log_14
  · rw [if_neg h1] at hf
    refine aw_iload_n X 1 dX11_log_4 rfl rfl ?_
    refine aw_aload_n X 0 dX11_log_5 rfl rfl ?_
    obtain ⟨q2, e3, hf⟩ := z_bd hf
    refine aw_callV X [] [z_i v1] [z_i q2, z_i v1] cX11_287 s_0 ciX11 (C_X11_logLength l D cA sa ad bs σ q2 e3) rfl ⟨(Nat.le_of_ble_eq_true rfl), (Nat.le_of_ble_eq_true rfl), (Nat.le_of_ble_eq_true rfl), (Nat.le_of_ble_eq_true rfl)⟩ rfl (Nat.le_of_ble_eq_true rfl) rfl dX11_log_6 (fun p4 => ?_)
    refine aw_icmp_lt X (tgt := 15) c_v1 p4 dX11_log_9 (by decide) (fun h5 => ?_) (fun h5 => ?_)
    · rw [if_pos h5] at hf
      refine aw_aload_n X 0 dX11_log_15 rfl rfl ?_
      refine aw_getR X s_0 fX11_55 rfl dX11_log_16 ?_
      refine aw_aload_n X 0 dX11_log_19 rfl rfl ?_
      refine aw_getR X s_0 fX11_42 rfl dX11_log_20 ?_
      refine aw_getI X (sX7_0 173 (by decide)) fX11_290 rfl dX11_log_23 (fun c6 => ?_)
      refine aw_iconst X dX11_log_26 ?_
      refine aw_isub X dX11_log_27 ?_
      refine aw_iload_n X 1 dX11_log_28 rfl rfl ?_
      refine aw_isub X dX11_log_29 ?_
      refine aw_iload_n X 2 dX11_log_30 rfl rfl ?_
      obtain ⟨q7, e8, hf⟩ := z_bd hf
      refine aw_callV X [z_i (z_w ((z_w ((σ 173 3) - 1)) - v1)), z_i v2] [] [z_i q7] cX11_293 (sX4_0 212 (by decide)) ciX4 (C_X4_read l D cA sa ad bs 212 (by decide) (z_w ((z_w ((σ 173 3) - 1)) - v1)) (z_w_in _) v2 c_v2 σ q7 e8) rfl ⟨(Nat.le_of_ble_eq_true rfl), (Nat.le_of_ble_eq_true rfl), (Nat.le_of_ble_eq_true rfl), (Nat.le_of_ble_eq_true rfl)⟩ rfl (Nat.le_of_ble_eq_true rfl) rfl dX11_log_31 (fun p9 => ?_)
      obtain rfl := Option.some.inj hf
      exact aw_iret X p9 hr rfl dX11_log_34
    · rw [if_neg h5] at hf
      refine aw_ldc X (x := (-1000000)) dX11_log_12 kX11_181 (by decide) ?_
      obtain rfl := Option.some.inj hf
      exact aw_iret X (z_lit (x := (-1000000)) (by decide)) hr rfl dX11_log_14
-- SpeedDesk.price()I
section S_X11_price
variable {p : Program} {l : Launch} {e : Env} {s : State} {m : MethodId} {args : Array Value} {below : List Frame} {meth : Method} {c : Code} {D : va_G} {cA : Nat → ClassId} {sa ad : Nat → Nat} {bs : Nat} {q : (Int × (Nat → Nat → Int))}

end S_X11_price
set_option maxHeartbeats 4000000 in
set_option maxRecDepth 100000 in
theorem C_X11_price (l : Launch) (D : va_G) (cA : Nat → ClassId) (sa ad : Nat → Nat) (bs : Nat)  (σ : Nat → Nat → Int) (q : (Int × (Nat → Nat → Int))) (hf : f_X11_price σ = some q) : AM l D cA sa ad bs 788 SHp yX11_price cX11_price 1 (some .int) 4 [.ref (ad 0)] σ (some (z_i q.1)) (Z_I q.1) q.2 := by
  refine am_of (by decide +kernel) (Nat.le_of_ble_eq_true rfl) (fun p e s m args below meth c X hr => ?_)
  refine aw_lv (lv' := [(0, .ref (ad 0))]) rfl ?_
  unfold f_X11_price at hf
  refine aw_aload_n X 0 dX11_price_0 rfl rfl ?_
  obtain ⟨g1, hf⟩ := z_gd hf
  refine aw_getV X s_0 fX11_24 rfl dX11_price_1 ?_
  obtain ⟨q2, e3, hf⟩ := z_bd hf
  refine aw_callV X [] [] [z_i q2] cX11_140 (sX1_0 ((σ 0 2).toNat) g1) ciX1 (C_X1_isTold l D cA sa ad bs ((σ 0 2).toNat) g1 σ q2 e3) rfl ⟨(Nat.le_of_ble_eq_true rfl), (Nat.le_of_ble_eq_true rfl), (Nat.le_of_ble_eq_true rfl), (Nat.le_of_ble_eq_true rfl)⟩ rfl (Nat.le_of_ble_eq_true rfl) rfl dX11_price_4 (fun p4 => ?_)
  refine aw_if_eq X (tgt := 28) (z_zI p4) dX11_price_7 (by decide) (fun h5 => ?_) (fun h5 => ?_)
  · rw [if_pos h5] at hf
    refine aw_iconst X dX11_price_28 ?_
    obtain rfl := Option.some.inj hf
    exact aw_iret X (z_lit (x := (-1)) (by decide)) hr rfl dX11_price_29
  · rw [if_neg h5] at hf
    refine aw_aload_n X 0 dX11_price_10 rfl rfl ?_
    refine aw_getR X s_0 fX11_85 rfl dX11_price_11 ?_
    refine aw_aload_n X 0 dX11_price_14 rfl rfl ?_
    obtain ⟨g6, hf⟩ := z_gd hf
    refine aw_getV X s_0 fX11_24 rfl dX11_price_15 ?_
    refine aw_aload_n X 0 dX11_price_18 rfl rfl ?_
    refine aw_getR X s_0 fX11_42 rfl dX11_price_19 ?_
    obtain ⟨q7, e8, hf⟩ := z_bd hf
    refine aw_callV X [.ref (ad ((σ 0 2).toNat)), .ref (ad 173)] [] [z_i q7.1] cX11_296 s_745 ciX5 (C_X5_priceAsItIs l D cA sa ad bs ((σ 0 2).toNat) g6 173 (by decide) σ q7 e8) rfl ⟨(Nat.le_of_ble_eq_true rfl), (Nat.le_of_ble_eq_true rfl), (Nat.le_of_ble_eq_true rfl), (Nat.le_of_ble_eq_true rfl)⟩ rfl (Nat.le_of_ble_eq_true rfl) rfl dX11_price_22 (fun p9 => ?_)
    refine aw_goto X (tgt := 29) dX11_price_25 (by decide) ?_
    obtain rfl := Option.some.inj hf
    exact aw_iret X p9 hr rfl dX11_price_29
-- SpeedDesk.best(II)I
section S_X11_best
variable {p : Program} {l : Launch} {e : Env} {s : State} {m : MethodId} {args : Array Value} {below : List Frame} {meth : Method} {c : Code} {D : va_G} {cA : Nat → ClassId} {sa ad : Nat → Nat} {bs : Nat} {q : (Int × (Nat → Nat → Int))}

end S_X11_best
set_option maxHeartbeats 4000000 in
set_option maxRecDepth 100000 in
theorem C_X11_best (l : Launch) (D : va_G) (cA : Nat → ClassId) (sa ad : Nat → Nat) (bs : Nat) (v1 : Int) (c_v1 : Z_I v1) (v2 : Int) (c_v2 : Z_I v2) (σ : Nat → Nat → Int) (q : (Int × (Nat → Nat → Int))) (hf : f_X11_best v1 v2 σ = some q) : AM l D cA sa ad bs 788 SHp yX11_best cX11_best 3 (some .int) 4 [.ref (ad 0), z_i v1, z_i v2] σ (some (z_i q.1)) (Z_I q.1) q.2 := by
  refine am_of (by decide +kernel) (Nat.le_of_ble_eq_true rfl) (fun p e s m args below meth c X hr => ?_)
  refine aw_lv (lv' := [(0, .ref (ad 0)), (1, z_i v1), (2, z_i v2)]) rfl ?_
  unfold f_X11_best at hf
  refine aw_aload_n X 0 dX11_best_0 rfl rfl ?_
  obtain ⟨g1, hf⟩ := z_gd hf
  refine aw_getV X s_0 fX11_24 rfl dX11_best_1 ?_
  obtain ⟨q2, e3, hf⟩ := z_bd hf
  refine aw_callV X [] [] [z_i q2] cX11_140 (sX1_0 ((σ 0 2).toNat) g1) ciX1 (C_X1_isTold l D cA sa ad bs ((σ 0 2).toNat) g1 σ q2 e3) rfl ⟨(Nat.le_of_ble_eq_true rfl), (Nat.le_of_ble_eq_true rfl), (Nat.le_of_ble_eq_true rfl), (Nat.le_of_ble_eq_true rfl)⟩ rfl (Nat.le_of_ble_eq_true rfl) rfl dX11_best_4 (fun p4 => ?_)
  refine aw_if_eq X (tgt := 28) (z_zI p4) dX11_best_7 (by decide) (fun h5 => ?_) (fun h5 => ?_)
  · rw [if_pos h5] at hf
    refine aw_iconst X dX11_best_28 ?_
    obtain rfl := Option.some.inj hf
    exact aw_iret X (z_lit (x := (-1)) (by decide)) hr rfl dX11_best_29
  · rw [if_neg h5] at hf
    refine aw_aload_n X 0 dX11_best_10 rfl rfl ?_
    refine aw_getR X s_0 fX11_85 rfl dX11_best_11 ?_
    refine aw_aload_n X 0 dX11_best_14 rfl rfl ?_
    obtain ⟨g6, hf⟩ := z_gd hf
    refine aw_getV X s_0 fX11_24 rfl dX11_best_15 ?_
    refine aw_aload_n X 0 dX11_best_18 rfl rfl ?_
    refine aw_getR X s_0 fX11_42 rfl dX11_best_19 ?_
    obtain ⟨q7, e8, hf⟩ := z_bd hf
    refine aw_callV X [.ref (ad ((σ 0 2).toNat)), .ref (ad 173)] [] [z_i q7.1] cX11_302 s_745 ciX5 (C_X5_findBest l D cA sa ad bs ((σ 0 2).toNat) g6 173 (by decide) σ q7 e8) rfl ⟨(Nat.le_of_ble_eq_true rfl), (Nat.le_of_ble_eq_true rfl), (Nat.le_of_ble_eq_true rfl), (Nat.le_of_ble_eq_true rfl)⟩ rfl (Nat.le_of_ble_eq_true rfl) rfl dX11_best_22 (fun p9 => ?_)
    refine aw_if_ne X (tgt := 30) (z_zI p9) dX11_best_25 (by decide) (fun h10 => ?_) (fun h10 => ?_)
    · rw [if_neg h10] at hf
      refine aw_iload_n X 1 dX11_best_30 rfl rfl ?_
      refine aw_if_ne X (tgt := 42) c_v1 dX11_best_31 (by decide) (fun h11 => ?_) (fun h11 => ?_)
      · rw [if_neg h11] at hf
        refine aw_iload_n X 1 dX11_best_42 rfl rfl ?_
        refine aw_iconst X dX11_best_43 ?_
        refine aw_icmp_ne X (tgt := 70) c_v1 (z_lit (x := 1) (by decide)) dX11_best_44 (by decide) (fun h12 => ?_) (fun h12 => ?_)
        · rw [if_neg h12] at hf
          refine aw_iconst X dX11_best_70 ?_
          obtain rfl := Option.some.inj hf
          exact aw_iret X (z_lit (x := (-1)) (by decide)) hr rfl dX11_best_71
        · rw [if_pos h12] at hf
          refine aw_aload_n X 0 dX11_best_47 rfl rfl ?_
          obtain ⟨g13, hf⟩ := z_gd hf
          refine aw_getV X s_0 fX11_24 rfl dX11_best_48 ?_
          refine aw_iload_n X 2 dX11_best_51 rfl rfl ?_
          obtain ⟨q14, e15, hf⟩ := z_bd hf
          refine aw_callV X [z_i v2] [] [z_i q14] cX11_206 (sX1_0 ((q7.2 0 2).toNat) g13) ciX1 (C_X1_hasTask l D cA sa ad bs ((q7.2 0 2).toNat) g13 v2 c_v2 q7.2 q14 e15) rfl ⟨(Nat.le_of_ble_eq_true rfl), (Nat.le_of_ble_eq_true rfl), (Nat.le_of_ble_eq_true rfl), (Nat.le_of_ble_eq_true rfl)⟩ rfl (Nat.le_of_ble_eq_true rfl) rfl dX11_best_52 (fun p16 => ?_)
          refine aw_if_eq X (tgt := 70) (z_zI p16) dX11_best_55 (by decide) (fun h17 => ?_) (fun h17 => ?_)
          · rw [if_pos h17] at hf
            refine aw_iconst X dX11_best_70 ?_
            obtain rfl := Option.some.inj hf
            exact aw_iret X (z_lit (x := (-1)) (by decide)) hr rfl dX11_best_71
          · rw [if_neg h17] at hf
            refine aw_aload_n X 0 dX11_best_58 rfl rfl ?_
            refine aw_getR X s_0 fX11_85 rfl dX11_best_59 ?_
            refine aw_getR X s_745 fX11_309 rfl dX11_best_62 ?_
            refine aw_iload_n X 2 dX11_best_65 rfl rfl ?_
            obtain ⟨g18, hf⟩ := z_gd hf
            refine aw_iald X (j := v2.toNat) s_747 c_v2 g18.1 g18.2 rfl dX11_best_66 (fun c19 => ?_)
            refine aw_goto X (tgt := 71) dX11_best_67 (by decide) ?_
            obtain rfl := Option.some.inj hf
            exact aw_iret X c19 hr rfl dX11_best_71
      · rw [if_pos h11] at hf
        refine aw_aload_n X 0 dX11_best_34 rfl rfl ?_
        refine aw_getR X s_0 fX11_85 rfl dX11_best_35 ?_
        refine aw_getI X s_745 fX11_306 rfl dX11_best_38 (fun c20 => ?_)
        obtain rfl := Option.some.inj hf
        exact aw_iret X c20 hr rfl dX11_best_41
    · rw [if_pos h10] at hf
      refine aw_iconst X dX11_best_28 ?_
      obtain rfl := Option.some.inj hf
      exact aw_iret X (z_lit (x := (-1)) (by decide)) hr rfl dX11_best_29
-- SpeedDesk.greedy(II)I
section S_X11_greedy
variable {p : Program} {l : Launch} {e : Env} {s : State} {m : MethodId} {args : Array Value} {below : List Frame} {meth : Method} {c : Code} {D : va_G} {cA : Nat → ClassId} {sa ad : Nat → Nat} {bs : Nat} {q : (Int × (Nat → Nat → Int))}

end S_X11_greedy
set_option maxHeartbeats 4000000 in
set_option maxRecDepth 100000 in
theorem C_X11_greedy (l : Launch) (D : va_G) (cA : Nat → ClassId) (sa ad : Nat → Nat) (bs : Nat) (v1 : Int) (c_v1 : Z_I v1) (v2 : Int) (c_v2 : Z_I v2) (σ : Nat → Nat → Int) (q : (Int × (Nat → Nat → Int))) (hf : f_X11_greedy v1 v2 σ = some q) : AM l D cA sa ad bs 788 SHp yX11_greedy cX11_greedy 3 (some .int) 5 [.ref (ad 0), z_i v1, z_i v2] σ (some (z_i q.1)) (Z_I q.1) q.2 := by
  refine am_of (by decide +kernel) (Nat.le_of_ble_eq_true rfl) (fun p e s m args below meth c X hr => ?_)
  refine aw_lv (lv' := [(0, .ref (ad 0)), (1, z_i v1), (2, z_i v2)]) rfl ?_
  unfold f_X11_greedy at hf
  refine aw_aload_n X 0 dX11_greedy_0 rfl rfl ?_
  obtain ⟨g1, hf⟩ := z_gd hf
  refine aw_getV X s_0 fX11_24 rfl dX11_greedy_1 ?_
  obtain ⟨q2, e3, hf⟩ := z_bd hf
  refine aw_callV X [] [] [z_i q2] cX11_140 (sX1_0 ((σ 0 2).toNat) g1) ciX1 (C_X1_isTold l D cA sa ad bs ((σ 0 2).toNat) g1 σ q2 e3) rfl ⟨(Nat.le_of_ble_eq_true rfl), (Nat.le_of_ble_eq_true rfl), (Nat.le_of_ble_eq_true rfl), (Nat.le_of_ble_eq_true rfl)⟩ rfl (Nat.le_of_ble_eq_true rfl) rfl dX11_greedy_4 (fun p4 => ?_)
  refine aw_if_eq X (tgt := 28) (z_zI p4) dX11_greedy_7 (by decide) (fun h5 => ?_) (fun h5 => ?_)
  · rw [if_pos h5] at hf
    refine aw_iconst X dX11_greedy_28 ?_
    obtain rfl := Option.some.inj hf
    exact aw_iret X (z_lit (x := (-1)) (by decide)) hr rfl dX11_greedy_29
  · rw [if_neg h5] at hf
    refine aw_aload_n X 0 dX11_greedy_10 rfl rfl ?_
    refine aw_getR X s_0 fX11_85 rfl dX11_greedy_11 ?_
    refine aw_aload_n X 0 dX11_greedy_14 rfl rfl ?_
    obtain ⟨g6, hf⟩ := z_gd hf
    refine aw_getV X s_0 fX11_24 rfl dX11_greedy_15 ?_
    refine aw_aload_n X 0 dX11_greedy_18 rfl rfl ?_
    refine aw_getR X s_0 fX11_42 rfl dX11_greedy_19 ?_
    obtain ⟨q7, e8, hf⟩ := z_bd hf
    refine aw_callV X [.ref (ad ((σ 0 2).toNat)), .ref (ad 173)] [] [z_i q7.1] cX11_312 s_745 ciX5 (C_X5_putGreedily l D cA sa ad bs ((σ 0 2).toNat) g6 173 (by decide) σ q7 e8) rfl ⟨(Nat.le_of_ble_eq_true rfl), (Nat.le_of_ble_eq_true rfl), (Nat.le_of_ble_eq_true rfl), (Nat.le_of_ble_eq_true rfl)⟩ rfl (Nat.le_of_ble_eq_true rfl) rfl dX11_greedy_22 (fun p9 => ?_)
    refine aw_if_ne X (tgt := 30) (z_zI p9) dX11_greedy_25 (by decide) (fun h10 => ?_) (fun h10 => ?_)
    · rw [if_neg h10] at hf
      refine aw_iload_n X 1 dX11_greedy_30 rfl rfl ?_
      refine aw_if_ne X (tgt := 46) c_v1 dX11_greedy_31 (by decide) (fun h11 => ?_) (fun h11 => ?_)
      · rw [if_neg h11] at hf
        refine aw_iload_n X 1 dX11_greedy_46 rfl rfl ?_
        refine aw_iconst X dX11_greedy_47 ?_
        refine aw_icmp_ne X (tgt := 74) c_v1 (z_lit (x := 1) (by decide)) dX11_greedy_48 (by decide) (fun h12 => ?_) (fun h12 => ?_)
        · rw [if_neg h12] at hf
          refine aw_iconst X dX11_greedy_74 ?_
          obtain rfl := Option.some.inj hf
          exact aw_iret X (z_lit (x := (-1)) (by decide)) hr rfl dX11_greedy_75
        · rw [if_pos h12] at hf
          refine aw_aload_n X 0 dX11_greedy_51 rfl rfl ?_
          obtain ⟨g13, hf⟩ := z_gd hf
          refine aw_getV X s_0 fX11_24 rfl dX11_greedy_52 ?_
          refine aw_iload_n X 2 dX11_greedy_55 rfl rfl ?_
          obtain ⟨q14, e15, hf⟩ := z_bd hf
          refine aw_callV X [z_i v2] [] [z_i q14] cX11_206 (sX1_0 ((q7.2 0 2).toNat) g13) ciX1 (C_X1_hasTask l D cA sa ad bs ((q7.2 0 2).toNat) g13 v2 c_v2 q7.2 q14 e15) rfl ⟨(Nat.le_of_ble_eq_true rfl), (Nat.le_of_ble_eq_true rfl), (Nat.le_of_ble_eq_true rfl), (Nat.le_of_ble_eq_true rfl)⟩ rfl (Nat.le_of_ble_eq_true rfl) rfl dX11_greedy_56 (fun p16 => ?_)
          refine aw_if_eq X (tgt := 74) (z_zI p16) dX11_greedy_59 (by decide) (fun h17 => ?_) (fun h17 => ?_)
          · rw [if_pos h17] at hf
            refine aw_iconst X dX11_greedy_74 ?_
            obtain rfl := Option.some.inj hf
            exact aw_iret X (z_lit (x := (-1)) (by decide)) hr rfl dX11_greedy_75
          · rw [if_neg h17] at hf
            refine aw_aload_n X 0 dX11_greedy_62 rfl rfl ?_
            refine aw_getR X s_0 fX11_85 rfl dX11_greedy_63 ?_
            refine aw_getR X s_745 fX11_318 rfl dX11_greedy_66 ?_
            refine aw_iload_n X 2 dX11_greedy_69 rfl rfl ?_
            obtain ⟨g18, hf⟩ := z_gd hf
            refine aw_iald X (j := v2.toNat) s_746 c_v2 g18.1 g18.2 rfl dX11_greedy_70 (fun c19 => ?_)
            refine aw_goto X (tgt := 75) dX11_greedy_71 (by decide) ?_
            obtain rfl := Option.some.inj hf
            exact aw_iret X c19 hr rfl dX11_greedy_75
      · rw [if_pos h11] at hf
        refine aw_aload_n X 0 dX11_greedy_34 rfl rfl ?_
        refine aw_getR X s_0 fX11_85 rfl dX11_greedy_35 ?_
        refine aw_aload_n X 0 dX11_greedy_38 rfl rfl ?_
        obtain ⟨g20, hf⟩ := z_gd hf
        refine aw_getV X s_0 fX11_24 rfl dX11_greedy_39 ?_
        obtain ⟨q21, e22, hf⟩ := z_bd hf
        refine aw_callV X [.ref (ad ((q7.2 0 2).toNat))] [] [z_i q21.1] cX11_315 s_745 ciX5 (C_X5_priceOf l D cA sa ad bs ((q7.2 0 2).toNat) g20 q7.2 q21 e22) rfl ⟨(Nat.le_of_ble_eq_true rfl), (Nat.le_of_ble_eq_true rfl), (Nat.le_of_ble_eq_true rfl), (Nat.le_of_ble_eq_true rfl)⟩ rfl (Nat.le_of_ble_eq_true rfl) rfl dX11_greedy_42 (fun p23 => ?_)
        obtain rfl := Option.some.inj hf
        exact aw_iret X p23 hr rfl dX11_greedy_45
    · rw [if_pos h10] at hf
      refine aw_iconst X dX11_greedy_28 ?_
      obtain rfl := Option.some.inj hf
      exact aw_iret X (z_lit (x := (-1)) (by decide)) hr rfl dX11_greedy_29
-- SpeedDesk.moves()I
section S_X11_moves
variable {p : Program} {l : Launch} {e : Env} {s : State} {m : MethodId} {args : Array Value} {below : List Frame} {meth : Method} {c : Code} {D : va_G} {cA : Nat → ClassId} {sa ad : Nat → Nat} {bs : Nat} {q : (Int × (Nat → Nat → Int))}

end S_X11_moves
set_option maxHeartbeats 4000000 in
set_option maxRecDepth 100000 in
theorem C_X11_moves (l : Launch) (D : va_G) (cA : Nat → ClassId) (sa ad : Nat → Nat) (bs : Nat)  (σ : Nat → Nat → Int) (q : (Int × (Nat → Nat → Int))) (hf : f_X11_moves σ = some q) : AM l D cA sa ad bs 788 SHp yX11_moves cX11_moves 1 (some .int) 5 [.ref (ad 0)] σ (some (z_i q.1)) (Z_I q.1) q.2 := by
  refine am_of (by decide +kernel) (Nat.le_of_ble_eq_true rfl) (fun p e s m args below meth c X hr => ?_)
  refine aw_lv (lv' := [(0, .ref (ad 0))]) rfl ?_
  unfold f_X11_moves at hf
  refine aw_aload_n X 0 dX11_moves_0 rfl rfl ?_
  obtain ⟨g1, hf⟩ := z_gd hf
  refine aw_getV X s_0 fX11_24 rfl dX11_moves_1 ?_
  obtain ⟨q2, e3, hf⟩ := z_bd hf
  refine aw_callV X [] [] [z_i q2] cX11_140 (sX1_0 ((σ 0 2).toNat) g1) ciX1 (C_X1_isTold l D cA sa ad bs ((σ 0 2).toNat) g1 σ q2 e3) rfl ⟨(Nat.le_of_ble_eq_true rfl), (Nat.le_of_ble_eq_true rfl), (Nat.le_of_ble_eq_true rfl), (Nat.le_of_ble_eq_true rfl)⟩ rfl (Nat.le_of_ble_eq_true rfl) rfl dX11_moves_4 (fun p4 => ?_)
  refine aw_if_eq X (tgt := 28) (z_zI p4) dX11_moves_7 (by decide) (fun h5 => ?_) (fun h5 => ?_)
  · rw [if_pos h5] at hf
    refine aw_iconst X dX11_moves_28 ?_
    obtain rfl := Option.some.inj hf
    exact aw_iret X (z_lit (x := (-1)) (by decide)) hr rfl dX11_moves_29
  · rw [if_neg h5] at hf
    refine aw_aload_n X 0 dX11_moves_10 rfl rfl ?_
    refine aw_getR X s_0 fX11_85 rfl dX11_moves_11 ?_
    refine aw_aload_n X 0 dX11_moves_14 rfl rfl ?_
    obtain ⟨g6, hf⟩ := z_gd hf
    refine aw_getV X s_0 fX11_24 rfl dX11_moves_15 ?_
    refine aw_aload_n X 0 dX11_moves_18 rfl rfl ?_
    refine aw_getR X s_0 fX11_42 rfl dX11_moves_19 ?_
    obtain ⟨q7, e8, hf⟩ := z_bd hf
    refine aw_callV X [.ref (ad ((σ 0 2).toNat)), .ref (ad 173)] [] [z_i q7.1] cX11_321 s_745 ciX5 (C_X5_fewestMoves l D cA sa ad bs ((σ 0 2).toNat) g6 173 (by decide) σ q7 e8) rfl ⟨(Nat.le_of_ble_eq_true rfl), (Nat.le_of_ble_eq_true rfl), (Nat.le_of_ble_eq_true rfl), (Nat.le_of_ble_eq_true rfl)⟩ rfl (Nat.le_of_ble_eq_true rfl) rfl dX11_moves_22 (fun p9 => ?_)
    refine aw_goto X (tgt := 29) dX11_moves_25 (by decide) ?_
    obtain rfl := Option.some.inj hf
    exact aw_iret X p9 hr rfl dX11_moves_29
-- SpeedDesk.race(IIII)I
section S_X11_race
variable {p : Program} {l : Launch} {e : Env} {s : State} {m : MethodId} {args : Array Value} {below : List Frame} {meth : Method} {c : Code} {D : va_G} {cA : Nat → ClassId} {sa ad : Nat → Nat} {bs : Nat} {q : Int}
set_option maxHeartbeats 4000000 in
set_option maxRecDepth 100000 in
theorem A_X11_race_28 (X : AX p s m args meth c D cA sa bs cX11_race 8 RX11) (hr : meth.sig.returnType = (some .int)) (σ : Nat → Nat → Int) (v1 : Int) (c_v1 : Z_I v1) (v2 : Int) (c_v2 : Z_I v2) (v3 : Int) (c_v3 : Z_I v3) (v4 : Int) (c_v4 : Z_I v4) (t0 : Int) (c_t0 : Z_I t0) (hf : f_X11_race_28 v1 v2 v3 v4 t0 σ = some q) : AW p l e (ax_rm 2 0 0) s m args below meth c D cA ad bs 788 SHp 0 0 (ax_MQ below args s D cA ad bs 788 SHp 0 0 (some (z_i q)) (Z_I q) σ) 8 28 [(0, .ref (ad 0)), (1, z_i v1), (2, z_i v2), (3, z_i v3), (4, z_i v4)] [z_i t0] σ := by
  unfold f_X11_race_28 at hf
  refine aw_istore X [(5, z_i t0), (0, .ref (ad 0)), (1, z_i v1), (2, z_i v2), (3, z_i v3), (4, z_i v4)] dX11_race_28 (by decide) rfl ?_
  refine aw_aload_n X 1 dX11_race_30 rfl rfl ?_
  obtain ⟨g5, hf⟩ := z_gd hf
  refine aw_getV X s_0 fX11_24 rfl dX11_race_31 ?_
  refine aw_iload_n X 2 dX11_race_34 rfl rfl ?_
  obtain ⟨q6, e7, hf⟩ := z_bd hf
  refine aw_callV X [z_i v1] [] [z_i q6] cX11_153 (sX1_0 ((σ 0 2).toNat) g5) ciX1 (C_X1_hasCluster l D cA sa ad bs ((σ 0 2).toNat) g5 v1 c_v1 σ q6 e7) rfl ⟨(Nat.le_of_ble_eq_true rfl), (Nat.le_of_ble_eq_true rfl), (Nat.le_of_ble_eq_true rfl), (Nat.le_of_ble_eq_true rfl)⟩ rfl (Nat.le_of_ble_eq_true rfl) rfl dX11_race_35 (fun p8 => ?_)
  refine aw_if_eq X (tgt := 57) (z_zI p8) dX11_race_38 (by decide) (fun h9 => ?_) (fun h9 => ?_)
  · rw [if_pos h9] at hf
    refine aw_ldc X (x := (-1000000)) dX11_race_57 kX11_181 (by decide) ?_
    obtain rfl := Option.some.inj hf
    exact aw_iret X (z_lit (x := (-1000000)) (by decide)) hr rfl dX11_race_59
  · rw [if_neg h9] at hf
    refine aw_iload X 0 dX11_race_41 rfl ?_
    refine aw_if_eq X (tgt := 57) c_t0 dX11_race_43 (by decide) (fun h10 => ?_) (fun h10 => ?_)
    · rw [if_pos h10] at hf
      refine aw_ldc X (x := (-1000000)) dX11_race_57 kX11_181 (by decide) ?_
      obtain rfl := Option.some.inj hf
      exact aw_iret X (z_lit (x := (-1000000)) (by decide)) hr rfl dX11_race_59
    · rw [if_neg h10] at hf
      refine aw_iload X 5 dX11_race_46 rfl ?_
      refine aw_if_lt X (tgt := 57) c_v4 dX11_race_48 (by decide) (fun h11 => ?_) (fun h11 => ?_)
      · rw [if_pos h11] at hf
        refine aw_ldc X (x := (-1000000)) dX11_race_57 kX11_181 (by decide) ?_
        obtain rfl := Option.some.inj hf
        exact aw_iret X (z_lit (x := (-1000000)) (by decide)) hr rfl dX11_race_59
      · rw [if_neg h11] at hf
        refine aw_iload X 5 dX11_race_51 rfl ?_
        refine aw_iconst X dX11_race_53 ?_
        refine aw_icmp_le X (tgt := 60) c_v4 (z_lit (x := 2) (by decide)) dX11_race_54 (by decide) (fun h12 => ?_) (fun h12 => ?_)
        · rw [if_pos h12] at hf
          refine aw_aload_n X 1 dX11_race_60 rfl rfl ?_
          obtain ⟨g13, hf⟩ := z_gd hf
          refine aw_getV X s_0 fX11_24 rfl dX11_race_61 ?_
          refine aw_iload_n X 2 dX11_race_64 rfl rfl ?_
          refine aw_iload_n X 3 dX11_race_65 rfl rfl ?_
          refine aw_iload_n X 4 dX11_race_66 rfl rfl ?_
          obtain ⟨q14, e15, hf⟩ := z_bd hf
          refine aw_callV X [z_i v1, z_i v2, z_i v3] [] [z_i q14] cX11_324 (sX1_0 ((σ 0 2).toNat) g13) ciX1 (C_X1_racingCost l D cA sa ad bs ((σ 0 2).toNat) g13 v1 c_v1 v2 c_v2 v3 c_v3 σ q14 e15) rfl ⟨(Nat.le_of_ble_eq_true rfl), (Nat.le_of_ble_eq_true rfl), (Nat.le_of_ble_eq_true rfl), (Nat.le_of_ble_eq_true rfl)⟩ rfl (Nat.le_of_ble_eq_true rfl) rfl dX11_race_67 (fun p16 => ?_)
          refine aw_istore X [(6, z_i q14), (5, z_i t0), (0, .ref (ad 0)), (1, z_i v1), (2, z_i v2), (3, z_i v3), (4, z_i v4)] dX11_race_70 (by decide) rfl ?_
          refine aw_aload_n X 2 dX11_race_72 rfl rfl ?_
          obtain ⟨g17, hf⟩ := z_gd hf
          refine aw_getV X s_0 fX11_24 rfl dX11_race_73 ?_
          refine aw_iload_n X 3 dX11_race_76 rfl rfl ?_
          refine aw_iload_n X 4 dX11_race_77 rfl rfl ?_
          refine aw_iload_n X 5 dX11_race_78 rfl rfl ?_
          obtain ⟨q18, e19, hf⟩ := z_bd hf
          refine aw_callV X [z_i v1, z_i v2, z_i v3] [] [z_i q18] cX11_328 (sX1_0 ((σ 0 2).toNat) g17) ciX1 (C_X1_slowCost l D cA sa ad bs ((σ 0 2).toNat) g17 v1 c_v1 v2 c_v2 v3 c_v3 σ q18 e19) rfl ⟨(Nat.le_of_ble_eq_true rfl), (Nat.le_of_ble_eq_true rfl), (Nat.le_of_ble_eq_true rfl), (Nat.le_of_ble_eq_true rfl)⟩ rfl (Nat.le_of_ble_eq_true rfl) rfl dX11_race_79 (fun p20 => ?_)
          refine aw_istore X [(7, z_i q18), (6, z_i q14), (5, z_i t0), (0, .ref (ad 0)), (1, z_i v1), (2, z_i v2), (3, z_i v3), (4, z_i v4)] dX11_race_82 (by decide) rfl ?_
          refine aw_iload X 7 dX11_race_84 rfl ?_
          refine aw_if_ne X (tgt := 92) c_v4 dX11_race_86 (by decide) (fun h21 => ?_) (fun h21 => ?_)
          · rw [if_neg h21] at hf
            refine aw_iload X 7 dX11_race_92 rfl ?_
            refine aw_iconst X dX11_race_94 ?_
            refine aw_icmp_ne X (tgt := 101) c_v4 (z_lit (x := 1) (by decide)) dX11_race_95 (by decide) (fun h22 => ?_) (fun h22 => ?_)
            · rw [if_neg h22] at hf
              refine aw_iload X 1 dX11_race_101 rfl ?_
              refine aw_iconst X dX11_race_103 ?_
              refine aw_icmp_eq X (tgt := 113) p16 (z_lit (x := (-1)) (by decide)) dX11_race_104 (by decide) (fun h23 => ?_) (fun h23 => ?_)
              · rw [if_pos h23] at hf
                refine aw_iconst X dX11_race_113 ?_
                obtain rfl := Option.some.inj hf
                exact aw_iret X (z_lit (x := (-1)) (by decide)) hr rfl dX11_race_114
              · rw [if_neg h23] at hf
                refine aw_iload X 0 dX11_race_107 rfl ?_
                refine aw_iconst X dX11_race_109 ?_
                refine aw_icmp_ne X (tgt := 115) p20 (z_lit (x := (-1)) (by decide)) dX11_race_110 (by decide) (fun h24 => ?_) (fun h24 => ?_)
                · rw [if_neg h24] at hf
                  refine aw_iload X 0 dX11_race_115 rfl ?_
                  refine aw_iload X 1 dX11_race_117 rfl ?_
                  refine aw_icmp_ge X (tgt := 126) p20 p16 dX11_race_119 (by decide) (fun h25 => ?_) (fun h25 => ?_)
                  · rw [if_pos h25] at hf
                    refine aw_iconst X dX11_race_126 ?_
                    obtain rfl := Option.some.inj hf
                    exact aw_iret X (z_lit (x := 0) (by decide)) hr rfl dX11_race_127
                  · rw [if_neg h25] at hf
                    refine aw_iconst X dX11_race_122 ?_
                    refine aw_goto X (tgt := 127) dX11_race_123 (by decide) ?_
                    obtain rfl := Option.some.inj hf
                    exact aw_iret X (z_lit (x := 1) (by decide)) hr rfl dX11_race_127
                · rw [if_pos h24] at hf
                  refine aw_iconst X dX11_race_113 ?_
                  obtain rfl := Option.some.inj hf
                  exact aw_iret X (z_lit (x := (-1)) (by decide)) hr rfl dX11_race_114
            · rw [if_pos h22] at hf
              refine aw_iload X 0 dX11_race_98 rfl ?_
              obtain rfl := Option.some.inj hf
              exact aw_iret X p20 hr rfl dX11_race_100
          · rw [if_pos h21] at hf
            refine aw_iload X 1 dX11_race_89 rfl ?_
            obtain rfl := Option.some.inj hf
            exact aw_iret X p16 hr rfl dX11_race_91
        · rw [if_neg h12] at hf
          refine aw_ldc X (x := (-1000000)) dX11_race_57 kX11_181 (by decide) ?_
          obtain rfl := Option.some.inj hf
          exact aw_iret X (z_lit (x := (-1000000)) (by decide)) hr rfl dX11_race_59
end S_X11_race
set_option maxHeartbeats 4000000 in
set_option maxRecDepth 100000 in
theorem C_X11_race (l : Launch) (D : va_G) (cA : Nat → ClassId) (sa ad : Nat → Nat) (bs : Nat) (v1 : Int) (c_v1 : Z_I v1) (v2 : Int) (c_v2 : Z_I v2) (v3 : Int) (c_v3 : Z_I v3) (v4 : Int) (c_v4 : Z_I v4) (σ : Nat → Nat → Int) (q : Int) (hf : f_X11_race v1 v2 v3 v4 σ = some q) : AM l D cA sa ad bs 788 SHp yX11_race cX11_race 8 (some .int) 2 [.ref (ad 0), z_i v1, z_i v2, z_i v3, z_i v4] σ (some (z_i q)) (Z_I q) σ := by
  refine am_of (by decide +kernel) (Nat.le_of_ble_eq_true rfl) (fun p e s m args below meth c X hr => ?_)
  refine aw_lv (lv' := [(0, .ref (ad 0)), (1, z_i v1), (2, z_i v2), (3, z_i v3), (4, z_i v4)]) rfl ?_
  unfold f_X11_race at hf
  refine aw_iload_n X 2 dX11_race_0 rfl rfl ?_
  refine aw_iconst X dX11_race_1 ?_
  refine aw_icmp_lt X (tgt := 27) c_v2 (z_lit (x := 1) (by decide)) dX11_race_2 (by decide) (fun h1 => ?_) (fun h1 => ?_)
  · simp only [if_pos h1] at hf
    refine aw_iconst X dX11_race_27 ?_
    exact A_X11_race_28 X hr σ v1 c_v1 v2 c_v2 v3 c_v3 v4 c_v4 0 (z_lit (x := 0) (by decide)) hf
  · simp only [if_neg h1] at hf
    refine aw_iload_n X 2 dX11_race_5 rfl rfl ?_
    refine aw_sipush X dX11_race_6 (by decide) ?_
    refine aw_icmp_gt X (tgt := 27) c_v2 (z_lit (x := 9999) (by decide)) dX11_race_9 (by decide) (fun h2 => ?_) (fun h2 => ?_)
    · simp only [if_pos h2] at hf
      refine aw_iconst X dX11_race_27 ?_
      exact A_X11_race_28 X hr σ v1 c_v1 v2 c_v2 v3 c_v3 v4 c_v4 0 (z_lit (x := 0) (by decide)) hf
    · simp only [if_neg h2] at hf
      refine aw_iload_n X 3 dX11_race_12 rfl rfl ?_
      refine aw_iconst X dX11_race_13 ?_
      refine aw_icmp_lt X (tgt := 27) c_v3 (z_lit (x := 1) (by decide)) dX11_race_14 (by decide) (fun h3 => ?_) (fun h3 => ?_)
      · simp only [if_pos h3] at hf
        refine aw_iconst X dX11_race_27 ?_
        exact A_X11_race_28 X hr σ v1 c_v1 v2 c_v2 v3 c_v3 v4 c_v4 0 (z_lit (x := 0) (by decide)) hf
      · simp only [if_neg h3] at hf
        refine aw_iload_n X 3 dX11_race_17 rfl rfl ?_
        refine aw_bipush X dX11_race_18 (by decide) ?_
        refine aw_icmp_gt X (tgt := 27) c_v3 (z_lit (x := 99) (by decide)) dX11_race_20 (by decide) (fun h4 => ?_) (fun h4 => ?_)
        · simp only [if_pos h4] at hf
          refine aw_iconst X dX11_race_27 ?_
          exact A_X11_race_28 X hr σ v1 c_v1 v2 c_v2 v3 c_v3 v4 c_v4 0 (z_lit (x := 0) (by decide)) hf
        · simp only [if_neg h4] at hf
          refine aw_iconst X dX11_race_23 ?_
          refine aw_goto X (tgt := 28) dX11_race_24 (by decide) ?_
          exact A_X11_race_28 X hr σ v1 c_v1 v2 c_v2 v3 c_v3 v4 c_v4 1 (z_lit (x := 1) (by decide)) hf
