-- SpeedDesk.takeDraft()I
section S_X11_takeDraft
variable {p : Program} {l : Launch} {e : Env} {s : State} {m : MethodId} {args : Array Value} {below : List Frame} {meth : Method} {c : Code} {D : va_G} {cA : Nat → ClassId} {sa ad : Nat → Nat} {bs : Nat} {q : (Int × (Nat → Nat → Int))}

end S_X11_takeDraft
set_option maxHeartbeats 4000000 in
set_option maxRecDepth 100000 in
theorem C_X11_takeDraft (l : Launch) (D : va_G) (cA : Nat → ClassId) (sa ad : Nat → Nat) (bs : Nat)  (σ : Nat → Nat → Int) (q : (Int × (Nat → Nat → Int))) (hf : f_X11_takeDraft σ = some q) : AM l D cA sa ad bs 788 SHp yX11_takeDraft cX11_takeDraft 2 (some .int) 1 [.ref (ad 0)] σ (some (z_i q.1)) (Z_I q.1) q.2 := by
  refine am_of (by decide +kernel) (Nat.le_of_ble_eq_true rfl) (fun p e s m args below meth c X hr => ?_)
  refine aw_lv (lv' := [(0, .ref (ad 0))]) rfl ?_
  unfold f_X11_takeDraft at hf
  refine aw_aload_n X 0 dX11_takeDraft_0 rfl rfl ?_
  obtain ⟨g1, hf⟩ := z_gd hf
  refine aw_getV X s_0 fX11_24 rfl dX11_takeDraft_1 ?_
  refine aw_astore_n X [(1, .ref (ad ((σ 0 2).toNat))), (0, .ref (ad 0))] dX11_takeDraft_4 rfl (by decide) rfl ?_
  refine aw_aload_n X 1 dX11_takeDraft_5 rfl rfl ?_
  refine aw_aload_n X 1 dX11_takeDraft_6 rfl rfl ?_
  obtain ⟨g2, hf⟩ := z_gd hf
  refine aw_getV X s_0 fX11_28 rfl dX11_takeDraft_7 ?_
  refine aw_putV X s_0 pX11_24 rfl dX11_takeDraft_10 ?_
  refine aw_aload_n X 1 dX11_takeDraft_13 rfl rfl ?_
  refine aw_aload_n X 0 dX11_takeDraft_14 rfl rfl ?_
  refine aw_putV X s_0 pX11_28 rfl dX11_takeDraft_15 ?_
  refine aw_aload_n X 1 dX11_takeDraft_18 rfl rfl ?_
  refine aw_getR X s_0 fX11_42 rfl dX11_takeDraft_19 ?_
  obtain ⟨q3, e4, hf⟩ := z_bd hf
  refine aw_callV X [] [] [] cX11_426 (sX7_0 173 (by decide)) ciX7 (C_X7_begin l D cA sa ad bs 173 (by decide) (u2 (u2 σ 0 2 ((((σ 0 3).toNat) : Nat) : Int)) 0 3 ((((σ 0 2).toNat) : Nat) : Int)) q3 e4) rfl ⟨(Nat.le_of_ble_eq_true rfl), (Nat.le_of_ble_eq_true rfl), (Nat.le_of_ble_eq_true rfl), (Nat.le_of_ble_eq_true rfl)⟩ rfl (Nat.le_of_ble_eq_true rfl) rfl dX11_takeDraft_22 (fun p5 => ?_)
  refine aw_aload_n X 1 dX11_takeDraft_25 rfl rfl ?_
  refine aw_getR X s_0 fX11_65 rfl dX11_takeDraft_26 ?_
  obtain ⟨q6, e7, hf⟩ := z_bd hf
  refine aw_callV X [] [] [] cX11_408 s_220 ciX3 (C_X3_forget l D cA sa ad bs q3 q6 e7) rfl ⟨(Nat.le_of_ble_eq_true rfl), (Nat.le_of_ble_eq_true rfl), (Nat.le_of_ble_eq_true rfl), (Nat.le_of_ble_eq_true rfl)⟩ rfl (Nat.le_of_ble_eq_true rfl) rfl dX11_takeDraft_29 (fun p8 => ?_)
  refine aw_aload_n X 1 dX11_takeDraft_32 rfl rfl ?_
  refine aw_iconst X dX11_takeDraft_33 ?_
  refine aw_putZ X s_0 pX11_404 rfl (Or.inl rfl) dX11_takeDraft_34 ?_
  refine aw_aload_n X 1 dX11_takeDraft_37 rfl rfl ?_
  refine aw_getR X s_0 fX11_20 rfl dX11_takeDraft_38 ?_
  refine aw_iconst X dX11_takeDraft_41 ?_
  refine aw_putI X s_2 pX11_103 rfl (z_lit (x := 0) (by decide)) dX11_takeDraft_42 ?_
  refine aw_aload_n X 1 dX11_takeDraft_45 rfl rfl ?_
  obtain ⟨g9, hf⟩ := z_gd hf
  refine aw_getV X s_0 fX11_24 rfl dX11_takeDraft_46 ?_
  refine aw_getI X (sX1_0 (((u2 (u2 q6 0 9 0) 2 1 0) 0 2).toNat) g9) fX11_411 rfl dX11_takeDraft_49 (fun c10 => ?_)
  obtain rfl := Option.some.inj hf
  exact aw_iret X c10 hr rfl dX11_takeDraft_52
-- SpeedDesk.takeSpareScript()I
section S_X11_takeSpareScript
variable {p : Program} {l : Launch} {e : Env} {s : State} {m : MethodId} {args : Array Value} {below : List Frame} {meth : Method} {c : Code} {D : va_G} {cA : Nat → ClassId} {sa ad : Nat → Nat} {bs : Nat} {q : (Int × (Nat → Nat → Int))}

end S_X11_takeSpareScript
set_option maxHeartbeats 4000000 in
set_option maxRecDepth 100000 in
theorem C_X11_takeSpareScript (l : Launch) (D : va_G) (cA : Nat → ClassId) (sa ad : Nat → Nat) (bs : Nat)  (σ : Nat → Nat → Int) (q : (Int × (Nat → Nat → Int))) (hf : f_X11_takeSpareScript σ = some q) : AM l D cA sa ad bs 788 SHp yX11_takeSpareScript cX11_takeSpareScript 1 (some .int) 0 [.ref (ad 0)] σ (some (z_i q.1)) (Z_I q.1) q.2 := by
  refine am_of (by decide +kernel) (Nat.le_of_ble_eq_true rfl) (fun p e s m args below meth c X hr => ?_)
  refine aw_lv (lv' := [(0, .ref (ad 0))]) rfl ?_
  unfold f_X11_takeSpareScript at hf
  refine aw_aload_n X 0 dX11_takeSpareScript_0 rfl rfl ?_
  refine aw_getR X s_0 fX11_20 rfl dX11_takeSpareScript_1 ?_
  refine aw_iconst X dX11_takeSpareScript_4 ?_
  refine aw_putI X s_2 pX11_103 rfl (z_lit (x := 0) (by decide)) dX11_takeSpareScript_5 ?_
  refine aw_aload_n X 0 dX11_takeSpareScript_8 rfl rfl ?_
  refine aw_dup X dX11_takeSpareScript_9 rfl ?_
  refine aw_getI X s_0 fX11_134 rfl dX11_takeSpareScript_10 (fun c1 => ?_)
  refine aw_iconst X dX11_takeSpareScript_13 ?_
  refine aw_iadd X dX11_takeSpareScript_14 ?_
  refine aw_putI X s_0 pX11_134 rfl (z_w_in _) dX11_takeSpareScript_15 ?_
  refine aw_aload_n X 0 dX11_takeSpareScript_18 rfl rfl ?_
  refine aw_getI X s_0 fX11_134 rfl dX11_takeSpareScript_19 (fun c2 => ?_)
  refine aw_iconst X dX11_takeSpareScript_22 ?_
  refine aw_isub X dX11_takeSpareScript_23 ?_
  obtain rfl := Option.some.inj hf
  exact aw_iret X (z_w_in _) hr rfl dX11_takeSpareScript_24
-- SpeedDesk.text(I)I
section S_X11_text
variable {p : Program} {l : Launch} {e : Env} {s : State} {m : MethodId} {args : Array Value} {below : List Frame} {meth : Method} {c : Code} {D : va_G} {cA : Nat → ClassId} {sa ad : Nat → Nat} {bs : Nat} {q : (Int × (Nat → Nat → Int))}

end S_X11_text
set_option maxHeartbeats 4000000 in
set_option maxRecDepth 100000 in
theorem C_X11_text (l : Launch) (D : va_G) (cA : Nat → ClassId) (sa ad : Nat → Nat) (bs : Nat) (v1 : Int) (c_v1 : Z_I v1) (σ : Nat → Nat → Int) (q : (Int × (Nat → Nat → Int))) (hf : f_X11_text v1 σ = some q) : AM l D cA sa ad bs 788 SHp yX11_text cX11_text 2 (some .int) 11 [.ref (ad 0), z_i v1] σ (some (z_i q.1)) (Z_I q.1) q.2 := by
  refine am_of (by decide +kernel) (Nat.le_of_ble_eq_true rfl) (fun p e s m args below meth c X hr => ?_)
  refine aw_lv (lv' := [(0, .ref (ad 0)), (1, z_i v1)]) rfl ?_
  unfold f_X11_text at hf
  refine aw_iload_n X 1 dX11_text_0 rfl rfl ?_
  refine aw_if_ne X (tgt := 28) c_v1 dX11_text_1 (by decide) (fun h1 => ?_) (fun h1 => ?_)
  · rw [if_neg h1] at hf
    refine aw_iload_n X 1 dX11_text_28 rfl rfl ?_
    refine aw_iconst X dX11_text_29 ?_
    refine aw_icmp_ne X (tgt := 41) c_v1 (z_lit (x := 1) (by decide)) dX11_text_30 (by decide) (fun h2 => ?_) (fun h2 => ?_)
    · rw [if_neg h2] at hf
      refine aw_iconst X dX11_text_41 ?_
      obtain rfl := Option.some.inj hf
      exact aw_iret X (z_lit (x := (-1)) (by decide)) hr rfl dX11_text_42
    · rw [if_pos h2] at hf
      refine aw_aload_n X 0 dX11_text_33 rfl rfl ?_
      refine aw_getI X s_0 fX11_134 rfl dX11_text_34 (fun c3 => ?_)
      refine aw_iconst X dX11_text_37 ?_
      refine aw_icmp_lt X (tgt := 43) c3 (z_lit (x := 4) (by decide)) dX11_text_38 (by decide) (fun h4 => ?_) (fun h4 => ?_)
      · rw [if_pos h4] at hf
        refine aw_aload_n X 0 dX11_text_43 rfl rfl ?_
        refine aw_getR X s_0 fX11_12 rfl dX11_text_44 ?_
        refine aw_aload_n X 0 dX11_text_47 rfl rfl ?_
        obtain ⟨q5, e6, hf⟩ := z_bd hf
        refine aw_callV X [] [.ref (ad 1)] [.ref (ad q5), .ref (ad 1)] cX11_115 s_0 ciX11 (C_X11_spareScript l D cA sa ad bs σ q5 e6) rfl ⟨(Nat.le_of_ble_eq_true rfl), (Nat.le_of_ble_eq_true rfl), (Nat.le_of_ble_eq_true rfl), (Nat.le_of_ble_eq_true rfl)⟩ rfl (Nat.le_of_ble_eq_true rfl) rfl dX11_text_48 (fun p7 => ?_)
        obtain ⟨q8, e9, hf⟩ := z_bd hf
        refine aw_callV X [.ref (ad q5)] [] [z_i q8.1] cX11_119 s_1 ciX10 (C_X10_readScript l D cA sa ad bs q5 p7 σ q8 e9) rfl ⟨(Nat.le_of_ble_eq_true rfl), (Nat.le_of_ble_eq_true rfl), (Nat.le_of_ble_eq_true rfl), (Nat.le_of_ble_eq_true rfl)⟩ rfl (Nat.le_of_ble_eq_true rfl) rfl dX11_text_51 (fun p10 => ?_)
        refine aw_iconst X dX11_text_54 ?_
        refine aw_icmp_ne X (tgt := 65) p10 (z_lit (x := (-1)) (by decide)) dX11_text_55 (by decide) (fun h11 => ?_) (fun h11 => ?_)
        · rw [if_neg h11] at hf
          refine aw_iconst X dX11_text_65 ?_
          obtain rfl := Option.some.inj hf
          exact aw_iret X (z_lit (x := (-1)) (by decide)) hr rfl dX11_text_66
        · rw [if_pos h11] at hf
          refine aw_aload_n X 0 dX11_text_58 rfl rfl ?_
          obtain ⟨q12, e13, hf⟩ := z_bd hf
          refine aw_callV X [] [] [z_i q12.1] cX11_137 s_0 ciX11 (C_X11_takeSpareScript l D cA sa ad bs q8.2 q12 e13) rfl ⟨(Nat.le_of_ble_eq_true rfl), (Nat.le_of_ble_eq_true rfl), (Nat.le_of_ble_eq_true rfl), (Nat.le_of_ble_eq_true rfl)⟩ rfl (Nat.le_of_ble_eq_true rfl) rfl dX11_text_59 (fun p14 => ?_)
          refine aw_goto X (tgt := 66) dX11_text_62 (by decide) ?_
          obtain rfl := Option.some.inj hf
          exact aw_iret X p14 hr rfl dX11_text_66
      · rw [if_neg h4] at hf
        refine aw_iconst X dX11_text_41 ?_
        obtain rfl := Option.some.inj hf
        exact aw_iret X (z_lit (x := (-1)) (by decide)) hr rfl dX11_text_42
  · rw [if_pos h1] at hf
    refine aw_aload_n X 0 dX11_text_4 rfl rfl ?_
    refine aw_getR X s_0 fX11_12 rfl dX11_text_5 ?_
    refine aw_aload_n X 0 dX11_text_8 rfl rfl ?_
    obtain ⟨g15, hf⟩ := z_gd hf
    refine aw_getV X s_0 fX11_28 rfl dX11_text_9 ?_
    obtain ⟨q16, e17, hf⟩ := z_bd hf
    refine aw_callV X [.ref (ad ((σ 0 3).toNat))] [] [z_i q16.1] cX11_111 s_1 ciX10 (C_X10_readChip l D cA sa ad bs ((σ 0 3).toNat) g15 σ q16 e17) rfl ⟨(Nat.le_of_ble_eq_true rfl), (Nat.le_of_ble_eq_true rfl), (Nat.le_of_ble_eq_true rfl), (Nat.le_of_ble_eq_true rfl)⟩ rfl (Nat.le_of_ble_eq_true rfl) rfl dX11_text_12 (fun p18 => ?_)
    refine aw_iconst X dX11_text_15 ?_
    refine aw_icmp_ne X (tgt := 26) p18 (z_lit (x := (-1)) (by decide)) dX11_text_16 (by decide) (fun h19 => ?_) (fun h19 => ?_)
    · rw [if_neg h19] at hf
      refine aw_iconst X dX11_text_26 ?_
      obtain rfl := Option.some.inj hf
      exact aw_iret X (z_lit (x := (-1)) (by decide)) hr rfl dX11_text_27
    · rw [if_pos h19] at hf
      refine aw_aload_n X 0 dX11_text_19 rfl rfl ?_
      obtain ⟨q20, e21, hf⟩ := z_bd hf
      refine aw_callV X [] [] [z_i q20.1] cX11_130 s_0 ciX11 (C_X11_takeDraft l D cA sa ad bs q16.2 q20 e21) rfl ⟨(Nat.le_of_ble_eq_true rfl), (Nat.le_of_ble_eq_true rfl), (Nat.le_of_ble_eq_true rfl), (Nat.le_of_ble_eq_true rfl)⟩ rfl (Nat.le_of_ble_eq_true rfl) rfl dX11_text_20 (fun p22 => ?_)
      refine aw_goto X (tgt := 27) dX11_text_23 (by decide) ?_
      obtain rfl := Option.some.inj hf
      exact aw_iret X p22 hr rfl dX11_text_27
-- SpeedDesk.rule(I)I
section S_X11_rule
variable {p : Program} {l : Launch} {e : Env} {s : State} {m : MethodId} {args : Array Value} {below : List Frame} {meth : Method} {c : Code} {D : va_G} {cA : Nat → ClassId} {sa ad : Nat → Nat} {bs : Nat} {q : Int}

end S_X11_rule
set_option maxHeartbeats 4000000 in
set_option maxRecDepth 100000 in
theorem C_X11_rule (l : Launch) (D : va_G) (cA : Nat → ClassId) (sa ad : Nat → Nat) (bs : Nat) (v1 : Int) (c_v1 : Z_I v1) (σ : Nat → Nat → Int) (q : Int) (hf : f_X11_rule v1 σ = some q) : AM l D cA sa ad bs 788 SHp yX11_rule cX11_rule 2 (some .int) 1 [.ref (ad 0), z_i v1] σ (some (z_i q)) (Z_I q) σ := by
  refine am_of (by decide +kernel) (Nat.le_of_ble_eq_true rfl) (fun p e s m args below meth c X hr => ?_)
  refine aw_lv (lv' := [(0, .ref (ad 0)), (1, z_i v1)]) rfl ?_
  unfold f_X11_rule at hf
  refine aw_aload_n X 0 dX11_rule_0 rfl rfl ?_
  obtain ⟨g1, hf⟩ := z_gd hf
  refine aw_getV X s_0 fX11_24 rfl dX11_rule_1 ?_
  obtain ⟨q2, e3, hf⟩ := z_bd hf
  refine aw_callV X [] [] [z_i q2] cX11_140 (sX1_0 ((σ 0 2).toNat) g1) ciX1 (C_X1_isTold l D cA sa ad bs ((σ 0 2).toNat) g1 σ q2 e3) rfl ⟨(Nat.le_of_ble_eq_true rfl), (Nat.le_of_ble_eq_true rfl), (Nat.le_of_ble_eq_true rfl), (Nat.le_of_ble_eq_true rfl)⟩ rfl (Nat.le_of_ble_eq_true rfl) rfl dX11_rule_4 (fun p4 => ?_)
  refine aw_if_eq X (tgt := 20) (z_zI p4) dX11_rule_7 (by decide) (fun h5 => ?_) (fun h5 => ?_)
  · rw [if_pos h5] at hf
    refine aw_iconst X dX11_rule_20 ?_
    obtain rfl := Option.some.inj hf
    exact aw_iret X (z_lit (x := (-1)) (by decide)) hr rfl dX11_rule_21
  · rw [if_neg h5] at hf
    refine aw_iload_n X 1 dX11_rule_10 rfl rfl ?_
    refine aw_if_lt X (tgt := 20) c_v1 dX11_rule_11 (by decide) (fun h6 => ?_) (fun h6 => ?_)
    · rw [if_pos h6] at hf
      refine aw_iconst X dX11_rule_20 ?_
      obtain rfl := Option.some.inj hf
      exact aw_iret X (z_lit (x := (-1)) (by decide)) hr rfl dX11_rule_21
    · rw [if_neg h6] at hf
      refine aw_iload_n X 1 dX11_rule_14 rfl rfl ?_
      refine aw_bipush X dX11_rule_15 (by decide) ?_
      refine aw_icmp_le X (tgt := 22) c_v1 (z_lit (x := 7) (by decide)) dX11_rule_17 (by decide) (fun h7 => ?_) (fun h7 => ?_)
      · rw [if_pos h7] at hf
        refine aw_iload_n X 1 dX11_rule_22 rfl rfl ?_
        refine aw_bipush X dX11_rule_23 (by decide) ?_
        refine aw_icmp_ge X (tgt := 38) c_v1 (z_lit (x := 6) (by decide)) dX11_rule_25 (by decide) (fun h8 => ?_) (fun h8 => ?_)
        · rw [if_pos h8] at hf
          refine aw_iload_n X 1 dX11_rule_38 rfl rfl ?_
          refine aw_bipush X dX11_rule_39 (by decide) ?_
          refine aw_icmp_ne X (tgt := 54) c_v1 (z_lit (x := 6) (by decide)) dX11_rule_41 (by decide) (fun h9 => ?_) (fun h9 => ?_)
          · rw [if_neg h9] at hf
            refine aw_aload_n X 0 dX11_rule_54 rfl rfl ?_
            obtain ⟨g10, hf⟩ := z_gd hf
            refine aw_getV X s_0 fX11_24 rfl dX11_rule_55 ?_
            refine aw_getI X (sX1_0 ((σ 0 2).toNat) g10) fX11_150 rfl dX11_rule_58 (fun c11 => ?_)
            obtain rfl := Option.some.inj hf
            exact aw_iret X c11 hr rfl dX11_rule_61
          · rw [if_pos h9] at hf
            refine aw_aload_n X 0 dX11_rule_44 rfl rfl ?_
            obtain ⟨g12, hf⟩ := z_gd hf
            refine aw_getV X s_0 fX11_24 rfl dX11_rule_45 ?_
            refine aw_getI X (sX1_0 ((σ 0 2).toNat) g12) fX11_147 rfl dX11_rule_48 (fun c13 => ?_)
            refine aw_goto X (tgt := 61) dX11_rule_51 (by decide) ?_
            obtain rfl := Option.some.inj hf
            exact aw_iret X c13 hr rfl dX11_rule_61
        · rw [if_neg h8] at hf
          refine aw_aload_n X 0 dX11_rule_28 rfl rfl ?_
          obtain ⟨g14, hf⟩ := z_gd hf
          refine aw_getV X s_0 fX11_24 rfl dX11_rule_29 ?_
          refine aw_getR X (sX1_0 ((σ 0 2).toNat) g14) fX11_144 rfl dX11_rule_32 ?_
          refine aw_iload_n X 1 dX11_rule_35 rfl rfl ?_
          obtain ⟨g15, hf⟩ := z_gd hf
          refine aw_iald X (j := v1.toNat) (sX1_18 ((σ 0 2).toNat) g14) c_v1 g15.1 g15.2 rfl dX11_rule_36 (fun c16 => ?_)
          obtain rfl := Option.some.inj hf
          exact aw_iret X c16 hr rfl dX11_rule_37
      · rw [if_neg h7] at hf
        refine aw_iconst X dX11_rule_20 ?_
        obtain rfl := Option.some.inj hf
        exact aw_iret X (z_lit (x := (-1)) (by decide)) hr rfl dX11_rule_21
-- SpeedDesk.point(III)I
section S_X11_point
variable {p : Program} {l : Launch} {e : Env} {s : State} {m : MethodId} {args : Array Value} {below : List Frame} {meth : Method} {c : Code} {D : va_G} {cA : Nat → ClassId} {sa ad : Nat → Nat} {bs : Nat} {q : Int}

end S_X11_point
set_option maxHeartbeats 4000000 in
set_option maxRecDepth 100000 in
theorem C_X11_point (l : Launch) (D : va_G) (cA : Nat → ClassId) (sa ad : Nat → Nat) (bs : Nat) (v1 : Int) (c_v1 : Z_I v1) (v2 : Int) (c_v2 : Z_I v2) (v3 : Int) (c_v3 : Z_I v3) (σ : Nat → Nat → Int) (q : Int) (hf : f_X11_point v1 v2 v3 σ = some q) : AM l D cA sa ad bs 788 SHp yX11_point cX11_point 4 (some .int) 1 [.ref (ad 0), z_i v1, z_i v2, z_i v3] σ (some (z_i q)) (Z_I q) σ := by
  refine am_of (by decide +kernel) (Nat.le_of_ble_eq_true rfl) (fun p e s m args below meth c X hr => ?_)
  refine aw_lv (lv' := [(0, .ref (ad 0)), (1, z_i v1), (2, z_i v2), (3, z_i v3)]) rfl ?_
  unfold f_X11_point at hf
  refine aw_aload_n X 0 dX11_point_0 rfl rfl ?_
  obtain ⟨g1, hf⟩ := z_gd hf
  refine aw_getV X s_0 fX11_24 rfl dX11_point_1 ?_
  refine aw_iload_n X 1 dX11_point_4 rfl rfl ?_
  refine aw_iload_n X 2 dX11_point_5 rfl rfl ?_
  obtain ⟨q2, e3, hf⟩ := z_bd hf
  refine aw_callV X [z_i v1, z_i v2] [] [z_i q2] cX11_167 (sX1_0 ((σ 0 2).toNat) g1) ciX1 (C_X1_hasPoint l D cA sa ad bs ((σ 0 2).toNat) g1 v1 c_v1 v2 c_v2 σ q2 e3) rfl ⟨(Nat.le_of_ble_eq_true rfl), (Nat.le_of_ble_eq_true rfl), (Nat.le_of_ble_eq_true rfl), (Nat.le_of_ble_eq_true rfl)⟩ rfl (Nat.le_of_ble_eq_true rfl) rfl dX11_point_6 (fun p4 => ?_)
  refine aw_if_eq X (tgt := 21) (z_zI p4) dX11_point_9 (by decide) (fun h5 => ?_) (fun h5 => ?_)
  · rw [if_pos h5] at hf
    refine aw_iconst X dX11_point_21 ?_
    obtain rfl := Option.some.inj hf
    exact aw_iret X (z_lit (x := (-1)) (by decide)) hr rfl dX11_point_22
  · rw [if_neg h5] at hf
    refine aw_iload_n X 3 dX11_point_12 rfl rfl ?_
    refine aw_if_lt X (tgt := 21) c_v3 dX11_point_13 (by decide) (fun h6 => ?_) (fun h6 => ?_)
    · rw [if_pos h6] at hf
      refine aw_iconst X dX11_point_21 ?_
      obtain rfl := Option.some.inj hf
      exact aw_iret X (z_lit (x := (-1)) (by decide)) hr rfl dX11_point_22
    · rw [if_neg h6] at hf
      refine aw_iload_n X 3 dX11_point_16 rfl rfl ?_
      refine aw_iconst X dX11_point_17 ?_
      refine aw_icmp_le X (tgt := 23) c_v3 (z_lit (x := 1) (by decide)) dX11_point_18 (by decide) (fun h7 => ?_) (fun h7 => ?_)
      · rw [if_pos h7] at hf
        refine aw_iload_n X 3 dX11_point_23 rfl rfl ?_
        refine aw_if_ne X (tgt := 41) c_v3 dX11_point_24 (by decide) (fun h8 => ?_) (fun h8 => ?_)
        · rw [if_neg h8] at hf
          refine aw_aload_n X 0 dX11_point_41 rfl rfl ?_
          obtain ⟨g9, hf⟩ := z_gd hf
          refine aw_getV X s_0 fX11_24 rfl dX11_point_42 ?_
          refine aw_getR X (sX1_0 ((σ 0 2).toNat) g9) fX11_175 rfl dX11_point_45 ?_
          refine aw_iload_n X 1 dX11_point_48 rfl rfl ?_
          obtain ⟨g10, hf⟩ := z_gd hf
          refine aw_aald X (kd := 3) (sX1_10 ((σ 0 2).toNat) g9) (by decide) c_v1 g10.1 g10.2 (tg_pts11 ((σ 0 2).toNat) _ (by omega)) dX11_point_49 ?_
          refine aw_iload_n X 2 dX11_point_50 rfl rfl ?_
          obtain ⟨g11, hf⟩ := z_gd hf
          refine aw_iald X (j := v2.toNat) (sX1_pt11 ((σ 0 2).toNat) g9 v1.toNat (by omega)) c_v2 g11.1 g11.2 rfl dX11_point_51 (fun c12 => ?_)
          obtain rfl := Option.some.inj hf
          exact aw_iret X c12 hr rfl dX11_point_52
        · rw [if_pos h8] at hf
          refine aw_aload_n X 0 dX11_point_27 rfl rfl ?_
          obtain ⟨g13, hf⟩ := z_gd hf
          refine aw_getV X s_0 fX11_24 rfl dX11_point_28 ?_
          refine aw_getR X (sX1_0 ((σ 0 2).toNat) g13) fX11_171 rfl dX11_point_31 ?_
          refine aw_iload_n X 1 dX11_point_34 rfl rfl ?_
          obtain ⟨g14, hf⟩ := z_gd hf
          refine aw_aald X (kd := 3) (sX1_6 ((σ 0 2).toNat) g13) (by decide) c_v1 g14.1 g14.2 (tg_pts7 ((σ 0 2).toNat) _ (by omega)) dX11_point_35 ?_
          refine aw_iload_n X 2 dX11_point_36 rfl rfl ?_
          obtain ⟨g15, hf⟩ := z_gd hf
          refine aw_iald X (j := v2.toNat) (sX1_pt7 ((σ 0 2).toNat) g13 v1.toNat (by omega)) c_v2 g15.1 g15.2 rfl dX11_point_37 (fun c16 => ?_)
          refine aw_goto X (tgt := 52) dX11_point_38 (by decide) ?_
          obtain rfl := Option.some.inj hf
          exact aw_iret X c16 hr rfl dX11_point_52
      · rw [if_neg h7] at hf
        refine aw_iconst X dX11_point_21 ?_
        obtain rfl := Option.some.inj hf
        exact aw_iret X (z_lit (x := (-1)) (by decide)) hr rfl dX11_point_22
-- SpeedDesk.tasksOn(I)I
section S_X11_tasksOn
variable {p : Program} {l : Launch} {e : Env} {s : State} {m : MethodId} {args : Array Value} {below : List Frame} {meth : Method} {c : Code} {D : va_G} {cA : Nat → ClassId} {sa ad : Nat → Nat} {bs : Nat} {q : Int}
set_option maxHeartbeats 4000000 in
set_option maxRecDepth 100000 in
theorem A_X11_tasksOn_35 (X : AX p s m args meth c D cA sa bs cX11_tasksOn 4 RX11) (hr : meth.sig.returnType = (some .int)) (σ : Nat → Nat → Int) (K4 : Int → Int → Int → (Nat → Nat → Int) → Option Int) (hK4 : ∀ (v1 : Int) (c_v1 : Z_I v1) (v2 : Int) (c_v2 : Z_I v2) (v3 : Int) (c_v3 : Z_I v3), K4 v1 v2 v3 σ = some q → AW p l e (ax_rm 1 0 0) s m args below meth c D cA ad bs 788 SHp 0 0 (ax_MQ below args s D cA ad bs 788 SHp 0 0 (some (z_i q)) (Z_I q) σ) 4 4 [(0, .ref (ad 0)), (1, z_i v1), (2, z_i v2), (3, z_i v3)] [] σ) (v1 : Int) (c_v1 : Z_I v1) (v3 : Int) (c_v3 : Z_I v3) (t0 : Int) (c_t0 : Z_I t0) (t1 : Int) (c_t1 : Z_I t1) (t2 : Int) (c_t2 : Z_I t2) (hf : f_X11_tasksOn_35 K4 v1 v3 t0 t1 t2 σ = some q) : AW p l e (ax_rm 1 0 0) s m args below meth c D cA ad bs 788 SHp 0 0 (ax_MQ below args s D cA ad bs 788 SHp 0 0 (some (z_i q)) (Z_I q) σ) 4 35 [(0, .ref (ad 0)), (1, z_i v1), (3, z_i v3)] [z_i t0, z_i t1, z_i t2] σ := by
  unfold f_X11_tasksOn_35 at hf
  obtain ⟨q7, e8, hf⟩ := z_bd hf
  refine aw_callS X [z_i t2, z_i t1, z_i t0] [] [z_i q7] cX11_447 (C_X11_withBit l D cA sa ad bs t2 c_t2 t1 c_t1 t0 c_t0 σ q7 e8) rfl ⟨(Nat.le_of_ble_eq_true rfl), (Nat.le_of_ble_eq_true rfl), (Nat.le_of_ble_eq_true rfl), (Nat.le_of_ble_eq_true rfl)⟩ rfl (Nat.le_of_ble_eq_true rfl) rfl dX11_tasksOn_35 (fun p9 => ?_)
  refine aw_istore_n X [(2, z_i q7), (0, .ref (ad 0)), (1, z_i v1), (3, z_i v3)] dX11_tasksOn_38 rfl (by decide) rfl ?_
  refine aw_iinc X 3 [(3, z_i (z_w (v3 + 1))), (2, z_i q7), (0, .ref (ad 0)), (1, z_i v1)] dX11_tasksOn_39 rfl (by decide) rfl ?_
  refine aw_goto X (tgt := 4) dX11_tasksOn_42 (by decide) ?_
  refine aw_sub [2, 3, 1, 0] rfl ?_
  exact hK4 v1 c_v1 q7 p9 (z_w (v3 + 1)) (z_w_in _) hf
set_option maxHeartbeats 4000000 in
set_option maxRecDepth 100000 in
theorem A_X11_tasksOn_4 (X : AX p s m args meth c D cA sa bs cX11_tasksOn 4 RX11) (hr : meth.sig.returnType = (some .int)) (σ : Nat → Nat → Int) : ∀ (k : Nat) (v1 : Int) (c_v1 : Z_I v1) (v2 : Int) (c_v2 : Z_I v2) (v3 : Int) (c_v3 : Z_I v3), f_X11_tasksOn_4 k v1 v2 v3 σ = some q → AW p l e (ax_rm 1 0 0) s m args below meth c D cA ad bs 788 SHp 0 0 (ax_MQ below args s D cA ad bs 788 SHp 0 0 (some (z_i q)) (Z_I q) σ) 4 4 [(0, .ref (ad 0)), (1, z_i v1), (2, z_i v2), (3, z_i v3)] [] σ := by
  intro k
  induction k with
  | zero =>
    intro v1 c_v1 v2 c_v2 v3 c_v3 hf
    unfold f_X11_tasksOn_4 at hf
    cases hf
  | succ k ih =>
    intro v1 c_v1 v2 c_v2 v3 c_v3 hf
    unfold f_X11_tasksOn_4 at hf
    refine aw_iload_n X 3 dX11_tasksOn_4 rfl rfl ?_
    refine aw_aload_n X 0 dX11_tasksOn_5 rfl rfl ?_
    obtain ⟨g1, hf⟩ := z_gd hf
    refine aw_getV X s_0 fX11_24 rfl dX11_tasksOn_6 ?_
    refine aw_getI X (sX1_0 ((σ 0 2).toNat) g1) fX11_414 rfl dX11_tasksOn_9 (fun c2 => ?_)
    refine aw_icmp_ge X (tgt := 45) c_v3 c2 dX11_tasksOn_12 (by decide) (fun h3 => ?_) (fun h3 => ?_)
    · rw [if_pos h3] at hf
      refine aw_iload_n X 2 dX11_tasksOn_45 rfl rfl ?_
      obtain rfl := Option.some.inj hf
      exact aw_iret X c_v2 hr rfl dX11_tasksOn_46
    · rw [if_neg h3] at hf
      refine aw_iload_n X 2 dX11_tasksOn_15 rfl rfl ?_
      refine aw_iload_n X 3 dX11_tasksOn_16 rfl rfl ?_
      refine aw_aload_n X 0 dX11_tasksOn_17 rfl rfl ?_
      refine aw_getR X s_0 fX11_42 rfl dX11_tasksOn_18 ?_
      refine aw_getR X (sX7_0 173 (by decide)) fX11_215 rfl dX11_tasksOn_21 ?_
      refine aw_iload_n X 3 dX11_tasksOn_24 rfl rfl ?_
      obtain ⟨g4, hf⟩ := z_gd hf
      refine aw_iald X (j := v3.toNat) (sX7_1 173 (by decide)) c_v3 g4.1 g4.2 rfl dX11_tasksOn_25 (fun c5 => ?_)
      refine aw_iload_n X 1 dX11_tasksOn_26 rfl rfl ?_
      refine aw_icmp_ne X (tgt := 34) c5 c_v1 dX11_tasksOn_27 (by decide) (fun h6 => ?_) (fun h6 => ?_)
      · simp only [if_neg h6] at hf
        refine aw_iconst X dX11_tasksOn_34 ?_
        refine aw_sub [0, 1, 3] rfl ?_
        exact A_X11_tasksOn_35 X hr σ (f_X11_tasksOn_4 k) ih v1 c_v1 v3 c_v3 0 (z_lit (x := 0) (by decide)) v3 c_v3 v2 c_v2 hf
      · simp only [if_pos h6] at hf
        refine aw_iconst X dX11_tasksOn_30 ?_
        refine aw_goto X (tgt := 35) dX11_tasksOn_31 (by decide) ?_
        refine aw_sub [0, 1, 3] rfl ?_
        exact A_X11_tasksOn_35 X hr σ (f_X11_tasksOn_4 k) ih v1 c_v1 v3 c_v3 1 (z_lit (x := 1) (by decide)) v3 c_v3 v2 c_v2 hf
end S_X11_tasksOn
set_option maxHeartbeats 4000000 in
set_option maxRecDepth 100000 in
theorem C_X11_tasksOn (l : Launch) (D : va_G) (cA : Nat → ClassId) (sa ad : Nat → Nat) (bs : Nat) (v1 : Int) (c_v1 : Z_I v1) (σ : Nat → Nat → Int) (q : Int) (hf : f_X11_tasksOn v1 σ = some q) : AM l D cA sa ad bs 788 SHp yX11_tasksOn cX11_tasksOn 4 (some .int) 1 [.ref (ad 0), z_i v1] σ (some (z_i q)) (Z_I q) σ := by
  refine am_of (by decide +kernel) (Nat.le_of_ble_eq_true rfl) (fun p e s m args below meth c X hr => ?_)
  refine aw_lv (lv' := [(0, .ref (ad 0)), (1, z_i v1)]) rfl ?_
  unfold f_X11_tasksOn at hf
  refine aw_iconst X dX11_tasksOn_0 ?_
  refine aw_istore_n X [(2, z_i 0), (0, .ref (ad 0)), (1, z_i v1)] dX11_tasksOn_1 rfl (by decide) rfl ?_
  refine aw_iconst X dX11_tasksOn_2 ?_
  refine aw_istore_n X [(3, z_i 0), (2, z_i 0), (0, .ref (ad 0)), (1, z_i v1)] dX11_tasksOn_3 rfl (by decide) rfl ?_
  refine aw_sub [2, 3, 1, 0] rfl ?_
  exact A_X11_tasksOn_4 X hr σ 100000 v1 c_v1 0 (z_lit (x := 0) (by decide)) 0 (z_lit (x := 0) (by decide)) hf
-- SpeedDesk.shareOf(I)I
section S_X11_shareOf
variable {p : Program} {l : Launch} {e : Env} {s : State} {m : MethodId} {args : Array Value} {below : List Frame} {meth : Method} {c : Code} {D : va_G} {cA : Nat → ClassId} {sa ad : Nat → Nat} {bs : Nat} {q : Int}

end S_X11_shareOf
set_option maxHeartbeats 4000000 in
set_option maxRecDepth 100000 in
theorem C_X11_shareOf (l : Launch) (D : va_G) (cA : Nat → ClassId) (sa ad : Nat → Nat) (bs : Nat) (v1 : Int) (c_v1 : Z_I v1) (σ : Nat → Nat → Int) (q : Int) (hf : f_X11_shareOf v1 σ = some q) : AM l D cA sa ad bs 788 SHp yX11_shareOf cX11_shareOf 2 (some .int) 2 [.ref (ad 0), z_i v1] σ (some (z_i q)) (Z_I q) σ := by
  refine am_of (by decide +kernel) (Nat.le_of_ble_eq_true rfl) (fun p e s m args below meth c X hr => ?_)
  refine aw_lv (lv' := [(0, .ref (ad 0)), (1, z_i v1)]) rfl ?_
  unfold f_X11_shareOf at hf
  refine aw_aload_n X 0 dX11_shareOf_0 rfl rfl ?_
  refine aw_getR X s_0 fX11_42 rfl dX11_shareOf_1 ?_
  refine aw_iload_n X 1 dX11_shareOf_4 rfl rfl ?_
  obtain ⟨q1, e2, hf⟩ := z_bd hf
  refine aw_callV X [z_i v1] [] [z_i q1] cX11_451 (sX7_0 173 (by decide)) ciX7 (C_X7_isStopped l D cA sa ad bs 173 (by decide) v1 c_v1 σ q1 e2) rfl ⟨(Nat.le_of_ble_eq_true rfl), (Nat.le_of_ble_eq_true rfl), (Nat.le_of_ble_eq_true rfl), (Nat.le_of_ble_eq_true rfl)⟩ rfl (Nat.le_of_ble_eq_true rfl) rfl dX11_shareOf_5 (fun p3 => ?_)
  refine aw_if_eq X (tgt := 15) (z_zI p3) dX11_shareOf_8 (by decide) (fun h4 => ?_) (fun h4 => ?_)
  · rw [if_pos h4] at hf
    refine aw_aload_n X 0 dX11_shareOf_15 rfl rfl ?_
    obtain ⟨g5, hf⟩ := z_gd hf
    refine aw_getV X s_0 fX11_24 rfl dX11_shareOf_16 ?_
    refine aw_iload_n X 1 dX11_shareOf_19 rfl rfl ?_
    obtain ⟨q6, e7, hf⟩ := z_bd hf
    refine aw_callV X [z_i v1] [] [z_i q6] cX11_454 (sX1_0 ((σ 0 2).toNat) g5) ciX1 (C_X1_shareOf l D cA sa ad bs ((σ 0 2).toNat) g5 v1 c_v1 σ q6 e7) rfl ⟨(Nat.le_of_ble_eq_true rfl), (Nat.le_of_ble_eq_true rfl), (Nat.le_of_ble_eq_true rfl), (Nat.le_of_ble_eq_true rfl)⟩ rfl (Nat.le_of_ble_eq_true rfl) rfl dX11_shareOf_20 (fun p8 => ?_)
    obtain rfl := Option.some.inj hf
    exact aw_iret X p8 hr rfl dX11_shareOf_23
  · rw [if_neg h4] at hf
    refine aw_iconst X dX11_shareOf_11 ?_
    refine aw_goto X (tgt := 23) dX11_shareOf_12 (by decide) ?_
    obtain rfl := Option.some.inj hf
    exact aw_iret X (z_lit (x := 0) (by decide)) hr rfl dX11_shareOf_23
-- SpeedDesk.sharesOn(I)I
section S_X11_sharesOn
variable {p : Program} {l : Launch} {e : Env} {s : State} {m : MethodId} {args : Array Value} {below : List Frame} {meth : Method} {c : Code} {D : va_G} {cA : Nat → ClassId} {sa ad : Nat → Nat} {bs : Nat} {q : Int}
set_option maxHeartbeats 4000000 in
set_option maxRecDepth 100000 in
theorem A_X11_sharesOn_4 (X : AX p s m args meth c D cA sa bs cX11_sharesOn 4 RX11) (hr : meth.sig.returnType = (some .int)) (σ : Nat → Nat → Int) : ∀ (k : Nat) (v1 : Int) (c_v1 : Z_I v1) (v2 : Int) (c_v2 : Z_I v2) (v3 : Int) (c_v3 : Z_I v3), f_X11_sharesOn_4 k v1 v2 v3 σ = some q → AW p l e (ax_rm 3 0 0) s m args below meth c D cA ad bs 788 SHp 0 0 (ax_MQ below args s D cA ad bs 788 SHp 0 0 (some (z_i q)) (Z_I q) σ) 4 4 [(0, .ref (ad 0)), (1, z_i v1), (2, z_i v2), (3, z_i v3)] [] σ := by
  intro k
  induction k with
  | zero =>
    intro v1 c_v1 v2 c_v2 v3 c_v3 hf
    unfold f_X11_sharesOn_4 at hf
    cases hf
  | succ k ih =>
    intro v1 c_v1 v2 c_v2 v3 c_v3 hf
    unfold f_X11_sharesOn_4 at hf
    refine aw_iload_n X 3 dX11_sharesOn_4 rfl rfl ?_
    refine aw_aload_n X 0 dX11_sharesOn_5 rfl rfl ?_
    obtain ⟨g1, hf⟩ := z_gd hf
    refine aw_getV X s_0 fX11_24 rfl dX11_sharesOn_6 ?_
    refine aw_getI X (sX1_0 ((σ 0 2).toNat) g1) fX11_414 rfl dX11_sharesOn_9 (fun c2 => ?_)
    refine aw_icmp_ge X (tgt := 46) c_v3 c2 dX11_sharesOn_12 (by decide) (fun h3 => ?_) (fun h3 => ?_)
    · rw [if_pos h3] at hf
      refine aw_iload_n X 2 dX11_sharesOn_46 rfl rfl ?_
      obtain rfl := Option.some.inj hf
      exact aw_iret X c_v2 hr rfl dX11_sharesOn_47
    · rw [if_neg h3] at hf
      refine aw_iload_n X 2 dX11_sharesOn_15 rfl rfl ?_
      refine aw_aload_n X 0 dX11_sharesOn_16 rfl rfl ?_
      refine aw_getR X s_0 fX11_42 rfl dX11_sharesOn_17 ?_
      refine aw_getR X (sX7_0 173 (by decide)) fX11_215 rfl dX11_sharesOn_20 ?_
      refine aw_iload_n X 3 dX11_sharesOn_23 rfl rfl ?_
      obtain ⟨g4, hf⟩ := z_gd hf
      refine aw_iald X (j := v3.toNat) (sX7_1 173 (by decide)) c_v3 g4.1 g4.2 rfl dX11_sharesOn_24 (fun c5 => ?_)
      refine aw_iload_n X 1 dX11_sharesOn_25 rfl rfl ?_
      refine aw_icmp_ne X (tgt := 37) c5 c_v1 dX11_sharesOn_26 (by decide) (fun h6 => ?_) (fun h6 => ?_)
      · rw [if_neg h6] at hf
        refine aw_iconst X dX11_sharesOn_37 ?_
        refine aw_iadd X dX11_sharesOn_38 ?_
        refine aw_istore_n X [(2, z_i (z_w (v2 + 0))), (0, .ref (ad 0)), (1, z_i v1), (3, z_i v3)] dX11_sharesOn_39 rfl (by decide) rfl ?_
        refine aw_iinc X 3 [(3, z_i (z_w (v3 + 1))), (2, z_i (z_w (v2 + 0))), (0, .ref (ad 0)), (1, z_i v1)] dX11_sharesOn_40 rfl (by decide) rfl ?_
        refine aw_goto X (tgt := 4) dX11_sharesOn_43 (by decide) ?_
        refine aw_sub [2, 3, 1, 0] rfl ?_
        exact ih v1 c_v1 (z_w (v2 + 0)) (z_w_in _) (z_w (v3 + 1)) (z_w_in _) hf
      · rw [if_pos h6] at hf
        refine aw_aload_n X 0 dX11_sharesOn_29 rfl rfl ?_
        refine aw_iload_n X 3 dX11_sharesOn_30 rfl rfl ?_
        obtain ⟨q7, e8, hf⟩ := z_bd hf
        refine aw_callV X [z_i v3] [z_i v2] [z_i q7, z_i v2] cX11_230 s_0 ciX11 (C_X11_shareOf l D cA sa ad bs v3 c_v3 σ q7 e8) rfl ⟨(Nat.le_of_ble_eq_true rfl), (Nat.le_of_ble_eq_true rfl), (Nat.le_of_ble_eq_true rfl), (Nat.le_of_ble_eq_true rfl)⟩ rfl (Nat.le_of_ble_eq_true rfl) rfl dX11_sharesOn_31 (fun p9 => ?_)
        refine aw_goto X (tgt := 38) dX11_sharesOn_34 (by decide) ?_
        refine aw_iadd X dX11_sharesOn_38 ?_
        refine aw_istore_n X [(2, z_i (z_w (v2 + q7))), (0, .ref (ad 0)), (1, z_i v1), (3, z_i v3)] dX11_sharesOn_39 rfl (by decide) rfl ?_
        refine aw_iinc X 3 [(3, z_i (z_w (v3 + 1))), (2, z_i (z_w (v2 + q7))), (0, .ref (ad 0)), (1, z_i v1)] dX11_sharesOn_40 rfl (by decide) rfl ?_
        refine aw_goto X (tgt := 4) dX11_sharesOn_43 (by decide) ?_
        refine aw_sub [2, 3, 1, 0] rfl ?_
        exact ih v1 c_v1 (z_w (v2 + q7)) (z_w_in _) (z_w (v3 + 1)) (z_w_in _) hf
end S_X11_sharesOn
set_option maxHeartbeats 4000000 in
set_option maxRecDepth 100000 in
theorem C_X11_sharesOn (l : Launch) (D : va_G) (cA : Nat → ClassId) (sa ad : Nat → Nat) (bs : Nat) (v1 : Int) (c_v1 : Z_I v1) (σ : Nat → Nat → Int) (q : Int) (hf : f_X11_sharesOn v1 σ = some q) : AM l D cA sa ad bs 788 SHp yX11_sharesOn cX11_sharesOn 4 (some .int) 3 [.ref (ad 0), z_i v1] σ (some (z_i q)) (Z_I q) σ := by
  refine am_of (by decide +kernel) (Nat.le_of_ble_eq_true rfl) (fun p e s m args below meth c X hr => ?_)
  refine aw_lv (lv' := [(0, .ref (ad 0)), (1, z_i v1)]) rfl ?_
  unfold f_X11_sharesOn at hf
  refine aw_iconst X dX11_sharesOn_0 ?_
  refine aw_istore_n X [(2, z_i 0), (0, .ref (ad 0)), (1, z_i v1)] dX11_sharesOn_1 rfl (by decide) rfl ?_
  refine aw_iconst X dX11_sharesOn_2 ?_
  refine aw_istore_n X [(3, z_i 0), (2, z_i 0), (0, .ref (ad 0)), (1, z_i v1)] dX11_sharesOn_3 rfl (by decide) rfl ?_
  refine aw_sub [2, 3, 1, 0] rfl ?_
  exact A_X11_sharesOn_4 X hr σ 100000 v1 c_v1 0 (z_lit (x := 0) (by decide)) 0 (z_lit (x := 0) (by decide)) hf
-- SpeedDesk.core(II)I
section S_X11_core
variable {p : Program} {l : Launch} {e : Env} {s : State} {m : MethodId} {args : Array Value} {below : List Frame} {meth : Method} {c : Code} {D : va_G} {cA : Nat → ClassId} {sa ad : Nat → Nat} {bs : Nat} {q : Int}

end S_X11_core
set_option maxHeartbeats 4000000 in
set_option maxRecDepth 100000 in
theorem C_X11_core (l : Launch) (D : va_G) (cA : Nat → ClassId) (sa ad : Nat → Nat) (bs : Nat) (v1 : Int) (c_v1 : Z_I v1) (v2 : Int) (c_v2 : Z_I v2) (σ : Nat → Nat → Int) (q : Int) (hf : f_X11_core v1 v2 σ = some q) : AM l D cA sa ad bs 788 SHp yX11_core cX11_core 3 (some .int) 4 [.ref (ad 0), z_i v1, z_i v2] σ (some (z_i q)) (Z_I q) σ := by
  refine am_of (by decide +kernel) (Nat.le_of_ble_eq_true rfl) (fun p e s m args below meth c X hr => ?_)
  refine aw_lv (lv' := [(0, .ref (ad 0)), (1, z_i v1), (2, z_i v2)]) rfl ?_
  unfold f_X11_core at hf
  refine aw_aload_n X 0 dX11_core_0 rfl rfl ?_
  obtain ⟨g1, hf⟩ := z_gd hf
  refine aw_getV X s_0 fX11_24 rfl dX11_core_1 ?_
  refine aw_iload_n X 1 dX11_core_4 rfl rfl ?_
  obtain ⟨q2, e3, hf⟩ := z_bd hf
  refine aw_callV X [z_i v1] [] [z_i q2] cX11_178 (sX1_0 ((σ 0 2).toNat) g1) ciX1 (C_X1_hasCore l D cA sa ad bs ((σ 0 2).toNat) g1 v1 c_v1 σ q2 e3) rfl ⟨(Nat.le_of_ble_eq_true rfl), (Nat.le_of_ble_eq_true rfl), (Nat.le_of_ble_eq_true rfl), (Nat.le_of_ble_eq_true rfl)⟩ rfl (Nat.le_of_ble_eq_true rfl) rfl dX11_core_5 (fun p4 => ?_)
  refine aw_if_ne X (tgt := 14) (z_zI p4) dX11_core_8 (by decide) (fun h5 => ?_) (fun h5 => ?_)
  · rw [if_neg h5] at hf
    refine aw_iload_n X 2 dX11_core_14 rfl rfl ?_
    by_cases h6 : v2 = 0
    · rw [if_pos h6] at hf
      refine aw_tabIn X (tgt := 48) c_v2 dX11_core_15 (by omega) (by omega) (by rw [h6]; rfl) (by decide) ?_
      refine aw_aload_n X 0 dX11_core_48 rfl rfl ?_
      obtain ⟨g7, hf⟩ := z_gd hf
      refine aw_getV X s_0 fX11_24 rfl dX11_core_49 ?_
      refine aw_getR X (sX1_0 ((σ 0 2).toNat) g7) fX11_182 rfl dX11_core_52 ?_
      refine aw_iload_n X 1 dX11_core_55 rfl rfl ?_
      obtain ⟨g8, hf⟩ := z_gd hf
      refine aw_iald X (j := v1.toNat) (sX1_14 ((σ 0 2).toNat) g7) c_v1 g8.1 g8.2 rfl dX11_core_56 (fun c9 => ?_)
      obtain rfl := Option.some.inj hf
      exact aw_iret X c9 hr rfl dX11_core_57
    rw [if_neg h6] at hf
    by_cases h10 : v2 = 1
    · rw [if_pos h10] at hf
      refine aw_tabIn X (tgt := 58) c_v2 dX11_core_15 (by omega) (by omega) (by rw [h10]; rfl) (by decide) ?_
      refine aw_aload_n X 0 dX11_core_58 rfl rfl ?_
      refine aw_getR X s_0 fX11_42 rfl dX11_core_59 ?_
      refine aw_getI X (sX7_0 173 (by decide)) fX11_185 rfl dX11_core_62 (fun c11 => ?_)
      refine aw_iload_n X 1 dX11_core_65 rfl rfl ?_
      obtain ⟨q12, e13, hf⟩ := z_bd hf
      refine aw_callS X [z_i (σ 173 6), z_i v1] [] [z_i q12] cX11_188 (C_X11_bitOf l D cA sa ad bs (σ 173 6) c11 v1 c_v1 σ q12 e13) rfl ⟨(Nat.le_of_ble_eq_true rfl), (Nat.le_of_ble_eq_true rfl), (Nat.le_of_ble_eq_true rfl), (Nat.le_of_ble_eq_true rfl)⟩ rfl (Nat.le_of_ble_eq_true rfl) rfl dX11_core_66 (fun p14 => ?_)
      obtain rfl := Option.some.inj hf
      exact aw_iret X p14 hr rfl dX11_core_69
    rw [if_neg h10] at hf
    by_cases h15 : v2 = 2
    · rw [if_pos h15] at hf
      refine aw_tabIn X (tgt := 70) c_v2 dX11_core_15 (by omega) (by omega) (by rw [h15]; rfl) (by decide) ?_
      refine aw_aload_n X 0 dX11_core_70 rfl rfl ?_
      refine aw_getR X s_0 fX11_42 rfl dX11_core_71 ?_
      refine aw_getR X (sX7_0 173 (by decide)) fX11_191 rfl dX11_core_74 ?_
      refine aw_iload_n X 1 dX11_core_77 rfl rfl ?_
      obtain ⟨g16, hf⟩ := z_gd hf
      refine aw_iald X (j := v1.toNat) (sX7_8 173 (by decide)) c_v1 g16.1 g16.2 rfl dX11_core_78 (fun c17 => ?_)
      obtain rfl := Option.some.inj hf
      exact aw_iret X c17 hr rfl dX11_core_79
    rw [if_neg h15] at hf
    by_cases h18 : v2 = 3
    · rw [if_pos h18] at hf
      refine aw_tabIn X (tgt := 80) c_v2 dX11_core_15 (by omega) (by omega) (by rw [h18]; rfl) (by decide) ?_
      refine aw_aload_n X 0 dX11_core_80 rfl rfl ?_
      refine aw_iload_n X 1 dX11_core_81 rfl rfl ?_
      obtain ⟨q19, e20, hf⟩ := z_bd hf
      refine aw_callV X [z_i v1] [] [z_i q19] cX11_194 s_0 ciX11 (C_X11_tasksOn l D cA sa ad bs v1 c_v1 σ q19 e20) rfl ⟨(Nat.le_of_ble_eq_true rfl), (Nat.le_of_ble_eq_true rfl), (Nat.le_of_ble_eq_true rfl), (Nat.le_of_ble_eq_true rfl)⟩ rfl (Nat.le_of_ble_eq_true rfl) rfl dX11_core_82 (fun p21 => ?_)
      obtain rfl := Option.some.inj hf
      exact aw_iret X p21 hr rfl dX11_core_85
    rw [if_neg h18] at hf
    by_cases h22 : v2 = 4
    · rw [if_pos h22] at hf
      refine aw_tabIn X (tgt := 86) c_v2 dX11_core_15 (by omega) (by omega) (by rw [h22]; rfl) (by decide) ?_
      refine aw_aload_n X 0 dX11_core_86 rfl rfl ?_
      refine aw_getR X s_0 fX11_80 rfl dX11_core_87 ?_
      refine aw_aload_n X 0 dX11_core_90 rfl rfl ?_
      obtain ⟨g23, hf⟩ := z_gd hf
      refine aw_getV X s_0 fX11_24 rfl dX11_core_91 ?_
      refine aw_aload_n X 0 dX11_core_94 rfl rfl ?_
      refine aw_getR X s_0 fX11_42 rfl dX11_core_95 ?_
      refine aw_aload_n X 0 dX11_core_98 rfl rfl ?_
      obtain ⟨g24, hf⟩ := z_gd hf
      refine aw_getV X s_0 fX11_24 rfl dX11_core_99 ?_
      refine aw_getR X (sX1_0 ((σ 0 2).toNat) g24) fX11_182 rfl dX11_core_102 ?_
      refine aw_iload_n X 1 dX11_core_105 rfl rfl ?_
      obtain ⟨g25, hf⟩ := z_gd hf
      refine aw_iald X (j := v1.toNat) (sX1_14 ((σ 0 2).toNat) g24) c_v1 g25.1 g25.2 rfl dX11_core_106 (fun c26 => ?_)
      obtain ⟨q27, e28, hf⟩ := z_bd hf
      refine aw_callV X [.ref (ad ((σ 0 2).toNat)), .ref (ad 173), z_i (σ (((σ 0 2).toNat) + 14) v1.toNat)] [] [z_i q27] cX11_197 s_743 ciX2 (C_X2_speedOf l D cA sa ad bs ((σ 0 2).toNat) g23 173 (by decide) (σ (((σ 0 2).toNat) + 14) v1.toNat) c26 σ q27 e28) rfl ⟨(Nat.le_of_ble_eq_true rfl), (Nat.le_of_ble_eq_true rfl), (Nat.le_of_ble_eq_true rfl), (Nat.le_of_ble_eq_true rfl)⟩ rfl (Nat.le_of_ble_eq_true rfl) rfl dX11_core_107 (fun p29 => ?_)
      refine aw_aload_n X 0 dX11_core_110 rfl rfl ?_
      refine aw_iload_n X 1 dX11_core_111 rfl rfl ?_
      obtain ⟨q30, e31, hf⟩ := z_bd hf
      refine aw_callV X [z_i v1] [z_i q27] [z_i q30, z_i q27] cX11_203 s_0 ciX11 (C_X11_sharesOn l D cA sa ad bs v1 c_v1 σ q30 e31) rfl ⟨(Nat.le_of_ble_eq_true rfl), (Nat.le_of_ble_eq_true rfl), (Nat.le_of_ble_eq_true rfl), (Nat.le_of_ble_eq_true rfl)⟩ rfl (Nat.le_of_ble_eq_true rfl) rfl dX11_core_112 (fun p32 => ?_)
      refine aw_isub X dX11_core_115 ?_
      obtain rfl := Option.some.inj hf
      exact aw_iret X (z_w_in _) hr rfl dX11_core_116
    rw [if_neg h22] at hf
    refine aw_tabOut X (tgt := 117) c_v2 dX11_core_15 (by omega) (by decide) ?_
    refine aw_ldc X (x := (-1000000)) dX11_core_117 kX11_181 (by decide) ?_
    obtain rfl := Option.some.inj hf
    exact aw_iret X (z_lit (x := (-1000000)) (by decide)) hr rfl dX11_core_119
  · rw [if_pos h5] at hf
    refine aw_ldc X (x := (-1000000)) dX11_core_11 kX11_181 (by decide) ?_
    obtain rfl := Option.some.inj hf
    exact aw_iret X (z_lit (x := (-1000000)) (by decide)) hr rfl dX11_core_13
-- SpeedDesk.task(II)I
section S_X11_task
variable {p : Program} {l : Launch} {e : Env} {s : State} {m : MethodId} {args : Array Value} {below : List Frame} {meth : Method} {c : Code} {D : va_G} {cA : Nat → ClassId} {sa ad : Nat → Nat} {bs : Nat} {q : Int}

end S_X11_task
set_option maxHeartbeats 4000000 in
set_option maxRecDepth 100000 in
theorem C_X11_task (l : Launch) (D : va_G) (cA : Nat → ClassId) (sa ad : Nat → Nat) (bs : Nat) (v1 : Int) (c_v1 : Z_I v1) (v2 : Int) (c_v2 : Z_I v2) (σ : Nat → Nat → Int) (q : Int) (hf : f_X11_task v1 v2 σ = some q) : AM l D cA sa ad bs 788 SHp yX11_task cX11_task 3 (some .int) 3 [.ref (ad 0), z_i v1, z_i v2] σ (some (z_i q)) (Z_I q) σ := by
  refine am_of (by decide +kernel) (Nat.le_of_ble_eq_true rfl) (fun p e s m args below meth c X hr => ?_)
  refine aw_lv (lv' := [(0, .ref (ad 0)), (1, z_i v1), (2, z_i v2)]) rfl ?_
  unfold f_X11_task at hf
  refine aw_aload_n X 0 dX11_task_0 rfl rfl ?_
  obtain ⟨g1, hf⟩ := z_gd hf
  refine aw_getV X s_0 fX11_24 rfl dX11_task_1 ?_
  refine aw_iload_n X 1 dX11_task_4 rfl rfl ?_
  obtain ⟨q2, e3, hf⟩ := z_bd hf
  refine aw_callV X [z_i v1] [] [z_i q2] cX11_206 (sX1_0 ((σ 0 2).toNat) g1) ciX1 (C_X1_hasTask l D cA sa ad bs ((σ 0 2).toNat) g1 v1 c_v1 σ q2 e3) rfl ⟨(Nat.le_of_ble_eq_true rfl), (Nat.le_of_ble_eq_true rfl), (Nat.le_of_ble_eq_true rfl), (Nat.le_of_ble_eq_true rfl)⟩ rfl (Nat.le_of_ble_eq_true rfl) rfl dX11_task_5 (fun p4 => ?_)
  refine aw_if_ne X (tgt := 13) (z_zI p4) dX11_task_8 (by decide) (fun h5 => ?_) (fun h5 => ?_)
  · rw [if_neg h5] at hf
    refine aw_iload_n X 2 dX11_task_13 rfl rfl ?_
    by_cases h6 : v2 = 0
    · rw [if_pos h6] at hf
      refine aw_tabIn X (tgt := 60) c_v2 dX11_task_14 (by omega) (by omega) (by rw [h6]; rfl) (by decide) ?_
      refine aw_aload_n X 0 dX11_task_60 rfl rfl ?_
      obtain ⟨g7, hf⟩ := z_gd hf
      refine aw_getV X s_0 fX11_24 rfl dX11_task_61 ?_
      refine aw_getR X (sX1_0 ((σ 0 2).toNat) g7) fX11_209 rfl dX11_task_64 ?_
      refine aw_iload_n X 1 dX11_task_67 rfl rfl ?_
      obtain ⟨g8, hf⟩ := z_gd hf
      refine aw_iald X (j := v1.toNat) (sX1_16 ((σ 0 2).toNat) g7) c_v1 g8.1 g8.2 rfl dX11_task_68 (fun c9 => ?_)
      obtain rfl := Option.some.inj hf
      exact aw_iret X c9 hr rfl dX11_task_69
    rw [if_neg h6] at hf
    by_cases h10 : v2 = 1
    · rw [if_pos h10] at hf
      refine aw_tabIn X (tgt := 70) c_v2 dX11_task_14 (by omega) (by omega) (by rw [h10]; rfl) (by decide) ?_
      refine aw_aload_n X 0 dX11_task_70 rfl rfl ?_
      obtain ⟨g11, hf⟩ := z_gd hf
      refine aw_getV X s_0 fX11_24 rfl dX11_task_71 ?_
      refine aw_getR X (sX1_0 ((σ 0 2).toNat) g11) fX11_212 rfl dX11_task_74 ?_
      refine aw_iload_n X 1 dX11_task_77 rfl rfl ?_
      obtain ⟨g12, hf⟩ := z_gd hf
      refine aw_iald X (j := v1.toNat) (sX1_17 ((σ 0 2).toNat) g11) c_v1 g12.1 g12.2 rfl dX11_task_78 (fun c13 => ?_)
      obtain rfl := Option.some.inj hf
      exact aw_iret X c13 hr rfl dX11_task_79
    rw [if_neg h10] at hf
    by_cases h14 : v2 = 2
    · rw [if_pos h14] at hf
      refine aw_tabIn X (tgt := 80) c_v2 dX11_task_14 (by omega) (by omega) (by rw [h14]; rfl) (by decide) ?_
      refine aw_aload_n X 0 dX11_task_80 rfl rfl ?_
      refine aw_getR X s_0 fX11_42 rfl dX11_task_81 ?_
      refine aw_getR X (sX7_0 173 (by decide)) fX11_215 rfl dX11_task_84 ?_
      refine aw_iload_n X 1 dX11_task_87 rfl rfl ?_
      obtain ⟨g15, hf⟩ := z_gd hf
      refine aw_iald X (j := v1.toNat) (sX7_1 173 (by decide)) c_v1 g15.1 g15.2 rfl dX11_task_88 (fun c16 => ?_)
      obtain rfl := Option.some.inj hf
      exact aw_iret X c16 hr rfl dX11_task_89
    rw [if_neg h14] at hf
    by_cases h17 : v2 = 3
    · rw [if_pos h17] at hf
      refine aw_tabIn X (tgt := 90) c_v2 dX11_task_14 (by omega) (by omega) (by rw [h17]; rfl) (by decide) ?_
      refine aw_aload_n X 0 dX11_task_90 rfl rfl ?_
      refine aw_getR X s_0 fX11_42 rfl dX11_task_91 ?_
      refine aw_getR X (sX7_0 173 (by decide)) fX11_218 rfl dX11_task_94 ?_
      refine aw_iload_n X 1 dX11_task_97 rfl rfl ?_
      obtain ⟨g18, hf⟩ := z_gd hf
      refine aw_iald X (j := v1.toNat) (sX7_2 173 (by decide)) c_v1 g18.1 g18.2 rfl dX11_task_98 (fun c19 => ?_)
      obtain rfl := Option.some.inj hf
      exact aw_iret X c19 hr rfl dX11_task_99
    rw [if_neg h17] at hf
    by_cases h20 : v2 = 4
    · rw [if_pos h20] at hf
      refine aw_tabIn X (tgt := 100) c_v2 dX11_task_14 (by omega) (by omega) (by rw [h20]; rfl) (by decide) ?_
      refine aw_aload_n X 0 dX11_task_100 rfl rfl ?_
      refine aw_getR X s_0 fX11_42 rfl dX11_task_101 ?_
      refine aw_getR X (sX7_0 173 (by decide)) fX11_221 rfl dX11_task_104 ?_
      refine aw_iload_n X 1 dX11_task_107 rfl rfl ?_
      obtain ⟨g21, hf⟩ := z_gd hf
      refine aw_iald X (j := v1.toNat) (sX7_3 173 (by decide)) c_v1 g21.1 g21.2 rfl dX11_task_108 (fun c22 => ?_)
      obtain rfl := Option.some.inj hf
      exact aw_iret X c22 hr rfl dX11_task_109
    rw [if_neg h20] at hf
    by_cases h23 : v2 = 5
    · rw [if_pos h23] at hf
      refine aw_tabIn X (tgt := 110) c_v2 dX11_task_14 (by omega) (by omega) (by rw [h23]; rfl) (by decide) ?_
      refine aw_aload_n X 0 dX11_task_110 rfl rfl ?_
      refine aw_getR X s_0 fX11_42 rfl dX11_task_111 ?_
      refine aw_getR X (sX7_0 173 (by decide)) fX11_224 rfl dX11_task_114 ?_
      refine aw_iload_n X 1 dX11_task_117 rfl rfl ?_
      obtain ⟨g24, hf⟩ := z_gd hf
      refine aw_iald X (j := v1.toNat) (sX7_4 173 (by decide)) c_v1 g24.1 g24.2 rfl dX11_task_118 (fun c25 => ?_)
      obtain rfl := Option.some.inj hf
      exact aw_iret X c25 hr rfl dX11_task_119
    rw [if_neg h23] at hf
    by_cases h26 : v2 = 6
    · rw [if_pos h26] at hf
      refine aw_tabIn X (tgt := 120) c_v2 dX11_task_14 (by omega) (by omega) (by rw [h26]; rfl) (by decide) ?_
      refine aw_aload_n X 0 dX11_task_120 rfl rfl ?_
      refine aw_getR X s_0 fX11_42 rfl dX11_task_121 ?_
      refine aw_getI X (sX7_0 173 (by decide)) fX11_227 rfl dX11_task_124 (fun c27 => ?_)
      refine aw_iload_n X 1 dX11_task_127 rfl rfl ?_
      obtain ⟨q28, e29, hf⟩ := z_bd hf
      refine aw_callS X [z_i (σ 173 5), z_i v1] [] [z_i q28] cX11_188 (C_X11_bitOf l D cA sa ad bs (σ 173 5) c27 v1 c_v1 σ q28 e29) rfl ⟨(Nat.le_of_ble_eq_true rfl), (Nat.le_of_ble_eq_true rfl), (Nat.le_of_ble_eq_true rfl), (Nat.le_of_ble_eq_true rfl)⟩ rfl (Nat.le_of_ble_eq_true rfl) rfl dX11_task_128 (fun p30 => ?_)
      obtain rfl := Option.some.inj hf
      exact aw_iret X p30 hr rfl dX11_task_131
    rw [if_neg h26] at hf
    by_cases h31 : v2 = 7
    · rw [if_pos h31] at hf
      refine aw_tabIn X (tgt := 132) c_v2 dX11_task_14 (by omega) (by omega) (by rw [h31]; rfl) (by decide) ?_
      refine aw_aload_n X 0 dX11_task_132 rfl rfl ?_
      refine aw_iload_n X 1 dX11_task_133 rfl rfl ?_
      obtain ⟨q32, e33, hf⟩ := z_bd hf
      refine aw_callV X [z_i v1] [] [z_i q32] cX11_230 s_0 ciX11 (C_X11_shareOf l D cA sa ad bs v1 c_v1 σ q32 e33) rfl ⟨(Nat.le_of_ble_eq_true rfl), (Nat.le_of_ble_eq_true rfl), (Nat.le_of_ble_eq_true rfl), (Nat.le_of_ble_eq_true rfl)⟩ rfl (Nat.le_of_ble_eq_true rfl) rfl dX11_task_134 (fun p34 => ?_)
      obtain rfl := Option.some.inj hf
      exact aw_iret X p34 hr rfl dX11_task_137
    rw [if_neg h31] at hf
    refine aw_tabOut X (tgt := 138) c_v2 dX11_task_14 (by omega) (by decide) ?_
    refine aw_iconst X dX11_task_138 ?_
    obtain rfl := Option.some.inj hf
    exact aw_iret X (z_lit (x := (-1)) (by decide)) hr rfl dX11_task_139
  · rw [if_pos h5] at hf
    refine aw_iconst X dX11_task_11 ?_
    obtain rfl := Option.some.inj hf
    exact aw_iret X (z_lit (x := (-1)) (by decide)) hr rfl dX11_task_12
-- SpeedDesk.letterOf(JI)I
section S_X11_letterOf
variable {p : Program} {l : Launch} {e : Env} {s : State} {m : MethodId} {args : Array Value} {below : List Frame} {meth : Method} {c : Code} {D : va_G} {cA : Nat → ClassId} {sa ad : Nat → Nat} {bs : Nat} {q : Int}
set_option maxHeartbeats 4000000 in
set_option maxRecDepth 100000 in
theorem A_X11_letterOf_5 (X : AX p s m args meth c D cA sa bs cX11_letterOf 5 RX11) (hr : meth.sig.returnType = (some .int)) (σ : Nat → Nat → Int) : ∀ (k : Nat) (v0 : Int) (c_v0 : Z_L v0) (v2 : Int) (c_v2 : Z_I v2) (v3 : Int) (c_v3 : Z_I v3) (v4 : Int) (c_v4 : Z_I v4), f_X11_letterOf_5 k v0 v2 v3 v4 σ = some q → AW p l e (ax_rm 0 0 0) s m args below meth c D cA ad bs 788 SHp 0 0 (ax_MQ below args s D cA ad bs 788 SHp 0 0 (some (z_i q)) (Z_I q) σ) 5 5 [(0, z_v v0), (2, z_i v2), (3, z_i v3), (4, z_i v4)] [] σ := by
  intro k
  induction k with
  | zero =>
    intro v0 c_v0 v2 c_v2 v3 c_v3 v4 c_v4 hf
    unfold f_X11_letterOf_5 at hf
    cases hf
  | succ k ih =>
    intro v0 c_v0 v2 c_v2 v3 c_v3 v4 c_v4 hf
    unfold f_X11_letterOf_5 at hf
    refine aw_iload X 3 dX11_letterOf_5 rfl ?_
    refine aw_bipush X dX11_letterOf_7 (by decide) ?_
    refine aw_icmp_ge X (tgt := 34) c_v4 (z_lit (x := 56) (by decide)) dX11_letterOf_9 (by decide) (fun h1 => ?_) (fun h1 => ?_)
    · rw [if_pos h1] at hf
      refine aw_iload_n X 1 dX11_letterOf_34 rfl rfl ?_
      refine aw_if_lt X (tgt := 43) c_v2 dX11_letterOf_35 (by decide) (fun h2 => ?_) (fun h2 => ?_)
      · rw [if_pos h2] at hf
        refine aw_iconst X dX11_letterOf_43 ?_
        obtain rfl := Option.some.inj hf
        exact aw_iret X (z_lit (x := (-1)) (by decide)) hr rfl dX11_letterOf_44
      · rw [if_neg h2] at hf
        refine aw_iload_n X 1 dX11_letterOf_38 rfl rfl ?_
        refine aw_iload_n X 2 dX11_letterOf_39 rfl rfl ?_
        refine aw_icmp_lt X (tgt := 45) c_v2 c_v3 dX11_letterOf_40 (by decide) (fun h3 => ?_) (fun h3 => ?_)
        · rw [if_pos h3] at hf
          refine aw_lload_n X 0 dX11_letterOf_45 rfl rfl ?_
          refine aw_bipush X dX11_letterOf_46 (by decide) ?_
          refine aw_iload_n X 2 dX11_letterOf_48 rfl rfl ?_
          refine aw_iconst X dX11_letterOf_49 ?_
          refine aw_isub X dX11_letterOf_50 ?_
          refine aw_iload_n X 1 dX11_letterOf_51 rfl rfl ?_
          refine aw_isub X dX11_letterOf_52 ?_
          refine aw_imul X dX11_letterOf_53 ?_
          refine aw_lushr X dX11_letterOf_54 ?_
          refine aw_ldc2 X (x := 255) dX11_letterOf_55 kX11_475 (by decide) ?_
          refine aw_land X dX11_letterOf_58 ?_
          refine aw_l2i X dX11_letterOf_59 ?_
          obtain rfl := Option.some.inj hf
          exact aw_iret X (z_w_in _) hr rfl dX11_letterOf_60
        · rw [if_neg h3] at hf
          refine aw_iconst X dX11_letterOf_43 ?_
          obtain rfl := Option.some.inj hf
          exact aw_iret X (z_lit (x := (-1)) (by decide)) hr rfl dX11_letterOf_44
    · rw [if_neg h1] at hf
      refine aw_lload_n X 0 dX11_letterOf_12 rfl rfl ?_
      refine aw_iload X 3 dX11_letterOf_13 rfl ?_
      refine aw_lushr X dX11_letterOf_15 ?_
      refine aw_ldc2 X (x := 255) dX11_letterOf_16 kX11_475 (by decide) ?_
      refine aw_land X dX11_letterOf_19 ?_
      refine aw_lconst X (x := 0) dX11_letterOf_20 (by decide) ?_
      refine aw_lcmp X (z_andL_in _ _) (z_litL (x := 0) (by decide)) dX11_letterOf_21 ?_
      refine aw_if_eq X (tgt := 28) (z_cmp_in _ _) dX11_letterOf_22 (by decide) (fun h4 => ?_) (fun h4 => ?_)
      · simp only [if_pos h4] at hf
        refine aw_iinc X 3 [(4, z_i (z_w (v4 + 8))), (0, z_v v0), (2, z_i v2), (3, z_i v3)] dX11_letterOf_28 rfl (by decide) rfl ?_
        refine aw_goto X (tgt := 5) dX11_letterOf_31 (by decide) ?_
        refine aw_sub [1, 2, 3, 0] rfl ?_
        exact ih v0 c_v0 v2 c_v2 v3 c_v3 (z_w (v4 + 8)) (z_w_in _) hf
      · simp only [if_neg h4] at hf
        refine aw_iinc X 2 [(3, z_i (z_w (v3 + 1))), (0, z_v v0), (2, z_i v2), (4, z_i v4)] dX11_letterOf_25 rfl (by decide) rfl ?_
        refine aw_iinc X 3 [(4, z_i (z_w (v4 + 8))), (3, z_i (z_w (v3 + 1))), (0, z_v v0), (2, z_i v2)] dX11_letterOf_28 rfl (by decide) rfl ?_
        refine aw_goto X (tgt := 5) dX11_letterOf_31 (by decide) ?_
        refine aw_sub [2, 3, 1, 0] rfl ?_
        exact ih v0 c_v0 v2 c_v2 (z_w (v3 + 1)) (z_w_in _) (z_w (v4 + 8)) (z_w_in _) hf
end S_X11_letterOf
set_option maxHeartbeats 4000000 in
set_option maxRecDepth 100000 in
theorem C_X11_letterOf (l : Launch) (D : va_G) (cA : Nat → ClassId) (sa ad : Nat → Nat) (bs : Nat) (v0 : Int) (c_v0 : Z_L v0) (v2 : Int) (c_v2 : Z_I v2) (σ : Nat → Nat → Int) (q : Int) (hf : f_X11_letterOf v0 v2 σ = some q) : AM l D cA sa ad bs 788 SHp yX11_letterOf cX11_letterOf 5 (some .int) 0 [z_v v0, z_i v2] σ (some (z_i q)) (Z_I q) σ := by
  refine am_of (by decide +kernel) (Nat.le_of_ble_eq_true rfl) (fun p e s m args below meth c X hr => ?_)
  refine aw_lv (lv' := [(0, z_v v0), (2, z_i v2)]) rfl ?_
  unfold f_X11_letterOf at hf
  refine aw_iconst X dX11_letterOf_0 ?_
  refine aw_istore_n X [(3, z_i 0), (0, z_v v0), (2, z_i v2)] dX11_letterOf_1 rfl (by decide) rfl ?_
  refine aw_iconst X dX11_letterOf_2 ?_
  refine aw_istore X [(4, z_i 0), (3, z_i 0), (0, z_v v0), (2, z_i v2)] dX11_letterOf_3 (by decide) rfl ?_
  refine aw_sub [2, 3, 1, 0] rfl ?_
  exact A_X11_letterOf_5 X hr σ 100000 v0 c_v0 v2 c_v2 0 (z_lit (x := 0) (by decide)) 0 (z_lit (x := 0) (by decide)) hf
