-- SpeedDeskModel.isCore(I)Z
section S_X12_isCore
variable {p : Program} {l : Launch} {e : Env} {s : State} {m : MethodId} {args : Array Value} {below : List Frame} {meth : Method} {c : Code} {D : va_G} {cA : Nat → ClassId} {sa ad : Nat → Nat} {bs : Nat} {q : Int}

end S_X12_isCore
set_option maxHeartbeats 4000000 in
set_option maxRecDepth 100000 in
theorem C_X12_isCore (l : Launch) (D : va_G) (cA : Nat → ClassId) (sa ad : Nat → Nat) (bs : Nat) (v1 : Int) (c_v1 : Z_I v1) (σ : Nat → Nat → Int) (q : Int) (hf : f_X12_isCore v1 σ = some q) : AM l D cA sa ad bs 788 SHp yX12_isCore cX12_isCore 2 (some .boolean) 1 [.ref (ad 758), z_i v1] σ (some (z_i q)) (q = 0 ∨ q = 1) σ := by
  refine am_of (by decide +kernel) (Nat.le_of_ble_eq_true rfl) (fun p e s m args below meth c X hr => ?_)
  refine aw_lv (lv' := [(0, .ref (ad 758)), (1, z_i v1)]) rfl ?_
  unfold f_X12_isCore at hf
  refine aw_aload_n X 0 dX12_isCore_0 rfl rfl ?_
  refine aw_getI X s_758 fX12_234 rfl dX12_isCore_1 (fun c1 => ?_)
  refine aw_if_le X (tgt := 27) c1 dX12_isCore_4 (by decide) (fun h2 => ?_) (fun h2 => ?_)
  · rw [if_pos h2] at hf
    refine aw_iconst X dX12_isCore_27 ?_
    obtain rfl := Option.some.inj hf
    exact aw_zret X (Or.inl rfl) hr (Or.inl rfl) rfl dX12_isCore_28
  · rw [if_neg h2] at hf
    refine aw_iload_n X 1 dX12_isCore_7 rfl rfl ?_
    refine aw_i2l X c_v1 dX12_isCore_8 ?_
    refine aw_lconst X (x := 0) dX12_isCore_9 (by decide) ?_
    refine aw_aload_n X 0 dX12_isCore_10 rfl rfl ?_
    refine aw_getI X s_758 fX12_240 rfl dX12_isCore_11 (fun c3 => ?_)
    refine aw_iconst X dX12_isCore_14 ?_
    refine aw_isub X dX12_isCore_15 ?_
    refine aw_i2l X (z_w_in _) dX12_isCore_16 ?_
    obtain ⟨q4, e5, hf⟩ := z_bd hf
    refine aw_callS X [z_v v1, z_v 0, z_v (z_w ((σ 758 25) - 1))] [] [z_i q4] cX12_156 (C_X12_isIn l D cA sa ad bs v1 (z_IL c_v1) 0 (z_litL (x := 0) (by decide)) (z_w ((σ 758 25) - 1)) (z_IL (z_w_in _)) σ q4 e5) rfl ⟨(Nat.le_of_ble_eq_true rfl), (Nat.le_of_ble_eq_true rfl), (Nat.le_of_ble_eq_true rfl), (Nat.le_of_ble_eq_true rfl)⟩ rfl (Nat.le_of_ble_eq_true rfl) rfl dX12_isCore_17 (fun p6 => ?_)
    refine aw_if_eq X (tgt := 27) (z_zI p6) dX12_isCore_20 (by decide) (fun h7 => ?_) (fun h7 => ?_)
    · rw [if_pos h7] at hf
      refine aw_iconst X dX12_isCore_27 ?_
      obtain rfl := Option.some.inj hf
      exact aw_zret X (Or.inl rfl) hr (Or.inl rfl) rfl dX12_isCore_28
    · rw [if_neg h7] at hf
      refine aw_iconst X dX12_isCore_23 ?_
      refine aw_goto X (tgt := 28) dX12_isCore_24 (by decide) ?_
      obtain rfl := Option.some.inj hf
      exact aw_zret X (Or.inr rfl) hr (Or.inr rfl) rfl dX12_isCore_28
-- SpeedDeskModel.stopsAsking([IIII)I
section S_X12_stopsAsking
variable {p : Program} {l : Launch} {e : Env} {s : State} {m : MethodId} {args : Array Value} {below : List Frame} {meth : Method} {c : Code} {D : va_G} {cA : Nat → ClassId} {sa ad : Nat → Nat} {bs : Nat} {q : Int}

end S_X12_stopsAsking
set_option maxHeartbeats 4000000 in
set_option maxRecDepth 100000 in
theorem C_X12_stopsAsking (l : Launch) (D : va_G) (cA : Nat → ClassId) (sa ad : Nat → Nat) (bs : Nat) (a1 : Nat) (h_a1 : a1 < 788 ∧ SHp a1 = .inr (0, 256, [])) (v2 : Int) (c_v2 : Z_I v2) (v3 : Int) (c_v3 : Z_I v3) (v4 : Int) (c_v4 : Z_I v4) (σ : Nat → Nat → Int) (q : Int) (hf : f_X12_stopsAsking a1 v2 v3 v4 σ = some q) : AM l D cA sa ad bs 788 SHp yX12_stopsAsking cX12_stopsAsking 6 (some .int) 2 [.ref (ad 758), .ref (ad a1), z_i v2, z_i v3, z_i v4] σ (some (z_i q)) (Z_I q) σ := by
  refine am_of (by decide +kernel) (Nat.le_of_ble_eq_true rfl) (fun p e s m args below meth c X hr => ?_)
  refine aw_lv (lv' := [(0, .ref (ad 758)), (1, .ref (ad a1)), (2, z_i v2), (3, z_i v3), (4, z_i v4)]) rfl ?_
  unfold f_X12_stopsAsking at hf
  refine aw_aload_n X 0 dX12_stopsAsking_0 rfl rfl ?_
  refine aw_iload_n X 2 dX12_stopsAsking_1 rfl rfl ?_
  obtain ⟨q1, e2, hf⟩ := z_bd hf
  refine aw_callV X [z_i v2] [] [z_i q1] cX12_350 s_758 ciX12 (C_X12_isCluster l D cA sa ad bs v2 c_v2 σ q1 e2) rfl ⟨(Nat.le_of_ble_eq_true rfl), (Nat.le_of_ble_eq_true rfl), (Nat.le_of_ble_eq_true rfl), (Nat.le_of_ble_eq_true rfl)⟩ rfl (Nat.le_of_ble_eq_true rfl) rfl dX12_stopsAsking_2 (fun p3 => ?_)
  refine aw_if_ne X (tgt := 10) (z_zI p3) dX12_stopsAsking_5 (by decide) (fun h4 => ?_) (fun h4 => ?_)
  · rw [if_neg h4] at hf
    refine aw_iload_n X 3 dX12_stopsAsking_10 rfl rfl ?_
    refine aw_i2l X c_v3 dX12_stopsAsking_11 ?_
    refine aw_lconst X (x := 0) dX12_stopsAsking_12 (by decide) ?_
    refine aw_aload_n X 0 dX12_stopsAsking_13 rfl rfl ?_
    refine aw_iload_n X 2 dX12_stopsAsking_14 rfl rfl ?_
    obtain ⟨q5, e6, hf⟩ := z_bd hf
    refine aw_callV X [z_i v2] [z_v 0, z_v v3] [z_i q5, z_v 0, z_v v3] cX12_246 s_758 ciX12 (C_X12_lastPoint l D cA sa ad bs v2 c_v2 σ q5 e6) rfl ⟨(Nat.le_of_ble_eq_true rfl), (Nat.le_of_ble_eq_true rfl), (Nat.le_of_ble_eq_true rfl), (Nat.le_of_ble_eq_true rfl)⟩ rfl (Nat.le_of_ble_eq_true rfl) rfl dX12_stopsAsking_15 (fun p7 => ?_)
    refine aw_i2l X p7 dX12_stopsAsking_18 ?_
    obtain ⟨q8, e9, hf⟩ := z_bd hf
    refine aw_callS X [z_v v3, z_v 0, z_v q5] [] [z_i q8] cX12_156 (C_X12_isIn l D cA sa ad bs v3 (z_IL c_v3) 0 (z_litL (x := 0) (by decide)) q5 (z_IL p7) σ q8 e9) rfl ⟨(Nat.le_of_ble_eq_true rfl), (Nat.le_of_ble_eq_true rfl), (Nat.le_of_ble_eq_true rfl), (Nat.le_of_ble_eq_true rfl)⟩ rfl (Nat.le_of_ble_eq_true rfl) rfl dX12_stopsAsking_19 (fun p10 => ?_)
    refine aw_if_eq X (tgt := 42) (z_zI p10) dX12_stopsAsking_22 (by decide) (fun h11 => ?_) (fun h11 => ?_)
    · rw [if_pos h11] at hf
      refine aw_iconst X dX12_stopsAsking_42 ?_
      obtain rfl := Option.some.inj hf
      exact aw_iret X (z_lit (x := 1) (by decide)) hr rfl dX12_stopsAsking_43
    · rw [if_neg h11] at hf
      refine aw_iload X 4 dX12_stopsAsking_25 rfl ?_
      refine aw_i2l X c_v4 dX12_stopsAsking_27 ?_
      refine aw_iload_n X 3 dX12_stopsAsking_28 rfl rfl ?_
      refine aw_i2l X c_v3 dX12_stopsAsking_29 ?_
      refine aw_aload_n X 0 dX12_stopsAsking_30 rfl rfl ?_
      refine aw_iload_n X 2 dX12_stopsAsking_31 rfl rfl ?_
      obtain ⟨q12, e13, hf⟩ := z_bd hf
      refine aw_callV X [z_i v2] [z_v v3, z_v v4] [z_i q12, z_v v3, z_v v4] cX12_246 s_758 ciX12 (C_X12_lastPoint l D cA sa ad bs v2 c_v2 σ q12 e13) rfl ⟨(Nat.le_of_ble_eq_true rfl), (Nat.le_of_ble_eq_true rfl), (Nat.le_of_ble_eq_true rfl), (Nat.le_of_ble_eq_true rfl)⟩ rfl (Nat.le_of_ble_eq_true rfl) rfl dX12_stopsAsking_32 (fun p14 => ?_)
      refine aw_i2l X p14 dX12_stopsAsking_35 ?_
      obtain ⟨q15, e16, hf⟩ := z_bd hf
      refine aw_callS X [z_v v4, z_v v3, z_v q12] [] [z_i q15] cX12_156 (C_X12_isIn l D cA sa ad bs v4 (z_IL c_v4) v3 (z_IL c_v3) q12 (z_IL p14) σ q15 e16) rfl ⟨(Nat.le_of_ble_eq_true rfl), (Nat.le_of_ble_eq_true rfl), (Nat.le_of_ble_eq_true rfl), (Nat.le_of_ble_eq_true rfl)⟩ rfl (Nat.le_of_ble_eq_true rfl) rfl dX12_stopsAsking_36 (fun p17 => ?_)
      refine aw_if_ne X (tgt := 44) (z_zI p17) dX12_stopsAsking_39 (by decide) (fun h18 => ?_) (fun h18 => ?_)
      · rw [if_neg h18] at hf
        refine aw_aload_n X 1 dX12_stopsAsking_44 rfl rfl ?_
        refine aw_aload_n X 0 dX12_stopsAsking_45 rfl rfl ?_
        refine aw_getL X s_758 fX12_353 rfl dX12_stopsAsking_46 (fun c19 => ?_)
        refine aw_iload_n X 2 dX12_stopsAsking_49 rfl rfl ?_
        obtain ⟨q20, e21, hf⟩ := z_bd hf
        refine aw_callS X [.ref (ad a1), z_v (σ 758 41), z_i v2] [] [z_i q20] cX12_356 (C_X12_askOf l D cA sa ad bs a1 h_a1 (σ 758 41) c19 v2 c_v2 σ q20 e21) rfl ⟨(Nat.le_of_ble_eq_true rfl), (Nat.le_of_ble_eq_true rfl), (Nat.le_of_ble_eq_true rfl), (Nat.le_of_ble_eq_true rfl)⟩ rfl (Nat.le_of_ble_eq_true rfl) rfl dX12_stopsAsking_50 (fun p22 => ?_)
        refine aw_istore X [(5, z_i q20), (0, .ref (ad 758)), (1, .ref (ad a1)), (2, z_i v2), (3, z_i v3), (4, z_i v4)] dX12_stopsAsking_53 (by decide) rfl ?_
        refine aw_iload X 0 dX12_stopsAsking_55 rfl ?_
        refine aw_iconst X dX12_stopsAsking_57 ?_
        refine aw_icmp_eq X (tgt := 94) p22 (z_lit (x := (-1)) (by decide)) dX12_stopsAsking_58 (by decide) (fun h23 => ?_) (fun h23 => ?_)
        · rw [if_pos h23] at hf
          refine aw_aload_n X 2 dX12_stopsAsking_94 rfl rfl ?_
          refine aw_bipush X dX12_stopsAsking_95 (by decide) ?_
          refine aw_iald X (j := 44) h_a1 (z_lit (x := 44) (by decide)) (by decide) (by decide) rfl dX12_stopsAsking_97 (fun c24 => ?_)
          refine aw_bipush X dX12_stopsAsking_98 (by decide) ?_
          refine aw_icmp_ne X (tgt := 107) c24 (z_lit (x := 6) (by decide)) dX12_stopsAsking_100 (by decide) (fun h25 => ?_) (fun h25 => ?_)
          · rw [if_neg h25] at hf
            refine aw_iconst X dX12_stopsAsking_107 ?_
            obtain rfl := Option.some.inj hf
            exact aw_iret X (z_lit (x := (-1)) (by decide)) hr rfl dX12_stopsAsking_108
          · rw [if_pos h25] at hf
            refine aw_iconst X dX12_stopsAsking_103 ?_
            refine aw_goto X (tgt := 108) dX12_stopsAsking_104 (by decide) ?_
            obtain rfl := Option.some.inj hf
            exact aw_iret X (z_lit (x := 3) (by decide)) hr rfl dX12_stopsAsking_108
        · rw [if_neg h23] at hf
          refine aw_aload_n X 2 dX12_stopsAsking_61 rfl rfl ?_
          refine aw_bipush X dX12_stopsAsking_62 (by decide) ?_
          refine aw_iconst X dX12_stopsAsking_64 ?_
          refine aw_iload X 0 dX12_stopsAsking_65 rfl ?_
          refine aw_imul X dX12_stopsAsking_67 ?_
          refine aw_iadd X dX12_stopsAsking_68 ?_
          obtain ⟨g26, hf⟩ := z_gd hf
          refine aw_iald X (j := (z_w (48 + (z_w (5 * q20)))).toNat) h_a1 (z_w_in _) g26.1 g26.2 rfl dX12_stopsAsking_69 (fun c27 => ?_)
          refine aw_iload_n X 4 dX12_stopsAsking_70 rfl rfl ?_
          refine aw_icmp_ne X (tgt := 92) c27 c_v3 dX12_stopsAsking_71 (by decide) (fun h28 => ?_) (fun h28 => ?_)
          · rw [if_neg h28] at hf
            refine aw_iconst X dX12_stopsAsking_92 ?_
            obtain rfl := Option.some.inj hf
            exact aw_iret X (z_lit (x := (-1)) (by decide)) hr rfl dX12_stopsAsking_93
          · rw [if_pos h28] at hf
            refine aw_aload_n X 2 dX12_stopsAsking_74 rfl rfl ?_
            refine aw_bipush X dX12_stopsAsking_75 (by decide) ?_
            refine aw_iconst X dX12_stopsAsking_77 ?_
            refine aw_iload X 0 dX12_stopsAsking_78 rfl ?_
            refine aw_imul X dX12_stopsAsking_80 ?_
            refine aw_iadd X dX12_stopsAsking_81 ?_
            obtain ⟨g29, hf⟩ := z_gd hf
            refine aw_iald X (j := (z_w (49 + (z_w (5 * q20)))).toNat) h_a1 (z_w_in _) g29.1 g29.2 rfl dX12_stopsAsking_82 (fun c30 => ?_)
            refine aw_iload X 5 dX12_stopsAsking_83 rfl ?_
            refine aw_icmp_ne X (tgt := 92) c30 c_v4 dX12_stopsAsking_85 (by decide) (fun h31 => ?_) (fun h31 => ?_)
            · rw [if_neg h31] at hf
              refine aw_iconst X dX12_stopsAsking_92 ?_
              obtain rfl := Option.some.inj hf
              exact aw_iret X (z_lit (x := (-1)) (by decide)) hr rfl dX12_stopsAsking_93
            · rw [if_pos h31] at hf
              refine aw_iconst X dX12_stopsAsking_88 ?_
              refine aw_goto X (tgt := 93) dX12_stopsAsking_89 (by decide) ?_
              obtain rfl := Option.some.inj hf
              exact aw_iret X (z_lit (x := 2) (by decide)) hr rfl dX12_stopsAsking_93
      · rw [if_pos h18] at hf
        refine aw_iconst X dX12_stopsAsking_42 ?_
        obtain rfl := Option.some.inj hf
        exact aw_iret X (z_lit (x := 1) (by decide)) hr rfl dX12_stopsAsking_43
  · rw [if_pos h4] at hf
    refine aw_iconst X dX12_stopsAsking_8 ?_
    obtain rfl := Option.some.inj hf
    exact aw_iret X (z_lit (x := 0) (by decide)) hr rfl dX12_stopsAsking_9
-- SpeedDeskModel.shareOf([II)I
section S_X12_shareOf
variable {p : Program} {l : Launch} {e : Env} {s : State} {m : MethodId} {args : Array Value} {below : List Frame} {meth : Method} {c : Code} {D : va_G} {cA : Nat → ClassId} {sa ad : Nat → Nat} {bs : Nat} {q : Int}

end S_X12_shareOf
set_option maxHeartbeats 4000000 in
set_option maxRecDepth 100000 in
theorem C_X12_shareOf (l : Launch) (D : va_G) (cA : Nat → ClassId) (sa ad : Nat → Nat) (bs : Nat) (a1 : Nat) (h_a1 : a1 < 788 ∧ SHp a1 = .inr (0, 256, [])) (v2 : Int) (c_v2 : Z_I v2) (σ : Nat → Nat → Int) (q : Int) (hf : f_X12_shareOf a1 v2 σ = some q) : AM l D cA sa ad bs 788 SHp yX12_shareOf cX12_shareOf 3 (some .int) 1 [.ref (ad 758), .ref (ad a1), z_i v2] σ (some (z_i q)) (Z_I q) σ := by
  refine am_of (by decide +kernel) (Nat.le_of_ble_eq_true rfl) (fun p e s m args below meth c X hr => ?_)
  refine aw_lv (lv' := [(0, .ref (ad 758)), (1, .ref (ad a1)), (2, z_i v2)]) rfl ?_
  unfold f_X12_shareOf at hf
  refine aw_aload_n X 1 dX12_shareOf_0 rfl rfl ?_
  refine aw_bipush X dX12_shareOf_1 (by decide) ?_
  refine aw_iload_n X 2 dX12_shareOf_3 rfl rfl ?_
  refine aw_iadd X dX12_shareOf_4 ?_
  obtain ⟨g1, hf⟩ := z_gd hf
  refine aw_iald X (j := (z_w (37 + v2)).toNat) h_a1 (z_w_in _) g1.1 g1.2 rfl dX12_shareOf_5 (fun c2 => ?_)
  refine aw_iconst X dX12_shareOf_6 ?_
  refine aw_icmp_ne X (tgt := 14) c2 (z_lit (x := 1) (by decide)) dX12_shareOf_7 (by decide) (fun h3 => ?_) (fun h3 => ?_)
  · rw [if_neg h3] at hf
    refine aw_aload_n X 0 dX12_shareOf_14 rfl rfl ?_
    refine aw_getR X s_758 fX12_35 rfl dX12_shareOf_15 ?_
    refine aw_iconst X dX12_shareOf_18 ?_
    refine aw_iload_n X 2 dX12_shareOf_19 rfl rfl ?_
    refine aw_imul X dX12_shareOf_20 ?_
    obtain ⟨g4, hf⟩ := z_gd hf
    refine aw_iald X (j := (z_w (2 * v2)).toNat) s_767 (z_w_in _) g4.1 g4.2 rfl dX12_shareOf_21 (fun c5 => ?_)
    refine aw_aload_n X 0 dX12_shareOf_22 rfl rfl ?_
    refine aw_getR X s_758 fX12_35 rfl dX12_shareOf_23 ?_
    refine aw_iconst X dX12_shareOf_26 ?_
    refine aw_iload_n X 2 dX12_shareOf_27 rfl rfl ?_
    refine aw_imul X dX12_shareOf_28 ?_
    refine aw_iconst X dX12_shareOf_29 ?_
    refine aw_iadd X dX12_shareOf_30 ?_
    obtain ⟨g6, hf⟩ := z_gd hf
    refine aw_iald X (j := (z_w ((z_w (2 * v2)) + 1)).toNat) s_767 (z_w_in _) g6.1 g6.2 rfl dX12_shareOf_31 (fun c7 => ?_)
    obtain ⟨q8, e9, hf⟩ := z_bd hf
    refine aw_callS X [z_i (σ 767 (z_w (2 * v2)).toNat), z_i (σ 767 (z_w ((z_w (2 * v2)) + 1)).toNat)] [] [z_i q8] cX12_432 (C_X12_up l D cA sa ad bs (σ 767 (z_w (2 * v2)).toNat) c5 (σ 767 (z_w ((z_w (2 * v2)) + 1)).toNat) c7 σ q8 e9) rfl ⟨(Nat.le_of_ble_eq_true rfl), (Nat.le_of_ble_eq_true rfl), (Nat.le_of_ble_eq_true rfl), (Nat.le_of_ble_eq_true rfl)⟩ rfl (Nat.le_of_ble_eq_true rfl) rfl dX12_shareOf_32 (fun p10 => ?_)
    obtain rfl := Option.some.inj hf
    exact aw_iret X p10 hr rfl dX12_shareOf_35
  · rw [if_pos h3] at hf
    refine aw_iconst X dX12_shareOf_10 ?_
    refine aw_goto X (tgt := 35) dX12_shareOf_11 (by decide) ?_
    obtain rfl := Option.some.inj hf
    exact aw_iret X (z_lit (x := 0) (by decide)) hr rfl dX12_shareOf_35
-- SpeedDeskModel.laysShares([I)V
section S_X12_laysShares
variable {p : Program} {l : Launch} {e : Env} {s : State} {m : MethodId} {args : Array Value} {below : List Frame} {meth : Method} {c : Code} {D : va_G} {cA : Nat → ClassId} {sa ad : Nat → Nat} {bs : Nat} {q : (Nat → Nat → Int)}
set_option maxHeartbeats 4000000 in
set_option maxRecDepth 100000 in
theorem A_X12_laysShares_2 (X : AX p s m args meth c D cA sa bs cX12_laysShares 3 RX12) (hr : meth.sig.returnType = none) : ∀ (k : Nat) (a1 : Nat) (h_a1 : a1 < 788 ∧ SHp a1 = .inr (0, 256, [])) (v2 : Int) (c_v2 : Z_I v2) (σ : Nat → Nat → Int), f_X12_laysShares_2 k a1 v2 σ = some q → AW p l e (ax_rm 2 0 0) s m args below meth c D cA ad bs 788 SHp 0 0 (ax_MQ below args s D cA ad bs 788 SHp 0 0 none True q) 3 2 [(0, .ref (ad 758)), (1, .ref (ad a1)), (2, z_i v2)] [] σ := by
  intro k
  induction k with
  | zero =>
    intro a1 h_a1 v2 c_v2 σ hf
    unfold f_X12_laysShares_2 at hf
    cases hf
  | succ k ih =>
    intro a1 h_a1 v2 c_v2 σ hf
    unfold f_X12_laysShares_2 at hf
    refine aw_iload_n X 2 dX12_laysShares_2 rfl rfl ?_
    refine aw_aload_n X 0 dX12_laysShares_3 rfl rfl ?_
    refine aw_getI X s_758 fX12_237 rfl dX12_laysShares_4 (fun c1 => ?_)
    refine aw_icmp_ge X (tgt := 49) c_v2 c1 dX12_laysShares_7 (by decide) (fun h2 => ?_) (fun h2 => ?_)
    · rw [if_pos h2] at hf
      obtain rfl := Option.some.inj hf
      exact aw_vret X trivial hr rfl dX12_laysShares_49
    · rw [if_neg h2] at hf
      refine aw_aload_n X 0 dX12_laysShares_10 rfl rfl ?_
      refine aw_getR X s_758 fX12_82 rfl dX12_laysShares_11 ?_
      refine aw_iload_n X 2 dX12_laysShares_14 rfl rfl ?_
      refine aw_aload_n X 0 dX12_laysShares_15 rfl rfl ?_
      refine aw_aload_n X 1 dX12_laysShares_16 rfl rfl ?_
      refine aw_iload_n X 2 dX12_laysShares_17 rfl rfl ?_
      obtain ⟨q3, e4, hf⟩ := z_bd hf
      refine aw_callV X [.ref (ad a1), z_i v2] [z_i v2, .ref (ad 781)] [z_i q3, z_i v2, .ref (ad 781)] cX12_435 s_758 ciX12 (C_X12_shareOf l D cA sa ad bs a1 h_a1 v2 c_v2 σ q3 e4) rfl ⟨(Nat.le_of_ble_eq_true rfl), (Nat.le_of_ble_eq_true rfl), (Nat.le_of_ble_eq_true rfl), (Nat.le_of_ble_eq_true rfl)⟩ rfl (Nat.le_of_ble_eq_true rfl) rfl dX12_laysShares_18 (fun p5 => ?_)
      obtain ⟨g6, hf⟩ := z_gd hf
      refine aw_iast X (j := v2.toNat) s_781 c_v2 g6.1 g6.2 rfl p5 dX12_laysShares_21 ?_
      refine aw_aload_n X 0 dX12_laysShares_22 rfl rfl ?_
      refine aw_getR X s_758 fX12_85 rfl dX12_laysShares_23 ?_
      refine aw_iload_n X 2 dX12_laysShares_26 rfl rfl ?_
      refine aw_aload_n X 1 dX12_laysShares_27 rfl rfl ?_
      refine aw_bipush X dX12_laysShares_28 (by decide) ?_
      refine aw_iload_n X 2 dX12_laysShares_30 rfl rfl ?_
      refine aw_iadd X dX12_laysShares_31 ?_
      obtain ⟨g7, hf⟩ := z_gd hf
      refine aw_iald X (j := (z_w (37 + v2)).toNat) h_a1 (z_w_in _) g7.1 g7.2 rfl dX12_laysShares_32 (fun c8 => ?_)
      refine aw_iconst X dX12_laysShares_33 ?_
      refine aw_icmp_ne X (tgt := 41) c8 (z_lit (x := 1) (by decide)) dX12_laysShares_34 (by decide) (fun h9 => ?_) (fun h9 => ?_)
      · rw [if_neg h9] at hf
        refine aw_iconst X dX12_laysShares_41 ?_
        obtain ⟨g10, hf⟩ := z_gd hf
        refine aw_zast X (j := v2.toNat) s_782 c_v2 g10.1 g10.2 rfl (Or.inl rfl) dX12_laysShares_42 ?_
        refine aw_iinc X 2 [(2, z_i (z_w (v2 + 1))), (0, .ref (ad 758)), (1, .ref (ad a1))] dX12_laysShares_43 rfl (by decide) rfl ?_
        refine aw_goto X (tgt := 2) dX12_laysShares_46 (by decide) ?_
        refine aw_sub [1, 2, 0] rfl ?_
        exact ih a1 h_a1 (z_w (v2 + 1)) (z_w_in _) (u2 (u2 σ 781 v2.toNat q3) 782 v2.toNat 0) hf
      · rw [if_pos h9] at hf
        refine aw_iconst X dX12_laysShares_37 ?_
        refine aw_goto X (tgt := 42) dX12_laysShares_38 (by decide) ?_
        obtain ⟨g11, hf⟩ := z_gd hf
        refine aw_zast X (j := v2.toNat) s_782 c_v2 g11.1 g11.2 rfl (Or.inr rfl) dX12_laysShares_42 ?_
        refine aw_iinc X 2 [(2, z_i (z_w (v2 + 1))), (0, .ref (ad 758)), (1, .ref (ad a1))] dX12_laysShares_43 rfl (by decide) rfl ?_
        refine aw_goto X (tgt := 2) dX12_laysShares_46 (by decide) ?_
        refine aw_sub [1, 2, 0] rfl ?_
        exact ih a1 h_a1 (z_w (v2 + 1)) (z_w_in _) (u2 (u2 σ 781 v2.toNat q3) 782 v2.toNat 1) hf
end S_X12_laysShares
set_option maxHeartbeats 4000000 in
set_option maxRecDepth 100000 in
theorem C_X12_laysShares (l : Launch) (D : va_G) (cA : Nat → ClassId) (sa ad : Nat → Nat) (bs : Nat) (a1 : Nat) (h_a1 : a1 < 788 ∧ SHp a1 = .inr (0, 256, [])) (σ : Nat → Nat → Int) (q : (Nat → Nat → Int)) (hf : f_X12_laysShares a1 σ = some q) : AM l D cA sa ad bs 788 SHp yX12_laysShares cX12_laysShares 3 none 2 [.ref (ad 758), .ref (ad a1)] σ none True q := by
  refine am_of (by decide +kernel) (Nat.le_of_ble_eq_true rfl) (fun p e s m args below meth c X hr => ?_)
  refine aw_lv (lv' := [(0, .ref (ad 758)), (1, .ref (ad a1))]) rfl ?_
  unfold f_X12_laysShares at hf
  refine aw_iconst X dX12_laysShares_0 ?_
  refine aw_istore_n X [(2, z_i 0), (0, .ref (ad 758)), (1, .ref (ad a1))] dX12_laysShares_1 rfl (by decide) rfl ?_
  refine aw_sub [1, 2, 0] rfl ?_
  exact A_X12_laysShares_2 X hr 100000 a1 h_a1 0 (z_lit (x := 0) (by decide)) σ hf
-- SpeedDeskModel.power(I)I
section S_X12_power
variable {p : Program} {l : Launch} {e : Env} {s : State} {m : MethodId} {args : Array Value} {below : List Frame} {meth : Method} {c : Code} {D : va_G} {cA : Nat → ClassId} {sa ad : Nat → Nat} {bs : Nat} {q : Int}
set_option maxHeartbeats 4000000 in
set_option maxRecDepth 100000 in
theorem A_X12_power_4 (X : AX p s m args meth c D cA sa bs cX12_power 4 RX12) (hr : meth.sig.returnType = (some .int)) (σ : Nat → Nat → Int) : ∀ (k : Nat) (v1 : Int) (c_v1 : Z_I v1) (v2 : Int) (c_v2 : Z_I v2) (v3 : Int) (c_v3 : Z_I v3), f_X12_power_4 k v1 v2 v3 σ = some q → AW p l e (ax_rm 0 0 0) s m args below meth c D cA ad bs 788 SHp 0 0 (ax_MQ below args s D cA ad bs 788 SHp 0 0 (some (z_i q)) (Z_I q) σ) 4 4 [(0, .ref (ad 758)), (1, z_i v1), (2, z_i v2), (3, z_i v3)] [] σ := by
  intro k
  induction k with
  | zero =>
    intro v1 c_v1 v2 c_v2 v3 c_v3 hf
    unfold f_X12_power_4 at hf
    cases hf
  | succ k ih =>
    intro v1 c_v1 v2 c_v2 v3 c_v3 hf
    unfold f_X12_power_4 at hf
    refine aw_iload_n X 3 dX12_power_4 rfl rfl ?_
    refine aw_iload_n X 1 dX12_power_5 rfl rfl ?_
    refine aw_icmp_ge X (tgt := 22) c_v3 c_v1 dX12_power_6 (by decide) (fun h1 => ?_) (fun h1 => ?_)
    · rw [if_pos h1] at hf
      refine aw_iload_n X 2 dX12_power_22 rfl rfl ?_
      obtain rfl := Option.some.inj hf
      exact aw_iret X c_v2 hr rfl dX12_power_23
    · rw [if_neg h1] at hf
      refine aw_iload_n X 2 dX12_power_9 rfl rfl ?_
      refine aw_aload_n X 0 dX12_power_10 rfl rfl ?_
      refine aw_getI X s_758 fX12_240 rfl dX12_power_11 (fun c2 => ?_)
      refine aw_imul X dX12_power_14 ?_
      refine aw_istore_n X [(2, z_i (z_w (v2 * (σ 758 25)))), (0, .ref (ad 758)), (1, z_i v1), (3, z_i v3)] dX12_power_15 rfl (by decide) rfl ?_
      refine aw_iinc X 3 [(3, z_i (z_w (v3 + 1))), (2, z_i (z_w (v2 * (σ 758 25)))), (0, .ref (ad 758)), (1, z_i v1)] dX12_power_16 rfl (by decide) rfl ?_
      refine aw_goto X (tgt := 4) dX12_power_19 (by decide) ?_
      refine aw_sub [2, 3, 1, 0] rfl ?_
      exact ih v1 c_v1 (z_w (v2 * (σ 758 25))) (z_w_in _) (z_w (v3 + 1)) (z_w_in _) hf
end S_X12_power
set_option maxHeartbeats 4000000 in
set_option maxRecDepth 100000 in
theorem C_X12_power (l : Launch) (D : va_G) (cA : Nat → ClassId) (sa ad : Nat → Nat) (bs : Nat) (v1 : Int) (c_v1 : Z_I v1) (σ : Nat → Nat → Int) (q : Int) (hf : f_X12_power v1 σ = some q) : AM l D cA sa ad bs 788 SHp yX12_power cX12_power 4 (some .int) 0 [.ref (ad 758), z_i v1] σ (some (z_i q)) (Z_I q) σ := by
  refine am_of (by decide +kernel) (Nat.le_of_ble_eq_true rfl) (fun p e s m args below meth c X hr => ?_)
  refine aw_lv (lv' := [(0, .ref (ad 758)), (1, z_i v1)]) rfl ?_
  unfold f_X12_power at hf
  refine aw_iconst X dX12_power_0 ?_
  refine aw_istore_n X [(2, z_i 1), (0, .ref (ad 758)), (1, z_i v1)] dX12_power_1 rfl (by decide) rfl ?_
  refine aw_iconst X dX12_power_2 ?_
  refine aw_istore_n X [(3, z_i 0), (2, z_i 1), (0, .ref (ad 758)), (1, z_i v1)] dX12_power_3 rfl (by decide) rfl ?_
  refine aw_sub [2, 3, 1, 0] rfl ?_
  exact A_X12_power_4 X hr σ 100000 v1 c_v1 1 (z_lit (x := 1) (by decide)) 0 (z_lit (x := 0) (by decide)) hf
-- SpeedDeskModel.coreIn(II)I
section S_X12_coreIn
variable {p : Program} {l : Launch} {e : Env} {s : State} {m : MethodId} {args : Array Value} {below : List Frame} {meth : Method} {c : Code} {D : va_G} {cA : Nat → ClassId} {sa ad : Nat → Nat} {bs : Nat} {q : Int}

end S_X12_coreIn
set_option maxHeartbeats 4000000 in
set_option maxRecDepth 100000 in
theorem C_X12_coreIn (l : Launch) (D : va_G) (cA : Nat → ClassId) (sa ad : Nat → Nat) (bs : Nat) (v1 : Int) (c_v1 : Z_I v1) (v2 : Int) (c_v2 : Z_I v2) (σ : Nat → Nat → Int) (q : Int) (hf : f_X12_coreIn v1 v2 σ = some q) : AM l D cA sa ad bs 788 SHp yX12_coreIn cX12_coreIn 3 (some .int) 1 [.ref (ad 758), z_i v1, z_i v2] σ (some (z_i q)) (Z_I q) σ := by
  refine am_of (by decide +kernel) (Nat.le_of_ble_eq_true rfl) (fun p e s m args below meth c X hr => ?_)
  refine aw_lv (lv' := [(0, .ref (ad 758)), (1, z_i v1), (2, z_i v2)]) rfl ?_
  unfold f_X12_coreIn at hf
  refine aw_iload_n X 1 dX12_coreIn_0 rfl rfl ?_
  refine aw_aload_n X 0 dX12_coreIn_1 rfl rfl ?_
  refine aw_aload_n X 0 dX12_coreIn_2 rfl rfl ?_
  refine aw_getI X s_758 fX12_237 rfl dX12_coreIn_3 (fun c1 => ?_)
  refine aw_iconst X dX12_coreIn_6 ?_
  refine aw_isub X dX12_coreIn_7 ?_
  refine aw_iload_n X 2 dX12_coreIn_8 rfl rfl ?_
  refine aw_isub X dX12_coreIn_9 ?_
  obtain ⟨q2, e3, hf⟩ := z_bd hf
  refine aw_callV X [z_i (z_w ((z_w ((σ 758 23) - 1)) - v2))] [z_i v1] [z_i q2, z_i v1] cX12_438 s_758 ciX12 (C_X12_power l D cA sa ad bs (z_w ((z_w ((σ 758 23) - 1)) - v2)) (z_w_in _) σ q2 e3) rfl ⟨(Nat.le_of_ble_eq_true rfl), (Nat.le_of_ble_eq_true rfl), (Nat.le_of_ble_eq_true rfl), (Nat.le_of_ble_eq_true rfl)⟩ rfl (Nat.le_of_ble_eq_true rfl) rfl dX12_coreIn_10 (fun p4 => ?_)
  obtain ⟨g5, hf⟩ := z_gd hf
  refine aw_idiv X c_v1 p4 g5 dX12_coreIn_13 ?_
  refine aw_aload_n X 0 dX12_coreIn_14 rfl rfl ?_
  refine aw_getI X s_758 fX12_240 rfl dX12_coreIn_15 (fun c6 => ?_)
  obtain ⟨g7, hf⟩ := z_gd hf
  refine aw_irem X (z_w_in _) c6 g7 dX12_coreIn_18 ?_
  obtain rfl := Option.some.inj hf
  exact aw_iret X (z_w_in _) hr rfl dX12_coreIn_19
-- SpeedDeskModel.pricePut([I)I
section S_X12_pricePut
variable {p : Program} {l : Launch} {e : Env} {s : State} {m : MethodId} {args : Array Value} {below : List Frame} {meth : Method} {c : Code} {D : va_G} {cA : Nat → ClassId} {sa ad : Nat → Nat} {bs : Nat} {q : Int}
set_option maxHeartbeats 4000000 in
set_option maxRecDepth 100000 in
theorem A_X12_pricePut_131 (X : AX p s m args meth c D cA sa bs cX12_pricePut 10 RX12) (hr : meth.sig.returnType = (some .int)) (σ : Nat → Nat → Int) (K4 : Nat → Int → Int → (Nat → Nat → Int) → Option Int) (K25 : Nat → Int → Int → Int → Int → Int → (Nat → Nat → Int) → Option Int) (hK4 : ∀ (a1 : Nat) (h_a1 : a1 < 788 ∧ SHp a1 = .inr (0, 256, [])) (v2 : Int) (c_v2 : Z_I v2) (v3 : Int) (c_v3 : Z_I v3), K4 a1 v2 v3 σ = some q → AW p l e (ax_rm 3 0 0) s m args below meth c D cA ad bs 788 SHp 0 0 (ax_MQ below args s D cA ad bs 788 SHp 0 0 (some (z_i q)) (Z_I q) σ) 10 4 [(0, .ref (ad 758)), (1, .ref (ad a1)), (2, z_i v2), (3, z_i v3)] [] σ) (hK25 : ∀ (a1 : Nat) (h_a1 : a1 < 788 ∧ SHp a1 = .inr (0, 256, [])) (v2 : Int) (c_v2 : Z_I v2) (v3 : Int) (c_v3 : Z_I v3) (v4 : Int) (c_v4 : Z_I v4) (v5 : Int) (c_v5 : Z_I v5) (v6 : Int) (c_v6 : Z_I v6), K25 a1 v2 v3 v4 v5 v6 σ = some q → AW p l e (ax_rm 3 0 0) s m args below meth c D cA ad bs 788 SHp 0 0 (ax_MQ below args s D cA ad bs 788 SHp 0 0 (some (z_i q)) (Z_I q) σ) 10 25 [(0, .ref (ad 758)), (1, .ref (ad a1)), (2, z_i v2), (3, z_i v3), (4, z_i v4), (5, z_i v5), (6, z_i v6)] [] σ) (a1 : Nat) (h_a1 : a1 < 788 ∧ SHp a1 = .inr (0, 256, [])) (v2 : Int) (c_v2 : Z_I v2) (v3 : Int) (c_v3 : Z_I v3) (v5 : Int) (c_v5 : Z_I v5) (v6 : Int) (c_v6 : Z_I v6) (v7 : Int) (c_v7 : Z_I v7) (v8 : Int) (c_v8 : Z_I v8) (t0 : Int) (c_t0 : Z_I t0) (hf : f_X12_pricePut_131 K4 K25 a1 v2 v3 v5 v6 v7 v8 t0 σ = some q) : AW p l e (ax_rm 3 0 0) s m args below meth c D cA ad bs 788 SHp 0 0 (ax_MQ below args s D cA ad bs 788 SHp 0 0 (some (z_i q)) (Z_I q) σ) 10 131 [(0, .ref (ad 758)), (1, .ref (ad a1)), (2, z_i v2), (3, z_i v3), (5, z_i v5), (6, z_i v6), (7, z_i v7), (8, z_i v8)] [z_i t0] σ := by
  unfold f_X12_pricePut_131 at hf
  refine aw_istore X [(4, z_i t0), (0, .ref (ad 758)), (1, .ref (ad a1)), (2, z_i v2), (3, z_i v3), (5, z_i v5), (6, z_i v6), (7, z_i v7), (8, z_i v8)] dX12_pricePut_131 (by decide) rfl ?_
  refine aw_iload X 5 dX12_pricePut_133 rfl ?_
  refine aw_iload X 7 dX12_pricePut_135 rfl ?_
  refine aw_iadd X dX12_pricePut_137 ?_
  refine aw_istore X [(5, z_i (z_w (v5 + v7))), (4, z_i t0), (0, .ref (ad 758)), (1, .ref (ad a1)), (2, z_i v2), (3, z_i v3), (6, z_i v6), (7, z_i v7), (8, z_i v8)] dX12_pricePut_138 (by decide) rfl ?_
  refine aw_iload_n X 4 dX12_pricePut_140 rfl rfl ?_
  refine aw_iload X 8 dX12_pricePut_141 rfl ?_
  refine aw_if_eq X (tgt := 159) c_v8 dX12_pricePut_143 (by decide) (fun h37 => ?_) (fun h37 => ?_)
  · rw [if_pos h37] at hf
    refine aw_iconst X dX12_pricePut_159 ?_
    refine aw_iadd X dX12_pricePut_160 ?_
    refine aw_istore_n X [(2, z_i (z_w (v2 + 0))), (5, z_i (z_w (v5 + v7))), (4, z_i t0), (0, .ref (ad 758)), (1, .ref (ad a1)), (3, z_i v3), (6, z_i v6), (7, z_i v7), (8, z_i v8)] dX12_pricePut_161 rfl (by decide) rfl ?_
    refine aw_iinc X 6 [(6, z_i (z_w (v6 + 1))), (2, z_i (z_w (v2 + 0))), (5, z_i (z_w (v5 + v7))), (4, z_i t0), (0, .ref (ad 758)), (1, .ref (ad a1)), (3, z_i v3), (7, z_i v7), (8, z_i v8)] dX12_pricePut_162 rfl (by decide) rfl ?_
    refine aw_goto X (tgt := 25) dX12_pricePut_165 (by decide) ?_
    refine aw_sub [4, 5, 1, 6, 3, 2, 0] rfl ?_
    exact hK25 a1 h_a1 (z_w (v2 + 0)) (z_w_in _) v3 c_v3 t0 c_t0 (z_w (v5 + v7)) (z_w_in _) (z_w (v6 + 1)) (z_w_in _) hf
  · rw [if_neg h37] at hf
    refine aw_aload_n X 2 dX12_pricePut_146 rfl rfl ?_
    refine aw_getR X s_758 fX12_23 rfl dX12_pricePut_147 ?_
    refine aw_iconst X dX12_pricePut_150 ?_
    refine aw_iload_n X 5 dX12_pricePut_151 rfl rfl ?_
    refine aw_imul X dX12_pricePut_152 ?_
    refine aw_iconst X dX12_pricePut_153 ?_
    refine aw_iadd X dX12_pricePut_154 ?_
    obtain ⟨g38, hf⟩ := z_gd hf
    refine aw_iald X (j := (z_w ((z_w (4 * v3)) + 1)).toNat) s_763 (z_w_in _) g38.1 g38.2 rfl dX12_pricePut_155 (fun c39 => ?_)
    refine aw_goto X (tgt := 160) dX12_pricePut_156 (by decide) ?_
    refine aw_iadd X dX12_pricePut_160 ?_
    refine aw_istore_n X [(2, z_i (z_w (v2 + (σ 763 (z_w ((z_w (4 * v3)) + 1)).toNat)))), (5, z_i (z_w (v5 + v7))), (4, z_i t0), (0, .ref (ad 758)), (1, .ref (ad a1)), (3, z_i v3), (6, z_i v6), (7, z_i v7), (8, z_i v8)] dX12_pricePut_161 rfl (by decide) rfl ?_
    refine aw_iinc X 6 [(6, z_i (z_w (v6 + 1))), (2, z_i (z_w (v2 + (σ 763 (z_w ((z_w (4 * v3)) + 1)).toNat)))), (5, z_i (z_w (v5 + v7))), (4, z_i t0), (0, .ref (ad 758)), (1, .ref (ad a1)), (3, z_i v3), (7, z_i v7), (8, z_i v8)] dX12_pricePut_162 rfl (by decide) rfl ?_
    refine aw_goto X (tgt := 25) dX12_pricePut_165 (by decide) ?_
    refine aw_sub [4, 5, 1, 6, 3, 2, 0] rfl ?_
    exact hK25 a1 h_a1 (z_w (v2 + (σ 763 (z_w ((z_w (4 * v3)) + 1)).toNat))) (z_w_in _) v3 c_v3 t0 c_t0 (z_w (v5 + v7)) (z_w_in _) (z_w (v6 + 1)) (z_w_in _) hf
set_option maxHeartbeats 4000000 in
set_option maxRecDepth 100000 in
theorem A_X12_pricePut_53 (X : AX p s m args meth c D cA sa bs cX12_pricePut 10 RX12) (hr : meth.sig.returnType = (some .int)) (σ : Nat → Nat → Int) (K4 : Nat → Int → Int → (Nat → Nat → Int) → Option Int) (K25 : Nat → Int → Int → Int → Int → Int → (Nat → Nat → Int) → Option Int) (hK4 : ∀ (a1 : Nat) (h_a1 : a1 < 788 ∧ SHp a1 = .inr (0, 256, [])) (v2 : Int) (c_v2 : Z_I v2) (v3 : Int) (c_v3 : Z_I v3), K4 a1 v2 v3 σ = some q → AW p l e (ax_rm 3 0 0) s m args below meth c D cA ad bs 788 SHp 0 0 (ax_MQ below args s D cA ad bs 788 SHp 0 0 (some (z_i q)) (Z_I q) σ) 10 4 [(0, .ref (ad 758)), (1, .ref (ad a1)), (2, z_i v2), (3, z_i v3)] [] σ) (hK25 : ∀ (a1 : Nat) (h_a1 : a1 < 788 ∧ SHp a1 = .inr (0, 256, [])) (v2 : Int) (c_v2 : Z_I v2) (v3 : Int) (c_v3 : Z_I v3) (v4 : Int) (c_v4 : Z_I v4) (v5 : Int) (c_v5 : Z_I v5) (v6 : Int) (c_v6 : Z_I v6), K25 a1 v2 v3 v4 v5 v6 σ = some q → AW p l e (ax_rm 3 0 0) s m args below meth c D cA ad bs 788 SHp 0 0 (ax_MQ below args s D cA ad bs 788 SHp 0 0 (some (z_i q)) (Z_I q) σ) 10 25 [(0, .ref (ad 758)), (1, .ref (ad a1)), (2, z_i v2), (3, z_i v3), (4, z_i v4), (5, z_i v5), (6, z_i v6)] [] σ) : ∀ (k : Nat) (a1 : Nat) (h_a1 : a1 < 788 ∧ SHp a1 = .inr (0, 256, [])) (v2 : Int) (c_v2 : Z_I v2) (v3 : Int) (c_v3 : Z_I v3) (v4 : Int) (c_v4 : Z_I v4) (v5 : Int) (c_v5 : Z_I v5) (v6 : Int) (c_v6 : Z_I v6) (v7 : Int) (c_v7 : Z_I v7) (v8 : Int) (c_v8 : Z_I v8) (v9 : Int) (c_v9 : Z_I v9), f_X12_pricePut_53 K4 K25 k a1 v2 v3 v4 v5 v6 v7 v8 v9 σ = some q → AW p l e (ax_rm 3 0 0) s m args below meth c D cA ad bs 788 SHp 0 0 (ax_MQ below args s D cA ad bs 788 SHp 0 0 (some (z_i q)) (Z_I q) σ) 10 53 [(0, .ref (ad 758)), (1, .ref (ad a1)), (2, z_i v2), (3, z_i v3), (4, z_i v4), (5, z_i v5), (6, z_i v6), (7, z_i v7), (8, z_i v8), (9, z_i v9)] [] σ := by
  intro k
  induction k with
  | zero =>
    intro a1 h_a1 v2 c_v2 v3 c_v3 v4 c_v4 v5 c_v5 v6 c_v6 v7 c_v7 v8 c_v8 v9 c_v9 hf
    unfold f_X12_pricePut_53 at hf
    cases hf
  | succ k ih =>
    intro a1 h_a1 v2 c_v2 v3 c_v3 v4 c_v4 v5 c_v5 v6 c_v6 v7 c_v7 v8 c_v8 v9 c_v9 hf
    unfold f_X12_pricePut_53 at hf
    refine aw_iload X 9 dX12_pricePut_53 rfl ?_
    refine aw_aload_n X 0 dX12_pricePut_55 rfl rfl ?_
    refine aw_getI X s_758 fX12_237 rfl dX12_pricePut_56 (fun c25 => ?_)
    refine aw_icmp_ge X (tgt := 117) c_v9 c25 dX12_pricePut_59 (by decide) (fun h26 => ?_) (fun h26 => ?_)
    · rw [if_pos h26] at hf
      refine aw_iload X 7 dX12_pricePut_117 rfl ?_
      refine aw_iload X 4 dX12_pricePut_119 rfl ?_
      refine aw_icmp_le X (tgt := 129) c_v7 c_v4 dX12_pricePut_121 (by decide) (fun h27 => ?_) (fun h27 => ?_)
      · simp only [if_pos h27] at hf
        refine aw_iload X 4 dX12_pricePut_129 rfl ?_
        refine aw_sub [0, 1, 2, 3, 5, 6, 7, 8] rfl ?_
        exact A_X12_pricePut_131 X hr σ K4 K25 hK4 hK25 a1 h_a1 v2 c_v2 v3 c_v3 v5 c_v5 v6 c_v6 v7 c_v7 v8 c_v8 v4 c_v4 hf
      · simp only [if_neg h27] at hf
        refine aw_iload X 7 dX12_pricePut_124 rfl ?_
        refine aw_goto X (tgt := 131) dX12_pricePut_126 (by decide) ?_
        refine aw_sub [0, 1, 2, 3, 5, 6, 7, 8] rfl ?_
        exact A_X12_pricePut_131 X hr σ K4 K25 hK4 hK25 a1 h_a1 v2 c_v2 v3 c_v3 v5 c_v5 v6 c_v6 v7 c_v7 v8 c_v8 v7 c_v7 hf
    · rw [if_neg h26] at hf
      refine aw_aload_n X 0 dX12_pricePut_62 rfl rfl ?_
      refine aw_getR X s_758 fX12_89 rfl dX12_pricePut_63 ?_
      refine aw_iload X 9 dX12_pricePut_66 rfl ?_
      obtain ⟨g28, hf⟩ := z_gd hf
      refine aw_iald X (j := v9.toNat) s_783 c_v9 g28.1 g28.2 rfl dX12_pricePut_68 (fun c29 => ?_)
      refine aw_iload X 6 dX12_pricePut_69 rfl ?_
      refine aw_icmp_eq X (tgt := 77) c29 c_v6 dX12_pricePut_71 (by decide) (fun h30 => ?_) (fun h30 => ?_)
      · rw [if_pos h30] at hf
        refine aw_iload X 7 dX12_pricePut_77 rfl ?_
        refine aw_aload_n X 0 dX12_pricePut_79 rfl rfl ?_
        refine aw_getR X s_758 fX12_82 rfl dX12_pricePut_80 ?_
        refine aw_iload X 9 dX12_pricePut_83 rfl ?_
        obtain ⟨g31, hf⟩ := z_gd hf
        refine aw_iald X (j := v9.toNat) s_781 c_v9 g31.1 g31.2 rfl dX12_pricePut_85 (fun c32 => ?_)
        refine aw_iadd X dX12_pricePut_86 ?_
        refine aw_istore X [(7, z_i (z_w (v7 + (σ 781 v9.toNat)))), (0, .ref (ad 758)), (1, .ref (ad a1)), (2, z_i v2), (3, z_i v3), (4, z_i v4), (5, z_i v5), (6, z_i v6), (8, z_i v8), (9, z_i v9)] dX12_pricePut_87 (by decide) rfl ?_
        refine aw_iload X 8 dX12_pricePut_89 rfl ?_
        refine aw_if_ne X (tgt := 104) c_v8 dX12_pricePut_91 (by decide) (fun h33 => ?_) (fun h33 => ?_)
        · rw [if_neg h33] at hf
          refine aw_iconst X dX12_pricePut_104 ?_
          refine aw_goto X (tgt := 109) dX12_pricePut_105 (by decide) ?_
          refine aw_istore X [(8, z_i 1), (7, z_i (z_w (v7 + (σ 781 v9.toNat)))), (0, .ref (ad 758)), (1, .ref (ad a1)), (2, z_i v2), (3, z_i v3), (4, z_i v4), (5, z_i v5), (6, z_i v6), (9, z_i v9)] dX12_pricePut_109 (by decide) rfl ?_
          refine aw_iinc X 9 [(9, z_i (z_w (v9 + 1))), (8, z_i 1), (7, z_i (z_w (v7 + (σ 781 v9.toNat)))), (0, .ref (ad 758)), (1, .ref (ad a1)), (2, z_i v2), (3, z_i v3), (4, z_i v4), (5, z_i v5), (6, z_i v6)] dX12_pricePut_111 rfl (by decide) rfl ?_
          refine aw_goto X (tgt := 53) dX12_pricePut_114 (by decide) ?_
          refine aw_sub [3, 4, 5, 6, 7, 8, 9, 2, 1, 0] rfl ?_
          exact ih a1 h_a1 v2 c_v2 v3 c_v3 v4 c_v4 v5 c_v5 v6 c_v6 (z_w (v7 + (σ 781 v9.toNat))) (z_w_in _) 1 (z_lit (x := 1) (by decide)) (z_w (v9 + 1)) (z_w_in _) hf
        · rw [if_pos h33] at hf
          refine aw_aload_n X 1 dX12_pricePut_94 rfl rfl ?_
          refine aw_getR X s_758 fX12_85 rfl dX12_pricePut_95 ?_
          refine aw_iload X 9 dX12_pricePut_98 rfl ?_
          obtain ⟨g34, hf⟩ := z_gd hf
          refine aw_zald X (j := v9.toNat) s_782 c_v9 g34.1 g34.2 rfl dX12_pricePut_100 (fun c35 => ?_)
          refine aw_if_ne X (tgt := 108) (z_zI c35) dX12_pricePut_101 (by decide) (fun h36 => ?_) (fun h36 => ?_)
          · simp only [if_neg h36] at hf
            refine aw_iconst X dX12_pricePut_108 ?_
            refine aw_istore X [(8, z_i 0), (7, z_i (z_w (v7 + (σ 781 v9.toNat)))), (0, .ref (ad 758)), (1, .ref (ad a1)), (2, z_i v2), (3, z_i v3), (4, z_i v4), (5, z_i v5), (6, z_i v6), (9, z_i v9)] dX12_pricePut_109 (by decide) rfl ?_
            refine aw_iinc X 9 [(9, z_i (z_w (v9 + 1))), (8, z_i 0), (7, z_i (z_w (v7 + (σ 781 v9.toNat)))), (0, .ref (ad 758)), (1, .ref (ad a1)), (2, z_i v2), (3, z_i v3), (4, z_i v4), (5, z_i v5), (6, z_i v6)] dX12_pricePut_111 rfl (by decide) rfl ?_
            refine aw_goto X (tgt := 53) dX12_pricePut_114 (by decide) ?_
            refine aw_sub [3, 4, 5, 6, 7, 8, 9, 2, 1, 0] rfl ?_
            exact ih a1 h_a1 v2 c_v2 v3 c_v3 v4 c_v4 v5 c_v5 v6 c_v6 (z_w (v7 + (σ 781 v9.toNat))) (z_w_in _) 0 (z_lit (x := 0) (by decide)) (z_w (v9 + 1)) (z_w_in _) hf
          · simp only [if_pos h36] at hf
            refine aw_iconst X dX12_pricePut_104 ?_
            refine aw_goto X (tgt := 109) dX12_pricePut_105 (by decide) ?_
            refine aw_istore X [(8, z_i 1), (7, z_i (z_w (v7 + (σ 781 v9.toNat)))), (0, .ref (ad 758)), (1, .ref (ad a1)), (2, z_i v2), (3, z_i v3), (4, z_i v4), (5, z_i v5), (6, z_i v6), (9, z_i v9)] dX12_pricePut_109 (by decide) rfl ?_
            refine aw_iinc X 9 [(9, z_i (z_w (v9 + 1))), (8, z_i 1), (7, z_i (z_w (v7 + (σ 781 v9.toNat)))), (0, .ref (ad 758)), (1, .ref (ad a1)), (2, z_i v2), (3, z_i v3), (4, z_i v4), (5, z_i v5), (6, z_i v6)] dX12_pricePut_111 rfl (by decide) rfl ?_
            refine aw_goto X (tgt := 53) dX12_pricePut_114 (by decide) ?_
            refine aw_sub [3, 4, 5, 6, 7, 8, 9, 2, 1, 0] rfl ?_
            exact ih a1 h_a1 v2 c_v2 v3 c_v3 v4 c_v4 v5 c_v5 v6 c_v6 (z_w (v7 + (σ 781 v9.toNat))) (z_w_in _) 1 (z_lit (x := 1) (by decide)) (z_w (v9 + 1)) (z_w_in _) hf
      · rw [if_neg h30] at hf
        refine aw_goto X (tgt := 111) dX12_pricePut_74 (by decide) ?_
        refine aw_iinc X 9 [(9, z_i (z_w (v9 + 1))), (0, .ref (ad 758)), (1, .ref (ad a1)), (2, z_i v2), (3, z_i v3), (4, z_i v4), (5, z_i v5), (6, z_i v6), (7, z_i v7), (8, z_i v8)] dX12_pricePut_111 rfl (by decide) rfl ?_
        refine aw_goto X (tgt := 53) dX12_pricePut_114 (by decide) ?_
        refine aw_sub [1, 2, 3, 4, 5, 6, 7, 8, 9, 0] rfl ?_
        exact ih a1 h_a1 v2 c_v2 v3 c_v3 v4 c_v4 v5 c_v5 v6 c_v6 v7 c_v7 v8 c_v8 (z_w (v9 + 1)) (z_w_in _) hf
set_option maxHeartbeats 4000000 in
set_option maxRecDepth 100000 in
theorem A_X12_pricePut_25 (X : AX p s m args meth c D cA sa bs cX12_pricePut 10 RX12) (hr : meth.sig.returnType = (some .int)) (σ : Nat → Nat → Int) (K4 : Nat → Int → Int → (Nat → Nat → Int) → Option Int) (hK4 : ∀ (a1 : Nat) (h_a1 : a1 < 788 ∧ SHp a1 = .inr (0, 256, [])) (v2 : Int) (c_v2 : Z_I v2) (v3 : Int) (c_v3 : Z_I v3), K4 a1 v2 v3 σ = some q → AW p l e (ax_rm 3 0 0) s m args below meth c D cA ad bs 788 SHp 0 0 (ax_MQ below args s D cA ad bs 788 SHp 0 0 (some (z_i q)) (Z_I q) σ) 10 4 [(0, .ref (ad 758)), (1, .ref (ad a1)), (2, z_i v2), (3, z_i v3)] [] σ) : ∀ (k : Nat) (a1 : Nat) (h_a1 : a1 < 788 ∧ SHp a1 = .inr (0, 256, [])) (v2 : Int) (c_v2 : Z_I v2) (v3 : Int) (c_v3 : Z_I v3) (v4 : Int) (c_v4 : Z_I v4) (v5 : Int) (c_v5 : Z_I v5) (v6 : Int) (c_v6 : Z_I v6), f_X12_pricePut_25 K4 k a1 v2 v3 v4 v5 v6 σ = some q → AW p l e (ax_rm 3 0 0) s m args below meth c D cA ad bs 788 SHp 0 0 (ax_MQ below args s D cA ad bs 788 SHp 0 0 (some (z_i q)) (Z_I q) σ) 10 25 [(0, .ref (ad 758)), (1, .ref (ad a1)), (2, z_i v2), (3, z_i v3), (4, z_i v4), (5, z_i v5), (6, z_i v6)] [] σ := by
  intro k
  induction k with
  | zero =>
    intro a1 h_a1 v2 c_v2 v3 c_v3 v4 c_v4 v5 c_v5 v6 c_v6 hf
    unfold f_X12_pricePut_25 at hf
    cases hf
  | succ k ih =>
    intro a1 h_a1 v2 c_v2 v3 c_v3 v4 c_v4 v5 c_v5 v6 c_v6 hf
    unfold f_X12_pricePut_25 at hf
    refine aw_iload X 6 dX12_pricePut_25 rfl ?_
    refine aw_aload_n X 0 dX12_pricePut_27 rfl rfl ?_
    refine aw_iload_n X 3 dX12_pricePut_28 rfl rfl ?_
    obtain ⟨q6, e7, hf⟩ := z_bd hf
    refine aw_callV X [z_i v3] [z_i v6] [z_i q6, z_i v6] cX12_267 s_758 ciX12 (C_X12_firstCore l D cA sa ad bs v3 c_v3 σ q6 e7) rfl ⟨(Nat.le_of_ble_eq_true rfl), (Nat.le_of_ble_eq_true rfl), (Nat.le_of_ble_eq_true rfl), (Nat.le_of_ble_eq_true rfl)⟩ rfl (Nat.le_of_ble_eq_true rfl) rfl dX12_pricePut_29 (fun p8 => ?_)
    refine aw_aload_n X 0 dX12_pricePut_32 rfl rfl ?_
    refine aw_getR X s_758 fX12_23 rfl dX12_pricePut_33 ?_
    refine aw_iconst X dX12_pricePut_36 ?_
    refine aw_iload_n X 3 dX12_pricePut_37 rfl rfl ?_
    refine aw_imul X dX12_pricePut_38 ?_
    obtain ⟨g9, hf⟩ := z_gd hf
    refine aw_iald X (j := (z_w (4 * v3)).toNat) s_763 (z_w_in _) g9.1 g9.2 rfl dX12_pricePut_39 (fun c10 => ?_)
    refine aw_iadd X dX12_pricePut_40 ?_
    refine aw_icmp_ge X (tgt := 168) c_v6 (z_w_in _) dX12_pricePut_41 (by decide) (fun h11 => ?_) (fun h11 => ?_)
    · rw [if_pos h11] at hf
      refine aw_aload_n X 0 dX12_pricePut_168 rfl rfl ?_
      refine aw_iload_n X 3 dX12_pricePut_169 rfl rfl ?_
      refine aw_iload X 4 dX12_pricePut_170 rfl ?_
      obtain ⟨q12, e13, hf⟩ := z_bd hf
      refine aw_callV X [z_i v3, z_i v4] [] [z_i q12] cX12_296 s_758 ciX12 (C_X12_pointFor l D cA sa ad bs v3 c_v3 v4 c_v4 σ q12 e13) rfl ⟨(Nat.le_of_ble_eq_true rfl), (Nat.le_of_ble_eq_true rfl), (Nat.le_of_ble_eq_true rfl), (Nat.le_of_ble_eq_true rfl)⟩ rfl (Nat.le_of_ble_eq_true rfl) rfl dX12_pricePut_172 (fun p14 => ?_)
      refine aw_istore X [(6, z_i q12), (0, .ref (ad 758)), (1, .ref (ad a1)), (2, z_i v2), (3, z_i v3), (4, z_i v4), (5, z_i v5)] dX12_pricePut_175 (by decide) rfl ?_
      refine aw_iload X 0 dX12_pricePut_177 rfl ?_
      refine aw_aload_n X 1 dX12_pricePut_179 rfl rfl ?_
      refine aw_aload_n X 2 dX12_pricePut_180 rfl rfl ?_
      refine aw_iload_n X 4 dX12_pricePut_181 rfl rfl ?_
      obtain ⟨q15, e16, hf⟩ := z_bd hf
      refine aw_callV X [.ref (ad a1), z_i v3] [z_i q12] [z_i q15, z_i q12] cX12_277 s_758 ciX12 (C_X12_highOf l D cA sa ad bs a1 h_a1 v3 c_v3 σ q15 e16) rfl ⟨(Nat.le_of_ble_eq_true rfl), (Nat.le_of_ble_eq_true rfl), (Nat.le_of_ble_eq_true rfl), (Nat.le_of_ble_eq_true rfl)⟩ rfl (Nat.le_of_ble_eq_true rfl) rfl dX12_pricePut_182 (fun p17 => ?_)
      refine aw_icmp_le X (tgt := 190) p14 p17 dX12_pricePut_185 (by decide) (fun h18 => ?_) (fun h18 => ?_)
      · rw [if_pos h18] at hf
        refine aw_iload_n X 3 dX12_pricePut_190 rfl rfl ?_
        refine aw_iload X 6 dX12_pricePut_191 rfl ?_
        refine aw_aload_n X 1 dX12_pricePut_193 rfl rfl ?_
        refine aw_iload_n X 4 dX12_pricePut_194 rfl rfl ?_
        refine aw_aload_n X 1 dX12_pricePut_195 rfl rfl ?_
        refine aw_aload_n X 2 dX12_pricePut_196 rfl rfl ?_
        refine aw_iload_n X 4 dX12_pricePut_197 rfl rfl ?_
        refine aw_iload X 0 dX12_pricePut_198 rfl ?_
        obtain ⟨q19, e20, hf⟩ := z_bd hf
        refine aw_callV X [.ref (ad a1), z_i v3, z_i q12] [z_i v3, .ref (ad 758), z_i v5, z_i v2] [z_i q19, z_i v3, .ref (ad 758), z_i v5, z_i v2] cX12_309 s_758 ciX12 (C_X12_bounded l D cA sa ad bs a1 h_a1 v3 c_v3 q12 p14 σ q19 e20) rfl ⟨(Nat.le_of_ble_eq_true rfl), (Nat.le_of_ble_eq_true rfl), (Nat.le_of_ble_eq_true rfl), (Nat.le_of_ble_eq_true rfl)⟩ rfl (Nat.le_of_ble_eq_true rfl) rfl dX12_pricePut_200 (fun p21 => ?_)
        obtain ⟨q22, e23, hf⟩ := z_bd hf
        refine aw_callV X [z_i v3, z_i q19] [z_i v5, z_i v2] [z_i q22, z_i v5, z_i v2] cX12_316 s_758 ciX12 (C_X12_cost l D cA sa ad bs v3 c_v3 q19 p21 σ q22 e23) rfl ⟨(Nat.le_of_ble_eq_true rfl), (Nat.le_of_ble_eq_true rfl), (Nat.le_of_ble_eq_true rfl), (Nat.le_of_ble_eq_true rfl)⟩ rfl (Nat.le_of_ble_eq_true rfl) rfl dX12_pricePut_203 (fun p24 => ?_)
        refine aw_imul X dX12_pricePut_206 ?_
        refine aw_iadd X dX12_pricePut_207 ?_
        refine aw_istore_n X [(2, z_i (z_w (v2 + (z_w (v5 * q22))))), (6, z_i q12), (0, .ref (ad 758)), (1, .ref (ad a1)), (3, z_i v3), (4, z_i v4), (5, z_i v5)] dX12_pricePut_208 rfl (by decide) rfl ?_
        refine aw_iinc X 4 [(3, z_i (z_w (v3 + 1))), (2, z_i (z_w (v2 + (z_w (v5 * q22))))), (6, z_i q12), (0, .ref (ad 758)), (1, .ref (ad a1)), (4, z_i v4), (5, z_i v5)] dX12_pricePut_209 rfl (by decide) rfl ?_
        refine aw_goto X (tgt := 4) dX12_pricePut_212 (by decide) ?_
        refine aw_sub [3, 4, 1, 0] rfl ?_
        exact hK4 a1 h_a1 (z_w (v2 + (z_w (v5 * q22)))) (z_w_in _) (z_w (v3 + 1)) (z_w_in _) hf
      · rw [if_neg h18] at hf
        refine aw_iconst X dX12_pricePut_188 ?_
        obtain rfl := Option.some.inj hf
        exact aw_iret X (z_lit (x := (-1)) (by decide)) hr rfl dX12_pricePut_189
    · rw [if_neg h11] at hf
      refine aw_iconst X dX12_pricePut_44 ?_
      refine aw_istore X [(7, z_i 0), (0, .ref (ad 758)), (1, .ref (ad a1)), (2, z_i v2), (3, z_i v3), (4, z_i v4), (5, z_i v5), (6, z_i v6)] dX12_pricePut_45 (by decide) rfl ?_
      refine aw_iconst X dX12_pricePut_47 ?_
      refine aw_istore X [(8, z_i 0), (7, z_i 0), (0, .ref (ad 758)), (1, .ref (ad a1)), (2, z_i v2), (3, z_i v3), (4, z_i v4), (5, z_i v5), (6, z_i v6)] dX12_pricePut_48 (by decide) rfl ?_
      refine aw_iconst X dX12_pricePut_50 ?_
      refine aw_istore X [(9, z_i 0), (8, z_i 0), (7, z_i 0), (0, .ref (ad 758)), (1, .ref (ad a1)), (2, z_i v2), (3, z_i v3), (4, z_i v4), (5, z_i v5), (6, z_i v6)] dX12_pricePut_51 (by decide) rfl ?_
      refine aw_sub [3, 4, 5, 6, 7, 8, 9, 2, 1, 0] rfl ?_
      exact A_X12_pricePut_53 X hr σ K4 (f_X12_pricePut_25 K4 k) hK4 ih 100000 a1 h_a1 v2 c_v2 v3 c_v3 v4 c_v4 v5 c_v5 v6 c_v6 0 (z_lit (x := 0) (by decide)) 0 (z_lit (x := 0) (by decide)) 0 (z_lit (x := 0) (by decide)) hf
set_option maxHeartbeats 4000000 in
set_option maxRecDepth 100000 in
theorem A_X12_pricePut_4 (X : AX p s m args meth c D cA sa bs cX12_pricePut 10 RX12) (hr : meth.sig.returnType = (some .int)) (σ : Nat → Nat → Int) : ∀ (k : Nat) (a1 : Nat) (h_a1 : a1 < 788 ∧ SHp a1 = .inr (0, 256, [])) (v2 : Int) (c_v2 : Z_I v2) (v3 : Int) (c_v3 : Z_I v3), f_X12_pricePut_4 k a1 v2 v3 σ = some q → AW p l e (ax_rm 3 0 0) s m args below meth c D cA ad bs 788 SHp 0 0 (ax_MQ below args s D cA ad bs 788 SHp 0 0 (some (z_i q)) (Z_I q) σ) 10 4 [(0, .ref (ad 758)), (1, .ref (ad a1)), (2, z_i v2), (3, z_i v3)] [] σ := by
  intro k
  induction k with
  | zero =>
    intro a1 h_a1 v2 c_v2 v3 c_v3 hf
    unfold f_X12_pricePut_4 at hf
    cases hf
  | succ k ih =>
    intro a1 h_a1 v2 c_v2 v3 c_v3 hf
    unfold f_X12_pricePut_4 at hf
    refine aw_iload_n X 3 dX12_pricePut_4 rfl rfl ?_
    refine aw_aload_n X 0 dX12_pricePut_5 rfl rfl ?_
    refine aw_getI X s_758 fX12_234 rfl dX12_pricePut_6 (fun c1 => ?_)
    refine aw_icmp_ge X (tgt := 215) c_v3 c1 dX12_pricePut_9 (by decide) (fun h2 => ?_) (fun h2 => ?_)
    · rw [if_pos h2] at hf
      refine aw_iload_n X 2 dX12_pricePut_215 rfl rfl ?_
      obtain rfl := Option.some.inj hf
      exact aw_iret X c_v2 hr rfl dX12_pricePut_216
    · rw [if_neg h2] at hf
      refine aw_iconst X dX12_pricePut_12 ?_
      refine aw_istore X [(4, z_i 0), (0, .ref (ad 758)), (1, .ref (ad a1)), (2, z_i v2), (3, z_i v3)] dX12_pricePut_13 (by decide) rfl ?_
      refine aw_iconst X dX12_pricePut_15 ?_
      refine aw_istore X [(5, z_i 0), (4, z_i 0), (0, .ref (ad 758)), (1, .ref (ad a1)), (2, z_i v2), (3, z_i v3)] dX12_pricePut_16 (by decide) rfl ?_
      refine aw_aload_n X 2 dX12_pricePut_18 rfl rfl ?_
      refine aw_iload_n X 5 dX12_pricePut_19 rfl rfl ?_
      obtain ⟨q3, e4, hf⟩ := z_bd hf
      refine aw_callV X [z_i v3] [] [z_i q3] cX12_267 s_758 ciX12 (C_X12_firstCore l D cA sa ad bs v3 c_v3 σ q3 e4) rfl ⟨(Nat.le_of_ble_eq_true rfl), (Nat.le_of_ble_eq_true rfl), (Nat.le_of_ble_eq_true rfl), (Nat.le_of_ble_eq_true rfl)⟩ rfl (Nat.le_of_ble_eq_true rfl) rfl dX12_pricePut_20 (fun p5 => ?_)
      refine aw_istore X [(6, z_i q3), (5, z_i 0), (4, z_i 0), (0, .ref (ad 758)), (1, .ref (ad a1)), (2, z_i v2), (3, z_i v3)] dX12_pricePut_23 (by decide) rfl ?_
      refine aw_sub [3, 4, 5, 6, 2, 1, 0] rfl ?_
      exact A_X12_pricePut_25 X hr σ (f_X12_pricePut_4 k) ih 100000 a1 h_a1 v2 c_v2 v3 c_v3 0 (z_lit (x := 0) (by decide)) 0 (z_lit (x := 0) (by decide)) q3 p5 hf
end S_X12_pricePut
set_option maxHeartbeats 4000000 in
set_option maxRecDepth 100000 in
theorem C_X12_pricePut (l : Launch) (D : va_G) (cA : Nat → ClassId) (sa ad : Nat → Nat) (bs : Nat) (a1 : Nat) (h_a1 : a1 < 788 ∧ SHp a1 = .inr (0, 256, [])) (σ : Nat → Nat → Int) (q : Int) (hf : f_X12_pricePut a1 σ = some q) : AM l D cA sa ad bs 788 SHp yX12_pricePut cX12_pricePut 10 (some .int) 3 [.ref (ad 758), .ref (ad a1)] σ (some (z_i q)) (Z_I q) σ := by
  refine am_of (by decide +kernel) (Nat.le_of_ble_eq_true rfl) (fun p e s m args below meth c X hr => ?_)
  refine aw_lv (lv' := [(0, .ref (ad 758)), (1, .ref (ad a1))]) rfl ?_
  unfold f_X12_pricePut at hf
  refine aw_iconst X dX12_pricePut_0 ?_
  refine aw_istore_n X [(2, z_i 0), (0, .ref (ad 758)), (1, .ref (ad a1))] dX12_pricePut_1 rfl (by decide) rfl ?_
  refine aw_iconst X dX12_pricePut_2 ?_
  refine aw_istore_n X [(3, z_i 0), (2, z_i 0), (0, .ref (ad 758)), (1, .ref (ad a1))] dX12_pricePut_3 rfl (by decide) rfl ?_
  refine aw_sub [2, 3, 1, 0] rfl ?_
  exact A_X12_pricePut_4 X hr σ 100000 a1 h_a1 0 (z_lit (x := 0) (by decide)) 0 (z_lit (x := 0) (by decide)) hf
-- SpeedDeskModel.priceOf([II)I
section S_X12_priceOf
variable {p : Program} {l : Launch} {e : Env} {s : State} {m : MethodId} {args : Array Value} {below : List Frame} {meth : Method} {c : Code} {D : va_G} {cA : Nat → ClassId} {sa ad : Nat → Nat} {bs : Nat} {q : (Int × (Nat → Nat → Int))}
set_option maxHeartbeats 4000000 in
set_option maxRecDepth 100000 in
theorem A_X12_priceOf_2 (X : AX p s m args meth c D cA sa bs cX12_priceOf 4 RX12) (hr : meth.sig.returnType = (some .int)) : ∀ (k : Nat) (a1 : Nat) (h_a1 : a1 < 788 ∧ SHp a1 = .inr (0, 256, [])) (v2 : Int) (c_v2 : Z_I v2) (v3 : Int) (c_v3 : Z_I v3) (σ : Nat → Nat → Int), f_X12_priceOf_2 k a1 v2 v3 σ = some q → AW p l e (ax_rm 4 0 0) s m args below meth c D cA ad bs 788 SHp 0 0 (ax_MQ below args s D cA ad bs 788 SHp 0 0 (some (z_i q.1)) (Z_I q.1) q.2) 4 2 [(0, .ref (ad 758)), (1, .ref (ad a1)), (2, z_i v2), (3, z_i v3)] [] σ := by
  intro k
  induction k with
  | zero =>
    intro a1 h_a1 v2 c_v2 v3 c_v3 σ hf
    unfold f_X12_priceOf_2 at hf
    cases hf
  | succ k ih =>
    intro a1 h_a1 v2 c_v2 v3 c_v3 σ hf
    unfold f_X12_priceOf_2 at hf
    refine aw_iload_n X 3 dX12_priceOf_2 rfl rfl ?_
    refine aw_aload_n X 0 dX12_priceOf_3 rfl rfl ?_
    refine aw_getI X s_758 fX12_237 rfl dX12_priceOf_4 (fun c1 => ?_)
    refine aw_icmp_ge X (tgt := 28) c_v3 c1 dX12_priceOf_7 (by decide) (fun h2 => ?_) (fun h2 => ?_)
    · rw [if_pos h2] at hf
      refine aw_aload_n X 0 dX12_priceOf_28 rfl rfl ?_
      refine aw_aload_n X 1 dX12_priceOf_29 rfl rfl ?_
      obtain ⟨q3, e4, hf⟩ := z_bd hf
      refine aw_callV X [.ref (ad a1)] [] [z_i q3] cX12_441 s_758 ciX12 (C_X12_pricePut l D cA sa ad bs a1 h_a1 σ q3 e4) rfl ⟨(Nat.le_of_ble_eq_true rfl), (Nat.le_of_ble_eq_true rfl), (Nat.le_of_ble_eq_true rfl), (Nat.le_of_ble_eq_true rfl)⟩ rfl (Nat.le_of_ble_eq_true rfl) rfl dX12_priceOf_30 (fun p5 => ?_)
      obtain rfl := Option.some.inj hf
      exact aw_iret X p5 hr rfl dX12_priceOf_33
    · rw [if_neg h2] at hf
      refine aw_aload_n X 0 dX12_priceOf_10 rfl rfl ?_
      refine aw_getR X s_758 fX12_89 rfl dX12_priceOf_11 ?_
      refine aw_iload_n X 3 dX12_priceOf_14 rfl rfl ?_
      refine aw_aload_n X 0 dX12_priceOf_15 rfl rfl ?_
      refine aw_iload_n X 2 dX12_priceOf_16 rfl rfl ?_
      refine aw_iload_n X 3 dX12_priceOf_17 rfl rfl ?_
      obtain ⟨q6, e7, hf⟩ := z_bd hf
      refine aw_callV X [z_i v2, z_i v3] [z_i v3, .ref (ad 783)] [z_i q6, z_i v3, .ref (ad 783)] cX12_386 s_758 ciX12 (C_X12_coreIn l D cA sa ad bs v2 c_v2 v3 c_v3 σ q6 e7) rfl ⟨(Nat.le_of_ble_eq_true rfl), (Nat.le_of_ble_eq_true rfl), (Nat.le_of_ble_eq_true rfl), (Nat.le_of_ble_eq_true rfl)⟩ rfl (Nat.le_of_ble_eq_true rfl) rfl dX12_priceOf_18 (fun p8 => ?_)
      obtain ⟨g9, hf⟩ := z_gd hf
      refine aw_iast X (j := v3.toNat) s_783 c_v3 g9.1 g9.2 rfl p8 dX12_priceOf_21 ?_
      refine aw_iinc X 3 [(3, z_i (z_w (v3 + 1))), (0, .ref (ad 758)), (1, .ref (ad a1)), (2, z_i v2)] dX12_priceOf_22 rfl (by decide) rfl ?_
      refine aw_goto X (tgt := 2) dX12_priceOf_25 (by decide) ?_
      refine aw_sub [1, 2, 3, 0] rfl ?_
      exact ih a1 h_a1 v2 c_v2 (z_w (v3 + 1)) (z_w_in _) (u2 σ 783 v3.toNat q6) hf
end S_X12_priceOf
set_option maxHeartbeats 4000000 in
set_option maxRecDepth 100000 in
theorem C_X12_priceOf (l : Launch) (D : va_G) (cA : Nat → ClassId) (sa ad : Nat → Nat) (bs : Nat) (a1 : Nat) (h_a1 : a1 < 788 ∧ SHp a1 = .inr (0, 256, [])) (v2 : Int) (c_v2 : Z_I v2) (σ : Nat → Nat → Int) (q : (Int × (Nat → Nat → Int))) (hf : f_X12_priceOf a1 v2 σ = some q) : AM l D cA sa ad bs 788 SHp yX12_priceOf cX12_priceOf 4 (some .int) 4 [.ref (ad 758), .ref (ad a1), z_i v2] σ (some (z_i q.1)) (Z_I q.1) q.2 := by
  refine am_of (by decide +kernel) (Nat.le_of_ble_eq_true rfl) (fun p e s m args below meth c X hr => ?_)
  refine aw_lv (lv' := [(0, .ref (ad 758)), (1, .ref (ad a1)), (2, z_i v2)]) rfl ?_
  unfold f_X12_priceOf at hf
  refine aw_iconst X dX12_priceOf_0 ?_
  refine aw_istore_n X [(3, z_i 0), (0, .ref (ad 758)), (1, .ref (ad a1)), (2, z_i v2)] dX12_priceOf_1 rfl (by decide) rfl ?_
  refine aw_sub [1, 2, 3, 0] rfl ?_
  exact A_X12_priceOf_2 X hr 100000 a1 h_a1 v2 c_v2 0 (z_lit (x := 0) (by decide)) σ hf
