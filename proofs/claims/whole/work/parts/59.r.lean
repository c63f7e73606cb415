-- SpeedDeskModel.race(IIII)I
section S_X12_race
variable {p : Program} {l : Launch} {e : Env} {s : State} {m : MethodId} {args : Array Value} {below : List Frame} {meth : Method} {c : Code} {D : va_G} {cA : Nat → ClassId} {sa ad : Nat → Nat} {bs : Nat} {q : (Int × (Nat → Nat → Int))}
set_option maxHeartbeats 4000000 in
set_option maxRecDepth 100000 in
theorem A_X12_race_105 (X : AX p s m args meth c D cA sa bs cX12_race 8 RX12) (hr : meth.sig.returnType = (some .int)) (v4 : Int) (c_v4 : Z_I v4) (v5 : Int) (c_v5 : Z_I v5) (t0 : Int) (c_t0 : Z_I t0) (σ : Nat → Nat → Int) (hf : f_X12_race_105 v4 v5 t0 σ = some q) : AW p l e (ax_rm 2 0 0) s m args below meth c D cA ad bs 788 SHp 0 0 (ax_MQ below args s D cA ad bs 788 SHp 0 0 (some (z_i q.1)) (Z_I q.1) q.2) 8 105 [(4, z_i v4), (5, z_i v5)] [z_i t0] σ := by
  unfold f_X12_race_105 at hf
  refine aw_istore X [(7, z_i t0), (4, z_i v4), (5, z_i v5)] dX12_race_105 (by decide) rfl ?_
  refine aw_iload X 1 dX12_race_107 rfl ?_
  refine aw_iconst X dX12_race_109 ?_
  refine aw_icmp_ge X (tgt := 126) c_v4 (z_lit (x := 2) (by decide)) dX12_race_110 (by decide) (fun h36 => ?_) (fun h36 => ?_)
  · rw [if_pos h36] at hf
    refine aw_iload X 2 dX12_race_126 rfl ?_
    refine aw_iconst X dX12_race_128 ?_
    refine aw_icmp_ne X (tgt := 136) c_v5 (z_lit (x := (-1)) (by decide)) dX12_race_129 (by decide) (fun h37 => ?_) (fun h37 => ?_)
    · rw [if_neg h37] at hf
      refine aw_iload X 2 dX12_race_136 rfl ?_
      refine aw_iload X 0 dX12_race_138 rfl ?_
      refine aw_icmp_gt X (tgt := 147) c_v5 c_t0 dX12_race_140 (by decide) (fun h38 => ?_) (fun h38 => ?_)
      · rw [if_pos h38] at hf
        refine aw_iconst X dX12_race_147 ?_
        obtain rfl := Option.some.inj hf
        exact aw_iret X (z_lit (x := 1) (by decide)) hr rfl dX12_race_148
      · rw [if_neg h38] at hf
        refine aw_iconst X dX12_race_143 ?_
        refine aw_goto X (tgt := 148) dX12_race_144 (by decide) ?_
        obtain rfl := Option.some.inj hf
        exact aw_iret X (z_lit (x := 0) (by decide)) hr rfl dX12_race_148
    · rw [if_pos h37] at hf
      refine aw_iconst X dX12_race_132 ?_
      refine aw_goto X (tgt := 148) dX12_race_133 (by decide) ?_
      obtain rfl := Option.some.inj hf
      exact aw_iret X (z_lit (x := (-1)) (by decide)) hr rfl dX12_race_148
  · rw [if_neg h36] at hf
    refine aw_iload X 1 dX12_race_113 rfl ?_
    refine aw_if_ne X (tgt := 123) c_v4 dX12_race_115 (by decide) (fun h39 => ?_) (fun h39 => ?_)
    · rw [if_neg h39] at hf
      refine aw_iload X 0 dX12_race_123 rfl ?_
      obtain rfl := Option.some.inj hf
      exact aw_iret X c_t0 hr rfl dX12_race_125
    · rw [if_pos h39] at hf
      refine aw_iload X 2 dX12_race_118 rfl ?_
      refine aw_goto X (tgt := 125) dX12_race_120 (by decide) ?_
      obtain rfl := Option.some.inj hf
      exact aw_iret X c_v5 hr rfl dX12_race_125
end S_X12_race
set_option maxHeartbeats 4000000 in
set_option maxRecDepth 100000 in
theorem C_X12_race (l : Launch) (D : va_G) (cA : Nat → ClassId) (sa ad : Nat → Nat) (bs : Nat) (v1 : Int) (c_v1 : Z_I v1) (v2 : Int) (c_v2 : Z_I v2) (v3 : Int) (c_v3 : Z_I v3) (v4 : Int) (c_v4 : Z_I v4) (σ : Nat → Nat → Int) (q : (Int × (Nat → Nat → Int))) (hf : f_X12_race v1 v2 v3 v4 σ = some q) : AM l D cA sa ad bs 788 SHp yX12_race cX12_race 8 (some .int) 2 [.ref (ad 758), z_i v1, z_i v2, z_i v3, z_i v4] σ (some (z_i q.1)) (Z_I q.1) q.2 := by
  refine am_of (by decide +kernel) (Nat.le_of_ble_eq_true rfl) (fun p e s m args below meth c X hr => ?_)
  refine aw_lv (lv' := [(0, .ref (ad 758)), (1, z_i v1), (2, z_i v2), (3, z_i v3), (4, z_i v4)]) rfl ?_
  unfold f_X12_race at hf
  refine aw_aload_n X 0 dX12_race_0 rfl rfl ?_
  refine aw_iconst X dX12_race_1 ?_
  refine aw_putI X s_758 pX12_101 rfl (z_lit (x := 0) (by decide)) dX12_race_2 ?_
  refine aw_aload_n X 0 dX12_race_5 rfl rfl ?_
  refine aw_iload_n X 1 dX12_race_6 rfl rfl ?_
  obtain ⟨q1, e2, hf⟩ := z_bd hf
  refine aw_callV X [z_i v1] [] [z_i q1] cX12_350 s_758 ciX12 (C_X12_isCluster l D cA sa ad bs v1 c_v1 (u2 σ 758 0 0) q1 e2) rfl ⟨(Nat.le_of_ble_eq_true rfl), (Nat.le_of_ble_eq_true rfl), (Nat.le_of_ble_eq_true rfl), (Nat.le_of_ble_eq_true rfl)⟩ rfl (Nat.le_of_ble_eq_true rfl) rfl dX12_race_7 (fun p3 => ?_)
  refine aw_if_eq X (tgt := 50) (z_zI p3) dX12_race_10 (by decide) (fun h4 => ?_) (fun h4 => ?_)
  · rw [if_pos h4] at hf
    refine aw_ldcw X (x := (-1000000)) dX12_race_50 kX12_431 (by decide) ?_
    obtain rfl := Option.some.inj hf
    exact aw_iret X (z_lit (x := (-1000000)) (by decide)) hr rfl dX12_race_53
  · rw [if_neg h4] at hf
    refine aw_iload_n X 2 dX12_race_13 rfl rfl ?_
    refine aw_i2l X c_v2 dX12_race_14 ?_
    refine aw_lconst X (x := 1) dX12_race_15 (by decide) ?_
    refine aw_ldc2 X (x := 9999) dX12_race_16 kX12_478 (by decide) ?_
    obtain ⟨q5, e6, hf⟩ := z_bd hf
    refine aw_callS X [z_v v2, z_v 1, z_v 9999] [] [z_i q5] cX12_156 (C_X12_isIn l D cA sa ad bs v2 (z_IL c_v2) 1 (z_litL (x := 1) (by decide)) 9999 (z_litL (x := 9999) (by decide)) (u2 σ 758 0 0) q5 e6) rfl ⟨(Nat.le_of_ble_eq_true rfl), (Nat.le_of_ble_eq_true rfl), (Nat.le_of_ble_eq_true rfl), (Nat.le_of_ble_eq_true rfl)⟩ rfl (Nat.le_of_ble_eq_true rfl) rfl dX12_race_19 (fun p7 => ?_)
    refine aw_if_eq X (tgt := 50) (z_zI p7) dX12_race_22 (by decide) (fun h8 => ?_) (fun h8 => ?_)
    · rw [if_pos h8] at hf
      refine aw_ldcw X (x := (-1000000)) dX12_race_50 kX12_431 (by decide) ?_
      obtain rfl := Option.some.inj hf
      exact aw_iret X (z_lit (x := (-1000000)) (by decide)) hr rfl dX12_race_53
    · rw [if_neg h8] at hf
      refine aw_iload_n X 3 dX12_race_25 rfl rfl ?_
      refine aw_i2l X c_v3 dX12_race_26 ?_
      refine aw_lconst X (x := 1) dX12_race_27 (by decide) ?_
      refine aw_ldc2 X (x := 99) dX12_race_28 kX12_480 (by decide) ?_
      obtain ⟨q9, e10, hf⟩ := z_bd hf
      refine aw_callS X [z_v v3, z_v 1, z_v 99] [] [z_i q9] cX12_156 (C_X12_isIn l D cA sa ad bs v3 (z_IL c_v3) 1 (z_litL (x := 1) (by decide)) 99 (z_litL (x := 99) (by decide)) (u2 σ 758 0 0) q9 e10) rfl ⟨(Nat.le_of_ble_eq_true rfl), (Nat.le_of_ble_eq_true rfl), (Nat.le_of_ble_eq_true rfl), (Nat.le_of_ble_eq_true rfl)⟩ rfl (Nat.le_of_ble_eq_true rfl) rfl dX12_race_31 (fun p11 => ?_)
      refine aw_if_eq X (tgt := 50) (z_zI p11) dX12_race_34 (by decide) (fun h12 => ?_) (fun h12 => ?_)
      · rw [if_pos h12] at hf
        refine aw_ldcw X (x := (-1000000)) dX12_race_50 kX12_431 (by decide) ?_
        obtain rfl := Option.some.inj hf
        exact aw_iret X (z_lit (x := (-1000000)) (by decide)) hr rfl dX12_race_53
      · rw [if_neg h12] at hf
        refine aw_iload X 4 dX12_race_37 rfl ?_
        refine aw_i2l X c_v4 dX12_race_39 ?_
        refine aw_lconst X (x := 0) dX12_race_40 (by decide) ?_
        refine aw_ldc2 X (x := 2) dX12_race_41 kX12_219 (by decide) ?_
        obtain ⟨q13, e14, hf⟩ := z_bd hf
        refine aw_callS X [z_v v4, z_v 0, z_v 2] [] [z_i q13] cX12_156 (C_X12_isIn l D cA sa ad bs v4 (z_IL c_v4) 0 (z_litL (x := 0) (by decide)) 2 (z_litL (x := 2) (by decide)) (u2 σ 758 0 0) q13 e14) rfl ⟨(Nat.le_of_ble_eq_true rfl), (Nat.le_of_ble_eq_true rfl), (Nat.le_of_ble_eq_true rfl), (Nat.le_of_ble_eq_true rfl)⟩ rfl (Nat.le_of_ble_eq_true rfl) rfl dX12_race_44 (fun p15 => ?_)
        refine aw_if_ne X (tgt := 54) (z_zI p15) dX12_race_47 (by decide) (fun h16 => ?_) (fun h16 => ?_)
        · rw [if_neg h16] at hf
          refine aw_aload_n X 0 dX12_race_54 rfl rfl ?_
          refine aw_iload_n X 1 dX12_race_55 rfl rfl ?_
          refine aw_aload_n X 0 dX12_race_56 rfl rfl ?_
          refine aw_iload_n X 1 dX12_race_57 rfl rfl ?_
          obtain ⟨q17, e18, hf⟩ := z_bd hf
          refine aw_callV X [z_i v1] [z_i v1, .ref (ad 758)] [z_i q17, z_i v1, .ref (ad 758)] cX12_246 s_758 ciX12 (C_X12_lastPoint l D cA sa ad bs v1 c_v1 (u2 σ 758 0 0) q17 e18) rfl ⟨(Nat.le_of_ble_eq_true rfl), (Nat.le_of_ble_eq_true rfl), (Nat.le_of_ble_eq_true rfl), (Nat.le_of_ble_eq_true rfl)⟩ rfl (Nat.le_of_ble_eq_true rfl) rfl dX12_race_58 (fun p19 => ?_)
          refine aw_iload_n X 2 dX12_race_61 rfl rfl ?_
          refine aw_iload_n X 3 dX12_race_62 rfl rfl ?_
          refine aw_iconst X dX12_race_63 ?_
          obtain ⟨q20, e21, hf⟩ := z_bd hf
          refine aw_callV X [z_i v1, z_i q17, z_i v2, z_i v3, z_i 1] [] [z_i q20] cX12_482 s_758 ciX12 (C_X12_paceOf l D cA sa ad bs v1 c_v1 q17 p19 v2 c_v2 v3 c_v3 1 (z_lit (x := 1) (by decide)) (u2 σ 758 0 0) q20 e21) rfl ⟨(Nat.le_of_ble_eq_true rfl), (Nat.le_of_ble_eq_true rfl), (Nat.le_of_ble_eq_true rfl), (Nat.le_of_ble_eq_true rfl)⟩ rfl (Nat.le_of_ble_eq_true rfl) rfl dX12_race_64 (fun p22 => ?_)
          refine aw_istore X [(5, z_i q20), (0, .ref (ad 758)), (1, z_i v1), (2, z_i v2), (3, z_i v3), (4, z_i v4)] dX12_race_67 (by decide) rfl ?_
          refine aw_aload_n X 1 dX12_race_69 rfl rfl ?_
          refine aw_iload_n X 2 dX12_race_70 rfl rfl ?_
          refine aw_iload_n X 3 dX12_race_71 rfl rfl ?_
          refine aw_iload_n X 4 dX12_race_72 rfl rfl ?_
          obtain ⟨q23, e24, hf⟩ := z_bd hf
          refine aw_callS X [z_i v2, z_i v3] [z_i v1, .ref (ad 758)] [z_i q23, z_i v1, .ref (ad 758)] cX12_432 (C_X12_up l D cA sa ad bs v2 c_v2 v3 c_v3 (u2 σ 758 0 0) q23 e24) rfl ⟨(Nat.le_of_ble_eq_true rfl), (Nat.le_of_ble_eq_true rfl), (Nat.le_of_ble_eq_true rfl), (Nat.le_of_ble_eq_true rfl)⟩ rfl (Nat.le_of_ble_eq_true rfl) rfl dX12_race_73 (fun p25 => ?_)
          obtain ⟨q26, e27, hf⟩ := z_bd hf
          refine aw_callV X [z_i v1, z_i q23] [] [z_i q26] cX12_296 s_758 ciX12 (C_X12_pointFor l D cA sa ad bs v1 c_v1 q23 p25 (u2 σ 758 0 0) q26 e27) rfl ⟨(Nat.le_of_ble_eq_true rfl), (Nat.le_of_ble_eq_true rfl), (Nat.le_of_ble_eq_true rfl), (Nat.le_of_ble_eq_true rfl)⟩ rfl (Nat.le_of_ble_eq_true rfl) rfl dX12_race_76 (fun p28 => ?_)
          refine aw_istore X [(6, z_i q26), (5, z_i q20), (0, .ref (ad 758)), (1, z_i v1), (2, z_i v2), (3, z_i v3), (4, z_i v4)] dX12_race_79 (by decide) rfl ?_
          refine aw_iload X 0 dX12_race_81 rfl ?_
          refine aw_aload_n X 2 dX12_race_83 rfl rfl ?_
          refine aw_iload_n X 3 dX12_race_84 rfl rfl ?_
          obtain ⟨q29, e30, hf⟩ := z_bd hf
          refine aw_callV X [z_i v1] [z_i q26] [z_i q29, z_i q26] cX12_246 s_758 ciX12 (C_X12_lastPoint l D cA sa ad bs v1 c_v1 (u2 σ 758 0 0) q29 e30) rfl ⟨(Nat.le_of_ble_eq_true rfl), (Nat.le_of_ble_eq_true rfl), (Nat.le_of_ble_eq_true rfl), (Nat.le_of_ble_eq_true rfl)⟩ rfl (Nat.le_of_ble_eq_true rfl) rfl dX12_race_85 (fun p31 => ?_)
          refine aw_icmp_le X (tgt := 95) p28 p31 dX12_race_88 (by decide) (fun h32 => ?_) (fun h32 => ?_)
          · rw [if_pos h32] at hf
            refine aw_aload_n X 2 dX12_race_95 rfl rfl ?_
            refine aw_iload_n X 3 dX12_race_96 rfl rfl ?_
            refine aw_iload X 0 dX12_race_97 rfl ?_
            refine aw_iload_n X 4 dX12_race_99 rfl rfl ?_
            refine aw_iload_n X 5 dX12_race_100 rfl rfl ?_
            refine aw_iconst X dX12_race_101 ?_
            obtain ⟨q33, e34, hf⟩ := z_bd hf
            refine aw_callV X [z_i v1, z_i q26, z_i v2, z_i v3, z_i 0] [] [z_i q33] cX12_482 s_758 ciX12 (C_X12_paceOf l D cA sa ad bs v1 c_v1 q26 p28 v2 c_v2 v3 c_v3 0 (z_lit (x := 0) (by decide)) (u2 σ 758 0 0) q33 e34) rfl ⟨(Nat.le_of_ble_eq_true rfl), (Nat.le_of_ble_eq_true rfl), (Nat.le_of_ble_eq_true rfl), (Nat.le_of_ble_eq_true rfl)⟩ rfl (Nat.le_of_ble_eq_true rfl) rfl dX12_race_102 (fun p35 => ?_)
            refine aw_sub [6, 1] rfl ?_
            exact A_X12_race_105 X hr v4 c_v4 q20 p22 q33 p35 (u2 σ 758 0 0) hf
          · rw [if_neg h32] at hf
            refine aw_iconst X dX12_race_91 ?_
            refine aw_goto X (tgt := 105) dX12_race_92 (by decide) ?_
            refine aw_sub [6, 1] rfl ?_
            exact A_X12_race_105 X hr v4 c_v4 q20 p22 (-1) (z_lit (x := (-1)) (by decide)) (u2 σ 758 0 0) hf
        · rw [if_pos h16] at hf
          refine aw_ldcw X (x := (-1000000)) dX12_race_50 kX12_431 (by decide) ?_
          obtain rfl := Option.some.inj hf
          exact aw_iret X (z_lit (x := (-1000000)) (by decide)) hr rfl dX12_race_53
-- SpeedDeskModel.lates([I)I
section S_X12_lates
variable {p : Program} {l : Launch} {e : Env} {s : State} {m : MethodId} {args : Array Value} {below : List Frame} {meth : Method} {c : Code} {D : va_G} {cA : Nat → ClassId} {sa ad : Nat → Nat} {bs : Nat} {q : Int}
set_option maxHeartbeats 4000000 in
set_option maxRecDepth 100000 in
theorem A_X12_lates_4 (X : AX p s m args meth c D cA sa bs cX12_lates 3 RX12) (hr : meth.sig.returnType = (some .int)) (σ : Nat → Nat → Int) : ∀ (k : Nat) (a0 : Nat) (h_a0 : a0 < 788 ∧ SHp a0 = .inr (0, 256, [])) (v1 : Int) (c_v1 : Z_I v1) (v2 : Int) (c_v2 : Z_I v2), f_X12_lates_4 k a0 v1 v2 σ = some q → AW p l e (ax_rm 0 0 0) s m args below meth c D cA ad bs 788 SHp 0 0 (ax_MQ below args s D cA ad bs 788 SHp 0 0 (some (z_i q)) (Z_I q) σ) 3 4 [(0, .ref (ad a0)), (1, z_i v1), (2, z_i v2)] [] σ := by
  intro k
  induction k with
  | zero =>
    intro a0 h_a0 v1 c_v1 v2 c_v2 hf
    unfold f_X12_lates_4 at hf
    cases hf
  | succ k ih =>
    intro a0 h_a0 v1 c_v1 v2 c_v2 hf
    unfold f_X12_lates_4 at hf
    refine aw_iload_n X 2 dX12_lates_4 rfl rfl ?_
    refine aw_iconst X dX12_lates_5 ?_
    refine aw_icmp_ge X (tgt := 24) c_v2 (z_lit (x := 4) (by decide)) dX12_lates_6 (by decide) (fun h1 => ?_) (fun h1 => ?_)
    · rw [if_pos h1] at hf
      refine aw_iload_n X 1 dX12_lates_24 rfl rfl ?_
      obtain rfl := Option.some.inj hf
      exact aw_iret X c_v1 hr rfl dX12_lates_25
    · rw [if_neg h1] at hf
      refine aw_iload_n X 1 dX12_lates_9 rfl rfl ?_
      refine aw_aload_n X 0 dX12_lates_10 rfl rfl ?_
      refine aw_bipush X dX12_lates_11 (by decide) ?_
      refine aw_iload_n X 2 dX12_lates_13 rfl rfl ?_
      refine aw_iadd X dX12_lates_14 ?_
      obtain ⟨g2, hf⟩ := z_gd hf
      refine aw_iald X (j := (z_w (33 + v2)).toNat) h_a0 (z_w_in _) g2.1 g2.2 rfl dX12_lates_15 (fun c3 => ?_)
      refine aw_iadd X dX12_lates_16 ?_
      refine aw_istore_n X [(1, z_i (z_w (v1 + (σ a0 (z_w (33 + v2)).toNat)))), (0, .ref (ad a0)), (2, z_i v2)] dX12_lates_17 rfl (by decide) rfl ?_
      refine aw_iinc X 2 [(2, z_i (z_w (v2 + 1))), (1, z_i (z_w (v1 + (σ a0 (z_w (33 + v2)).toNat)))), (0, .ref (ad a0))] dX12_lates_18 rfl (by decide) rfl ?_
      refine aw_goto X (tgt := 4) dX12_lates_21 (by decide) ?_
      refine aw_sub [2, 1, 0] rfl ?_
      exact ih a0 h_a0 (z_w (v1 + (σ a0 (z_w (33 + v2)).toNat))) (z_w_in _) (z_w (v2 + 1)) (z_w_in _) hf
end S_X12_lates
set_option maxHeartbeats 4000000 in
set_option maxRecDepth 100000 in
theorem C_X12_lates (l : Launch) (D : va_G) (cA : Nat → ClassId) (sa ad : Nat → Nat) (bs : Nat) (a0 : Nat) (h_a0 : a0 < 788 ∧ SHp a0 = .inr (0, 256, [])) (σ : Nat → Nat → Int) (q : Int) (hf : f_X12_lates a0 σ = some q) : AM l D cA sa ad bs 788 SHp yX12_lates cX12_lates 3 (some .int) 0 [.ref (ad a0)] σ (some (z_i q)) (Z_I q) σ := by
  refine am_of (by decide +kernel) (Nat.le_of_ble_eq_true rfl) (fun p e s m args below meth c X hr => ?_)
  refine aw_lv (lv' := [(0, .ref (ad a0))]) rfl ?_
  unfold f_X12_lates at hf
  refine aw_iconst X dX12_lates_0 ?_
  refine aw_istore_n X [(1, z_i 0), (0, .ref (ad a0))] dX12_lates_1 rfl (by decide) rfl ?_
  refine aw_iconst X dX12_lates_2 ?_
  refine aw_istore_n X [(2, z_i 0), (1, z_i 0), (0, .ref (ad a0))] dX12_lates_3 rfl (by decide) rfl ?_
  refine aw_sub [2, 1, 0] rfl ?_
  exact A_X12_lates_4 X hr σ 100000 a0 h_a0 0 (z_lit (x := 0) (by decide)) 0 (z_lit (x := 0) (by decide)) hf
-- SpeedDeskModel.goesOn(I)V
section S_X12_goesOn_
variable {p : Program} {l : Launch} {e : Env} {s : State} {m : MethodId} {args : Array Value} {below : List Frame} {meth : Method} {c : Code} {D : va_G} {cA : Nat → ClassId} {sa ad : Nat → Nat} {bs : Nat} {q : (Nat → Nat → Int)}
set_option maxHeartbeats 4000000 in
set_option maxRecDepth 100000 in
theorem A_X12_goesOn__15 (X : AX p s m args meth c D cA sa bs cX12_goesOn_ 4 RX12) (hr : meth.sig.returnType = none) : ∀ (k : Nat) (v1 : Int) (c_v1 : Z_I v1) (v2 : Int) (c_v2 : Z_I v2) (σ : Nat → Nat → Int), f_X12_goesOn__15 k v1 v2 σ = some q → AW p l e (ax_rm 5 0 0) s m args below meth c D cA ad bs 788 SHp 0 0 (ax_MQ below args s D cA ad bs 788 SHp 0 0 none True q) 4 15 [(0, .ref (ad 758)), (1, z_i v1), (2, z_i v2)] [] σ := by
  intro k
  induction k with
  | zero =>
    intro v1 c_v1 v2 c_v2 σ hf
    unfold f_X12_goesOn__15 at hf
    cases hf
  | succ k ih =>
    intro v1 c_v1 v2 c_v2 σ hf
    unfold f_X12_goesOn__15 at hf
    refine aw_iload_n X 2 dX12_goesOn__15 rfl rfl ?_
    refine aw_iload_n X 1 dX12_goesOn__16 rfl rfl ?_
    refine aw_icmp_ge X (tgt := 35) c_v2 c_v1 dX12_goesOn__17 (by decide) (fun h4 => ?_) (fun h4 => ?_)
    · rw [if_pos h4] at hf
      obtain rfl := Option.some.inj hf
      exact aw_vret X trivial hr rfl dX12_goesOn__35
    · rw [if_neg h4] at hf
      refine aw_aload_n X 0 dX12_goesOn__20 rfl rfl ?_
      refine aw_aload_n X 0 dX12_goesOn__21 rfl rfl ?_
      refine aw_getR X s_758 fX12_66 rfl dX12_goesOn__22 ?_
      obtain ⟨q5, e6, hf⟩ := z_bd hf
      refine aw_callV X [.ref (ad 777)] [] [z_i q5.1] cX12_376 s_758 ciX12 (C_X12_ticks l D cA sa ad bs 777 s_777 σ q5 e6) rfl ⟨(Nat.le_of_ble_eq_true rfl), (Nat.le_of_ble_eq_true rfl), (Nat.le_of_ble_eq_true rfl), (Nat.le_of_ble_eq_true rfl)⟩ rfl (Nat.le_of_ble_eq_true rfl) rfl dX12_goesOn__25 (fun p7 => ?_)
      refine aw_istore_n X [(3, z_i q5.1), (0, .ref (ad 758)), (1, z_i v1), (2, z_i v2)] dX12_goesOn__28 rfl (by decide) rfl ?_
      refine aw_iinc X 3 [(2, z_i (z_w (v2 + 1))), (3, z_i q5.1), (0, .ref (ad 758)), (1, z_i v1)] dX12_goesOn__29 rfl (by decide) rfl ?_
      refine aw_goto X (tgt := 15) dX12_goesOn__32 (by decide) ?_
      refine aw_sub [2, 3, 0] rfl ?_
      exact ih v1 c_v1 (z_w (v2 + 1)) (z_w_in _) q5.2 hf
end S_X12_goesOn_
set_option maxHeartbeats 4000000 in
set_option maxRecDepth 100000 in
theorem C_X12_goesOn_ (l : Launch) (D : va_G) (cA : Nat → ClassId) (sa ad : Nat → Nat) (bs : Nat) (v1 : Int) (c_v1 : Z_I v1) (σ : Nat → Nat → Int) (q : (Nat → Nat → Int)) (hf : f_X12_goesOn_ v1 σ = some q) : AM l D cA sa ad bs 788 SHp yX12_goesOn_ cX12_goesOn_ 4 none 5 [.ref (ad 758), z_i v1] σ none True q := by
  refine am_of (by decide +kernel) (Nat.le_of_ble_eq_true rfl) (fun p e s m args below meth c X hr => ?_)
  refine aw_lv (lv' := [(0, .ref (ad 758)), (1, z_i v1)]) rfl ?_
  unfold f_X12_goesOn_ at hf
  refine aw_aload_n X 0 dX12_goesOn__0 rfl rfl ?_
  refine aw_getR X s_758 fX12_63 rfl dX12_goesOn__1 ?_
  refine aw_iconst X dX12_goesOn__4 ?_
  refine aw_aload_n X 0 dX12_goesOn__5 rfl rfl ?_
  refine aw_getR X s_758 fX12_66 rfl dX12_goesOn__6 ?_
  refine aw_iconst X dX12_goesOn__9 ?_
  obtain ⟨q1, e2, hf⟩ := z_bd hf
  refine aw_callS X [.ref (ad 776), z_i 0, .ref (ad 777), z_i 0] [] [] cX12_333 (C_X12_copyRow l D cA sa ad bs 776 256 s_776 0 (z_lit (x := 0) (by decide)) 777 256 s_777 0 (z_lit (x := 0) (by decide)) σ q1 e2) rfl ⟨(Nat.le_of_ble_eq_true rfl), (Nat.le_of_ble_eq_true rfl), (Nat.le_of_ble_eq_true rfl), (Nat.le_of_ble_eq_true rfl)⟩ rfl (Nat.le_of_ble_eq_true rfl) rfl dX12_goesOn__10 (fun p3 => ?_)
  refine aw_iconst X dX12_goesOn__13 ?_
  refine aw_istore_n X [(2, z_i 0), (0, .ref (ad 758)), (1, z_i v1)] dX12_goesOn__14 rfl (by decide) rfl ?_
  refine aw_sub [1, 2, 0] rfl ?_
  exact A_X12_goesOn__15 X hr 100000 v1 c_v1 0 (z_lit (x := 0) (by decide)) q1 hf
-- SpeedDeskModel.ahead(II)I
section S_X12_ahead
variable {p : Program} {l : Launch} {e : Env} {s : State} {m : MethodId} {args : Array Value} {below : List Frame} {meth : Method} {c : Code} {D : va_G} {cA : Nat → ClassId} {sa ad : Nat → Nat} {bs : Nat} {q : (Int × (Nat → Nat → Int))}

end S_X12_ahead
set_option maxHeartbeats 4000000 in
set_option maxRecDepth 100000 in
theorem C_X12_ahead (l : Launch) (D : va_G) (cA : Nat → ClassId) (sa ad : Nat → Nat) (bs : Nat) (v1 : Int) (c_v1 : Z_I v1) (v2 : Int) (c_v2 : Z_I v2) (σ : Nat → Nat → Int) (q : (Int × (Nat → Nat → Int))) (hf : f_X12_ahead v1 v2 σ = some q) : AM l D cA sa ad bs 788 SHp yX12_ahead cX12_ahead 3 (some .int) 6 [.ref (ad 758), z_i v1, z_i v2] σ (some (z_i q.1)) (Z_I q.1) q.2 := by
  refine am_of (by decide +kernel) (Nat.le_of_ble_eq_true rfl) (fun p e s m args below meth c X hr => ?_)
  refine aw_lv (lv' := [(0, .ref (ad 758)), (1, z_i v1), (2, z_i v2)]) rfl ?_
  unfold f_X12_ahead at hf
  refine aw_aload_n X 0 dX12_ahead_0 rfl rfl ?_
  refine aw_iconst X dX12_ahead_1 ?_
  refine aw_putI X s_758 pX12_101 rfl (z_lit (x := 0) (by decide)) dX12_ahead_2 ?_
  refine aw_aload_n X 0 dX12_ahead_5 rfl rfl ?_
  refine aw_getI X s_758 fX12_234 rfl dX12_ahead_6 (fun c1 => ?_)
  refine aw_if_eq X (tgt := 55) c1 dX12_ahead_9 (by decide) (fun h2 => ?_) (fun h2 => ?_)
  · rw [if_pos h2] at hf
    refine aw_iconst X dX12_ahead_55 ?_
    obtain rfl := Option.some.inj hf
    exact aw_iret X (z_lit (x := (-1)) (by decide)) hr rfl dX12_ahead_56
  · rw [if_neg h2] at hf
    refine aw_iload_n X 1 dX12_ahead_12 rfl rfl ?_
    refine aw_i2l X c_v1 dX12_ahead_13 ?_
    refine aw_lconst X (x := 0) dX12_ahead_14 (by decide) ?_
    refine aw_ldc2 X (x := 200) dX12_ahead_15 kX12_486 (by decide) ?_
    obtain ⟨q3, e4, hf⟩ := z_bd hf
    refine aw_callS X [z_v v1, z_v 0, z_v 200] [] [z_i q3] cX12_156 (C_X12_isIn l D cA sa ad bs v1 (z_IL c_v1) 0 (z_litL (x := 0) (by decide)) 200 (z_litL (x := 200) (by decide)) (u2 σ 758 0 0) q3 e4) rfl ⟨(Nat.le_of_ble_eq_true rfl), (Nat.le_of_ble_eq_true rfl), (Nat.le_of_ble_eq_true rfl), (Nat.le_of_ble_eq_true rfl)⟩ rfl (Nat.le_of_ble_eq_true rfl) rfl dX12_ahead_18 (fun p5 => ?_)
    refine aw_if_eq X (tgt := 55) (z_zI p5) dX12_ahead_21 (by decide) (fun h6 => ?_) (fun h6 => ?_)
    · rw [if_pos h6] at hf
      refine aw_iconst X dX12_ahead_55 ?_
      obtain rfl := Option.some.inj hf
      exact aw_iret X (z_lit (x := (-1)) (by decide)) hr rfl dX12_ahead_56
    · rw [if_neg h6] at hf
      refine aw_aload_n X 0 dX12_ahead_24 rfl rfl ?_
      refine aw_getR X s_758 fX12_63 rfl dX12_ahead_25 ?_
      refine aw_bipush X dX12_ahead_28 (by decide) ?_
      refine aw_iald X (j := 41) s_776 (z_lit (x := 41) (by decide)) (by decide) (by decide) rfl dX12_ahead_30 (fun c7 => ?_)
      refine aw_iload_n X 1 dX12_ahead_31 rfl rfl ?_
      refine aw_iadd X dX12_ahead_32 ?_
      refine aw_sipush X dX12_ahead_33 (by decide) ?_
      refine aw_icmp_gt X (tgt := 55) (z_w_in _) (z_lit (x := 9999) (by decide)) dX12_ahead_36 (by decide) (fun h8 => ?_) (fun h8 => ?_)
      · rw [if_pos h8] at hf
        refine aw_iconst X dX12_ahead_55 ?_
        obtain rfl := Option.some.inj hf
        exact aw_iret X (z_lit (x := (-1)) (by decide)) hr rfl dX12_ahead_56
      · rw [if_neg h8] at hf
        refine aw_iload_n X 2 dX12_ahead_39 rfl rfl ?_
        refine aw_i2l X c_v2 dX12_ahead_40 ?_
        refine aw_lconst X (x := 0) dX12_ahead_41 (by decide) ?_
        refine aw_iconst X dX12_ahead_42 ?_
        refine aw_aload_n X 0 dX12_ahead_43 rfl rfl ?_
        refine aw_getI X s_758 fX12_234 rfl dX12_ahead_44 (fun c9 => ?_)
        refine aw_iadd X dX12_ahead_47 ?_
        refine aw_i2l X (z_w_in _) dX12_ahead_48 ?_
        obtain ⟨q10, e11, hf⟩ := z_bd hf
        refine aw_callS X [z_v v2, z_v 0, z_v (z_w (2 + ((u2 σ 758 0 0) 758 21)))] [] [z_i q10] cX12_156 (C_X12_isIn l D cA sa ad bs v2 (z_IL c_v2) 0 (z_litL (x := 0) (by decide)) (z_w (2 + ((u2 σ 758 0 0) 758 21))) (z_IL (z_w_in _)) (u2 σ 758 0 0) q10 e11) rfl ⟨(Nat.le_of_ble_eq_true rfl), (Nat.le_of_ble_eq_true rfl), (Nat.le_of_ble_eq_true rfl), (Nat.le_of_ble_eq_true rfl)⟩ rfl (Nat.le_of_ble_eq_true rfl) rfl dX12_ahead_49 (fun p12 => ?_)
        refine aw_if_ne X (tgt := 57) (z_zI p12) dX12_ahead_52 (by decide) (fun h13 => ?_) (fun h13 => ?_)
        · rw [if_neg h13] at hf
          refine aw_aload_n X 0 dX12_ahead_57 rfl rfl ?_
          refine aw_iload_n X 1 dX12_ahead_58 rfl rfl ?_
          obtain ⟨q14, e15, hf⟩ := z_bd hf
          refine aw_callV X [z_i v1] [] [] cX12_488 s_758 ciX12 (C_X12_goesOn_ l D cA sa ad bs v1 c_v1 (u2 σ 758 0 0) q14 e15) rfl ⟨(Nat.le_of_ble_eq_true rfl), (Nat.le_of_ble_eq_true rfl), (Nat.le_of_ble_eq_true rfl), (Nat.le_of_ble_eq_true rfl)⟩ rfl (Nat.le_of_ble_eq_true rfl) rfl dX12_ahead_59 (fun p16 => ?_)
          refine aw_iload_n X 2 dX12_ahead_62 rfl rfl ?_
          refine aw_if_ne X (tgt := 76) c_v2 dX12_ahead_63 (by decide) (fun h17 => ?_) (fun h17 => ?_)
          · rw [if_neg h17] at hf
            refine aw_iload_n X 2 dX12_ahead_76 rfl rfl ?_
            refine aw_iconst X dX12_ahead_77 ?_
            refine aw_icmp_ne X (tgt := 91) c_v2 (z_lit (x := 1) (by decide)) dX12_ahead_78 (by decide) (fun h18 => ?_) (fun h18 => ?_)
            · rw [if_neg h18] at hf
              refine aw_iload_n X 2 dX12_ahead_91 rfl rfl ?_
              refine aw_iconst X dX12_ahead_92 ?_
              refine aw_icmp_ne X (tgt := 106) c_v2 (z_lit (x := 2) (by decide)) dX12_ahead_93 (by decide) (fun h19 => ?_) (fun h19 => ?_)
              · rw [if_neg h19] at hf
                refine aw_aload_n X 0 dX12_ahead_106 rfl rfl ?_
                refine aw_getR X s_758 fX12_66 rfl dX12_ahead_107 ?_
                refine aw_iconst X dX12_ahead_110 ?_
                refine aw_iload_n X 2 dX12_ahead_111 rfl rfl ?_
                refine aw_iadd X dX12_ahead_112 ?_
                refine aw_iconst X dX12_ahead_113 ?_
                refine aw_isub X dX12_ahead_114 ?_
                obtain ⟨g20, hf⟩ := z_gd hf
                refine aw_iald X (j := (z_w ((z_w (0 + v2)) - 3)).toNat) s_777 (z_w_in _) g20.1 g20.2 rfl dX12_ahead_115 (fun c21 => ?_)
                obtain rfl := Option.some.inj hf
                exact aw_iret X c21 hr rfl dX12_ahead_116
              · rw [if_pos h19] at hf
                refine aw_aload_n X 0 dX12_ahead_96 rfl rfl ?_
                refine aw_getR X s_758 fX12_66 rfl dX12_ahead_97 ?_
                refine aw_bipush X dX12_ahead_100 (by decide) ?_
                refine aw_iald X (j := 42) s_777 (z_lit (x := 42) (by decide)) (by decide) (by decide) rfl dX12_ahead_102 (fun c22 => ?_)
                refine aw_goto X (tgt := 116) dX12_ahead_103 (by decide) ?_
                obtain rfl := Option.some.inj hf
                exact aw_iret X c22 hr rfl dX12_ahead_116
            · rw [if_pos h18] at hf
              refine aw_aload_n X 0 dX12_ahead_81 rfl rfl ?_
              refine aw_getR X s_758 fX12_66 rfl dX12_ahead_82 ?_
              obtain ⟨q23, e24, hf⟩ := z_bd hf
              refine aw_callS X [.ref (ad 777)] [] [z_i q23] cX12_490 (C_X12_lates l D cA sa ad bs 777 s_777 q14 q23 e24) rfl ⟨(Nat.le_of_ble_eq_true rfl), (Nat.le_of_ble_eq_true rfl), (Nat.le_of_ble_eq_true rfl), (Nat.le_of_ble_eq_true rfl)⟩ rfl (Nat.le_of_ble_eq_true rfl) rfl dX12_ahead_85 (fun p25 => ?_)
              refine aw_goto X (tgt := 116) dX12_ahead_88 (by decide) ?_
              obtain rfl := Option.some.inj hf
              exact aw_iret X p25 hr rfl dX12_ahead_116
          · rw [if_pos h17] at hf
            refine aw_aload_n X 0 dX12_ahead_66 rfl rfl ?_
            refine aw_getR X s_758 fX12_66 rfl dX12_ahead_67 ?_
            refine aw_bipush X dX12_ahead_70 (by decide) ?_
            refine aw_iald X (j := 43) s_777 (z_lit (x := 43) (by decide)) (by decide) (by decide) rfl dX12_ahead_72 (fun c26 => ?_)
            refine aw_goto X (tgt := 116) dX12_ahead_73 (by decide) ?_
            obtain rfl := Option.some.inj hf
            exact aw_iret X c26 hr rfl dX12_ahead_116
        · rw [if_pos h13] at hf
          refine aw_iconst X dX12_ahead_55 ?_
          obtain rfl := Option.some.inj hf
          exact aw_iret X (z_lit (x := (-1)) (by decide)) hr rfl dX12_ahead_56
-- SpeedDeskModel.bound(II)I
section S_X12_bound
variable {p : Program} {l : Launch} {e : Env} {s : State} {m : MethodId} {args : Array Value} {below : List Frame} {meth : Method} {c : Code} {D : va_G} {cA : Nat → ClassId} {sa ad : Nat → Nat} {bs : Nat} {q : (Int × (Nat → Nat → Int))}
set_option maxHeartbeats 4000000 in
set_option maxRecDepth 100000 in
theorem A_X12_bound_52 (X : AX p s m args meth c D cA sa bs cX12_bound 5 RX12) (hr : meth.sig.returnType = (some .int)) : ∀ (k : Nat) (v1 : Int) (c_v1 : Z_I v1) (v2 : Int) (c_v2 : Z_I v2) (v3 : Int) (c_v3 : Z_I v3) (v4 : Int) (c_v4 : Z_I v4) (σ : Nat → Nat → Int), f_X12_bound_52 k v1 v2 v3 v4 σ = some q → AW p l e (ax_rm 6 0 0) s m args below meth c D cA ad bs 788 SHp 0 0 (ax_MQ below args s D cA ad bs 788 SHp 0 0 (some (z_i q.1)) (Z_I q.1) q.2) 5 52 [(0, .ref (ad 758)), (1, z_i v1), (2, z_i v2), (3, z_i v3), (4, z_i v4)] [] σ := by
  intro k
  induction k with
  | zero =>
    intro v1 c_v1 v2 c_v2 v3 c_v3 v4 c_v4 σ hf
    unfold f_X12_bound_52 at hf
    cases hf
  | succ k ih =>
    intro v1 c_v1 v2 c_v2 v3 c_v3 v4 c_v4 σ hf
    unfold f_X12_bound_52 at hf
    refine aw_iload X 4 dX12_bound_52 rfl ?_
    refine aw_aload_n X 0 dX12_bound_54 rfl rfl ?_
    refine aw_iload_n X 1 dX12_bound_55 rfl rfl ?_
    obtain ⟨q11, e12, hf⟩ := z_bd hf
    refine aw_callV X [z_i v1] [z_i v4] [z_i q11, z_i v4] cX12_246 s_758 ciX12 (C_X12_lastPoint l D cA sa ad bs v1 c_v1 σ q11 e12) rfl ⟨(Nat.le_of_ble_eq_true rfl), (Nat.le_of_ble_eq_true rfl), (Nat.le_of_ble_eq_true rfl), (Nat.le_of_ble_eq_true rfl)⟩ rfl (Nat.le_of_ble_eq_true rfl) rfl dX12_bound_56 (fun p13 => ?_)
    refine aw_icmp_gt X (tgt := 104) c_v4 p13 dX12_bound_59 (by decide) (fun h14 => ?_) (fun h14 => ?_)
    · rw [if_pos h14] at hf
      refine aw_aload_n X 0 dX12_bound_104 rfl rfl ?_
      refine aw_iconst X dX12_bound_105 ?_
      refine aw_putI X s_758 pX12_75 rfl (z_lit (x := (-1)) (by decide)) dX12_bound_106 ?_
      refine aw_iload_n X 3 dX12_bound_109 rfl rfl ?_
      obtain rfl := Option.some.inj hf
      exact aw_iret X c_v3 hr rfl dX12_bound_110
    · rw [if_neg h14] at hf
      refine aw_iload_n X 3 dX12_bound_62 rfl rfl ?_
      refine aw_iconst X dX12_bound_63 ?_
      refine aw_icmp_ne X (tgt := 104) c_v3 (z_lit (x := (-1)) (by decide)) dX12_bound_64 (by decide) (fun h15 => ?_) (fun h15 => ?_)
      · rw [if_neg h15] at hf
        refine aw_aload_n X 0 dX12_bound_104 rfl rfl ?_
        refine aw_iconst X dX12_bound_105 ?_
        refine aw_putI X s_758 pX12_75 rfl (z_lit (x := (-1)) (by decide)) dX12_bound_106 ?_
        refine aw_iload_n X 3 dX12_bound_109 rfl rfl ?_
        obtain rfl := Option.some.inj hf
        exact aw_iret X c_v3 hr rfl dX12_bound_110
      · rw [if_pos h15] at hf
        refine aw_aload_n X 0 dX12_bound_67 rfl rfl ?_
        refine aw_iload X 4 dX12_bound_68 rfl ?_
        refine aw_putI X s_758 pX12_270 rfl c_v4 dX12_bound_70 ?_
        refine aw_aload_n X 0 dX12_bound_73 rfl rfl ?_
        refine aw_iload_n X 2 dX12_bound_74 rfl rfl ?_
        obtain ⟨q16, e17, hf⟩ := z_bd hf
        refine aw_callV X [z_i v2] [] [] cX12_488 s_758 ciX12 (C_X12_goesOn_ l D cA sa ad bs v2 c_v2 (u2 σ 758 39 v4) q16 e17) rfl ⟨(Nat.le_of_ble_eq_true rfl), (Nat.le_of_ble_eq_true rfl), (Nat.le_of_ble_eq_true rfl), (Nat.le_of_ble_eq_true rfl)⟩ rfl (Nat.le_of_ble_eq_true rfl) rfl dX12_bound_75 (fun p18 => ?_)
        refine aw_aload_n X 0 dX12_bound_78 rfl rfl ?_
        refine aw_getR X s_758 fX12_66 rfl dX12_bound_79 ?_
        obtain ⟨q19, e20, hf⟩ := z_bd hf
        refine aw_callS X [.ref (ad 777)] [] [z_i q19] cX12_490 (C_X12_lates l D cA sa ad bs 777 s_777 q16 q19 e20) rfl ⟨(Nat.le_of_ble_eq_true rfl), (Nat.le_of_ble_eq_true rfl), (Nat.le_of_ble_eq_true rfl), (Nat.le_of_ble_eq_true rfl)⟩ rfl (Nat.le_of_ble_eq_true rfl) rfl dX12_bound_82 (fun p21 => ?_)
        refine aw_aload_n X 0 dX12_bound_85 rfl rfl ?_
        refine aw_getR X s_758 fX12_63 rfl dX12_bound_86 ?_
        obtain ⟨q22, e23, hf⟩ := z_bd hf
        refine aw_callS X [.ref (ad 776)] [z_i q19] [z_i q22, z_i q19] cX12_490 (C_X12_lates l D cA sa ad bs 776 s_776 q16 q22 e23) rfl ⟨(Nat.le_of_ble_eq_true rfl), (Nat.le_of_ble_eq_true rfl), (Nat.le_of_ble_eq_true rfl), (Nat.le_of_ble_eq_true rfl)⟩ rfl (Nat.le_of_ble_eq_true rfl) rfl dX12_bound_89 (fun p24 => ?_)
        refine aw_icmp_ne X (tgt := 98) p21 p24 dX12_bound_92 (by decide) (fun h25 => ?_) (fun h25 => ?_)
        · simp only [if_neg h25] at hf
          refine aw_iinc X 4 [(4, z_i (z_w (v4 + 1))), (0, .ref (ad 758)), (1, z_i v1), (2, z_i v2), (3, z_i v3)] dX12_bound_98 rfl (by decide) rfl ?_
          refine aw_goto X (tgt := 52) dX12_bound_101 (by decide) ?_
          refine aw_sub [1, 2, 3, 4, 0] rfl ?_
          exact ih v1 c_v1 v2 c_v2 v3 c_v3 (z_w (v4 + 1)) (z_w_in _) q16 hf
        · simp only [if_pos h25] at hf
          refine aw_iload X 4 dX12_bound_95 rfl ?_
          refine aw_istore_n X [(3, z_i v4), (0, .ref (ad 758)), (1, z_i v1), (2, z_i v2), (4, z_i v4)] dX12_bound_97 rfl (by decide) rfl ?_
          refine aw_iinc X 4 [(4, z_i (z_w (v4 + 1))), (3, z_i v4), (0, .ref (ad 758)), (1, z_i v1), (2, z_i v2)] dX12_bound_98 rfl (by decide) rfl ?_
          refine aw_goto X (tgt := 52) dX12_bound_101 (by decide) ?_
          refine aw_sub [2, 3, 4, 1, 0] rfl ?_
          exact ih v1 c_v1 v2 c_v2 v4 c_v4 (z_w (v4 + 1)) (z_w_in _) q16 hf
end S_X12_bound
set_option maxHeartbeats 4000000 in
set_option maxRecDepth 100000 in
theorem C_X12_bound (l : Launch) (D : va_G) (cA : Nat → ClassId) (sa ad : Nat → Nat) (bs : Nat) (v1 : Int) (c_v1 : Z_I v1) (v2 : Int) (c_v2 : Z_I v2) (σ : Nat → Nat → Int) (q : (Int × (Nat → Nat → Int))) (hf : f_X12_bound v1 v2 σ = some q) : AM l D cA sa ad bs 788 SHp yX12_bound cX12_bound 5 (some .int) 6 [.ref (ad 758), z_i v1, z_i v2] σ (some (z_i q.1)) (Z_I q.1) q.2 := by
  refine am_of (by decide +kernel) (Nat.le_of_ble_eq_true rfl) (fun p e s m args below meth c X hr => ?_)
  refine aw_lv (lv' := [(0, .ref (ad 758)), (1, z_i v1), (2, z_i v2)]) rfl ?_
  unfold f_X12_bound at hf
  refine aw_aload_n X 0 dX12_bound_0 rfl rfl ?_
  refine aw_iconst X dX12_bound_1 ?_
  refine aw_putI X s_758 pX12_101 rfl (z_lit (x := 0) (by decide)) dX12_bound_2 ?_
  refine aw_aload_n X 0 dX12_bound_5 rfl rfl ?_
  refine aw_iload_n X 1 dX12_bound_6 rfl rfl ?_
  obtain ⟨q1, e2, hf⟩ := z_bd hf
  refine aw_callV X [z_i v1] [] [z_i q1] cX12_350 s_758 ciX12 (C_X12_isCluster l D cA sa ad bs v1 c_v1 (u2 σ 758 0 0) q1 e2) rfl ⟨(Nat.le_of_ble_eq_true rfl), (Nat.le_of_ble_eq_true rfl), (Nat.le_of_ble_eq_true rfl), (Nat.le_of_ble_eq_true rfl)⟩ rfl (Nat.le_of_ble_eq_true rfl) rfl dX12_bound_7 (fun p3 => ?_)
  refine aw_if_eq X (tgt := 40) (z_zI p3) dX12_bound_10 (by decide) (fun h4 => ?_) (fun h4 => ?_)
  · rw [if_pos h4] at hf
    refine aw_iconst X dX12_bound_40 ?_
    obtain rfl := Option.some.inj hf
    exact aw_iret X (z_lit (x := (-1)) (by decide)) hr rfl dX12_bound_41
  · rw [if_neg h4] at hf
    refine aw_iload_n X 2 dX12_bound_13 rfl rfl ?_
    refine aw_i2l X c_v2 dX12_bound_14 ?_
    refine aw_lconst X (x := 1) dX12_bound_15 (by decide) ?_
    refine aw_ldc2 X (x := 100) dX12_bound_16 kX12_456 (by decide) ?_
    obtain ⟨q5, e6, hf⟩ := z_bd hf
    refine aw_callS X [z_v v2, z_v 1, z_v 100] [] [z_i q5] cX12_156 (C_X12_isIn l D cA sa ad bs v2 (z_IL c_v2) 1 (z_litL (x := 1) (by decide)) 100 (z_litL (x := 100) (by decide)) (u2 σ 758 0 0) q5 e6) rfl ⟨(Nat.le_of_ble_eq_true rfl), (Nat.le_of_ble_eq_true rfl), (Nat.le_of_ble_eq_true rfl), (Nat.le_of_ble_eq_true rfl)⟩ rfl (Nat.le_of_ble_eq_true rfl) rfl dX12_bound_19 (fun p7 => ?_)
    refine aw_if_eq X (tgt := 40) (z_zI p7) dX12_bound_22 (by decide) (fun h8 => ?_) (fun h8 => ?_)
    · rw [if_pos h8] at hf
      refine aw_iconst X dX12_bound_40 ?_
      obtain rfl := Option.some.inj hf
      exact aw_iret X (z_lit (x := (-1)) (by decide)) hr rfl dX12_bound_41
    · rw [if_neg h8] at hf
      refine aw_aload_n X 0 dX12_bound_25 rfl rfl ?_
      refine aw_getR X s_758 fX12_63 rfl dX12_bound_26 ?_
      refine aw_bipush X dX12_bound_29 (by decide) ?_
      refine aw_iald X (j := 41) s_776 (z_lit (x := 41) (by decide)) (by decide) (by decide) rfl dX12_bound_31 (fun c9 => ?_)
      refine aw_iload_n X 2 dX12_bound_32 rfl rfl ?_
      refine aw_iadd X dX12_bound_33 ?_
      refine aw_sipush X dX12_bound_34 (by decide) ?_
      refine aw_icmp_le X (tgt := 42) (z_w_in _) (z_lit (x := 9999) (by decide)) dX12_bound_37 (by decide) (fun h10 => ?_) (fun h10 => ?_)
      · rw [if_pos h10] at hf
        refine aw_iconst X dX12_bound_42 ?_
        refine aw_istore_n X [(3, z_i (-1)), (0, .ref (ad 758)), (1, z_i v1), (2, z_i v2)] dX12_bound_43 rfl (by decide) rfl ?_
        refine aw_aload_n X 1 dX12_bound_44 rfl rfl ?_
        refine aw_iload_n X 2 dX12_bound_45 rfl rfl ?_
        refine aw_putI X s_758 pX12_75 rfl c_v1 dX12_bound_46 ?_
        refine aw_iconst X dX12_bound_49 ?_
        refine aw_istore X [(4, z_i 0), (3, z_i (-1)), (0, .ref (ad 758)), (1, z_i v1), (2, z_i v2)] dX12_bound_50 (by decide) rfl ?_
        refine aw_sub [2, 3, 4, 1, 0] rfl ?_
        exact A_X12_bound_52 X hr 100000 v1 c_v1 v2 c_v2 (-1) (z_lit (x := (-1)) (by decide)) 0 (z_lit (x := 0) (by decide)) (u2 (u2 σ 758 0 0) 758 38 v1) hf
      · rw [if_neg h10] at hf
        refine aw_iconst X dX12_bound_40 ?_
        obtain rfl := Option.some.inj hf
        exact aw_iret X (z_lit (x := (-1)) (by decide)) hr rfl dX12_bound_41
-- SpeedDeskModel.isScript(I)Z
section S_X12_isScript
variable {p : Program} {l : Launch} {e : Env} {s : State} {m : MethodId} {args : Array Value} {below : List Frame} {meth : Method} {c : Code} {D : va_G} {cA : Nat → ClassId} {sa ad : Nat → Nat} {bs : Nat} {q : Int}

end S_X12_isScript
set_option maxHeartbeats 4000000 in
set_option maxRecDepth 100000 in
theorem C_X12_isScript (l : Launch) (D : va_G) (cA : Nat → ClassId) (sa ad : Nat → Nat) (bs : Nat) (v1 : Int) (c_v1 : Z_I v1) (σ : Nat → Nat → Int) (q : Int) (hf : f_X12_isScript v1 σ = some q) : AM l D cA sa ad bs 788 SHp yX12_isScript cX12_isScript 2 (some .boolean) 1 [.ref (ad 758), z_i v1] σ (some (z_i q)) (q = 0 ∨ q = 1) σ := by
  refine am_of (by decide +kernel) (Nat.le_of_ble_eq_true rfl) (fun p e s m args below meth c X hr => ?_)
  refine aw_lv (lv' := [(0, .ref (ad 758)), (1, z_i v1)]) rfl ?_
  unfold f_X12_isScript at hf
  refine aw_iload_n X 1 dX12_isScript_0 rfl rfl ?_
  refine aw_i2l X c_v1 dX12_isScript_1 ?_
  refine aw_lconst X (x := 0) dX12_isScript_2 (by decide) ?_
  refine aw_aload_n X 0 dX12_isScript_3 rfl rfl ?_
  refine aw_getI X s_758 fX12_252 rfl dX12_isScript_4 (fun c1 => ?_)
  refine aw_iconst X dX12_isScript_7 ?_
  refine aw_isub X dX12_isScript_8 ?_
  refine aw_i2l X (z_w_in _) dX12_isScript_9 ?_
  obtain ⟨q2, e3, hf⟩ := z_bd hf
  refine aw_callS X [z_v v1, z_v 0, z_v (z_w ((σ 758 30) - 1))] [] [z_i q2] cX12_156 (C_X12_isIn l D cA sa ad bs v1 (z_IL c_v1) 0 (z_litL (x := 0) (by decide)) (z_w ((σ 758 30) - 1)) (z_IL (z_w_in _)) σ q2 e3) rfl ⟨(Nat.le_of_ble_eq_true rfl), (Nat.le_of_ble_eq_true rfl), (Nat.le_of_ble_eq_true rfl), (Nat.le_of_ble_eq_true rfl)⟩ rfl (Nat.le_of_ble_eq_true rfl) rfl dX12_isScript_10 (fun p4 => ?_)
  obtain rfl := Option.some.inj hf
  exact aw_zret X p4 hr p4 rfl dX12_isScript_13
-- SpeedDeskModel.step(III)I
section S_X12_step
variable {p : Program} {l : Launch} {e : Env} {s : State} {m : MethodId} {args : Array Value} {below : List Frame} {meth : Method} {c : Code} {D : va_G} {cA : Nat → ClassId} {sa ad : Nat → Nat} {bs : Nat} {q : (Int × (Nat → Nat → Int))}

end S_X12_step
set_option maxHeartbeats 4000000 in
set_option maxRecDepth 100000 in
theorem C_X12_step (l : Launch) (D : va_G) (cA : Nat → ClassId) (sa ad : Nat → Nat) (bs : Nat) (v1 : Int) (c_v1 : Z_I v1) (v2 : Int) (c_v2 : Z_I v2) (v3 : Int) (c_v3 : Z_I v3) (σ : Nat → Nat → Int) (q : (Int × (Nat → Nat → Int))) (hf : f_X12_step v1 v2 v3 σ = some q) : AM l D cA sa ad bs 788 SHp yX12_step cX12_step 4 (some .int) 2 [.ref (ad 758), z_i v1, z_i v2, z_i v3] σ (some (z_i q.1)) (Z_I q.1) q.2 := by
  refine am_of (by decide +kernel) (Nat.le_of_ble_eq_true rfl) (fun p e s m args below meth c X hr => ?_)
  refine aw_lv (lv' := [(0, .ref (ad 758)), (1, z_i v1), (2, z_i v2), (3, z_i v3)]) rfl ?_
  unfold f_X12_step at hf
  refine aw_aload_n X 0 dX12_step_0 rfl rfl ?_
  refine aw_iconst X dX12_step_1 ?_
  refine aw_putI X s_758 pX12_101 rfl (z_lit (x := 0) (by decide)) dX12_step_2 ?_
  refine aw_aload_n X 0 dX12_step_5 rfl rfl ?_
  refine aw_iload_n X 1 dX12_step_6 rfl rfl ?_
  obtain ⟨q1, e2, hf⟩ := z_bd hf
  refine aw_callV X [z_i v1] [] [z_i q1] cX12_493 s_758 ciX12 (C_X12_isScript l D cA sa ad bs v1 c_v1 (u2 σ 758 0 0) q1 e2) rfl ⟨(Nat.le_of_ble_eq_true rfl), (Nat.le_of_ble_eq_true rfl), (Nat.le_of_ble_eq_true rfl), (Nat.le_of_ble_eq_true rfl)⟩ rfl (Nat.le_of_ble_eq_true rfl) rfl dX12_step_7 (fun p3 => ?_)
  refine aw_if_eq X (tgt := 43) (z_zI p3) dX12_step_10 (by decide) (fun h4 => ?_) (fun h4 => ?_)
  · rw [if_pos h4] at hf
    refine aw_ldcw X (x := (-1000000)) dX12_step_43 kX12_431 (by decide) ?_
    obtain rfl := Option.some.inj hf
    exact aw_iret X (z_lit (x := (-1000000)) (by decide)) hr rfl dX12_step_46
  · rw [if_neg h4] at hf
    refine aw_iload_n X 2 dX12_step_13 rfl rfl ?_
    refine aw_i2l X c_v2 dX12_step_14 ?_
    refine aw_lconst X (x := 0) dX12_step_15 (by decide) ?_
    refine aw_aload_n X 0 dX12_step_16 rfl rfl ?_
    refine aw_getR X s_758 fX12_57 rfl dX12_step_17 ?_
    refine aw_iload_n X 1 dX12_step_20 rfl rfl ?_
    obtain ⟨g5, hf⟩ := z_gd hf
    refine aw_iald X (j := v1.toNat) s_774 c_v1 g5.1 g5.2 rfl dX12_step_21 (fun c6 => ?_)
    refine aw_iconst X dX12_step_22 ?_
    refine aw_isub X dX12_step_23 ?_
    refine aw_i2l X (z_w_in _) dX12_step_24 ?_
    obtain ⟨q7, e8, hf⟩ := z_bd hf
    refine aw_callS X [z_v v2, z_v 0, z_v (z_w (((u2 σ 758 0 0) 774 v1.toNat) - 1))] [] [z_i q7] cX12_156 (C_X12_isIn l D cA sa ad bs v2 (z_IL c_v2) 0 (z_litL (x := 0) (by decide)) (z_w (((u2 σ 758 0 0) 774 v1.toNat) - 1)) (z_IL (z_w_in _)) (u2 σ 758 0 0) q7 e8) rfl ⟨(Nat.le_of_ble_eq_true rfl), (Nat.le_of_ble_eq_true rfl), (Nat.le_of_ble_eq_true rfl), (Nat.le_of_ble_eq_true rfl)⟩ rfl (Nat.le_of_ble_eq_true rfl) rfl dX12_step_25 (fun p9 => ?_)
    refine aw_if_eq X (tgt := 43) (z_zI p9) dX12_step_28 (by decide) (fun h10 => ?_) (fun h10 => ?_)
    · rw [if_pos h10] at hf
      refine aw_ldcw X (x := (-1000000)) dX12_step_43 kX12_431 (by decide) ?_
      obtain rfl := Option.some.inj hf
      exact aw_iret X (z_lit (x := (-1000000)) (by decide)) hr rfl dX12_step_46
    · rw [if_neg h10] at hf
      refine aw_iload_n X 3 dX12_step_31 rfl rfl ?_
      refine aw_i2l X c_v3 dX12_step_32 ?_
      refine aw_lconst X (x := 0) dX12_step_33 (by decide) ?_
      refine aw_ldc2 X (x := 3) dX12_step_34 kX12_429 (by decide) ?_
      obtain ⟨q11, e12, hf⟩ := z_bd hf
      refine aw_callS X [z_v v3, z_v 0, z_v 3] [] [z_i q11] cX12_156 (C_X12_isIn l D cA sa ad bs v3 (z_IL c_v3) 0 (z_litL (x := 0) (by decide)) 3 (z_litL (x := 3) (by decide)) (u2 σ 758 0 0) q11 e12) rfl ⟨(Nat.le_of_ble_eq_true rfl), (Nat.le_of_ble_eq_true rfl), (Nat.le_of_ble_eq_true rfl), (Nat.le_of_ble_eq_true rfl)⟩ rfl (Nat.le_of_ble_eq_true rfl) rfl dX12_step_37 (fun p13 => ?_)
      refine aw_if_ne X (tgt := 47) (z_zI p13) dX12_step_40 (by decide) (fun h14 => ?_) (fun h14 => ?_)
      · rw [if_neg h14] at hf
        refine aw_aload_n X 0 dX12_step_47 rfl rfl ?_
        refine aw_getR X s_758 fX12_54 rfl dX12_step_48 ?_
        refine aw_iconst X dX12_step_51 ?_
        refine aw_bipush X dX12_step_52 (by decide) ?_
        refine aw_iload_n X 1 dX12_step_54 rfl rfl ?_
        refine aw_imul X dX12_step_55 ?_
        refine aw_iload_n X 2 dX12_step_56 rfl rfl ?_
        refine aw_iadd X dX12_step_57 ?_
        refine aw_imul X dX12_step_58 ?_
        refine aw_iload_n X 3 dX12_step_59 rfl rfl ?_
        refine aw_iadd X dX12_step_60 ?_
        obtain ⟨g15, hf⟩ := z_gd hf
        refine aw_iald X (j := (z_w ((z_w (4 * (z_w ((z_w (12 * v1)) + v2)))) + v3)).toNat) s_773 (z_w_in _) g15.1 g15.2 rfl dX12_step_61 (fun c16 => ?_)
        obtain rfl := Option.some.inj hf
        exact aw_iret X c16 hr rfl dX12_step_62
      · rw [if_pos h14] at hf
        refine aw_ldcw X (x := (-1000000)) dX12_step_43 kX12_431 (by decide) ?_
        obtain rfl := Option.some.inj hf
        exact aw_iret X (z_lit (x := (-1000000)) (by decide)) hr rfl dX12_step_46
