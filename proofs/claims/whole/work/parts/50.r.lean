-- SpeedDeskModel.wantOf([II)I
section S_X12_wantOf
variable {p : Program} {l : Launch} {e : Env} {s : State} {m : MethodId} {args : Array Value} {below : List Frame} {meth : Method} {c : Code} {D : va_G} {cA : Nat → ClassId} {sa ad : Nat → Nat} {bs : Nat} {q : Int}
set_option maxHeartbeats 4000000 in
set_option maxRecDepth 100000 in
theorem A_X12_wantOf_30 (X : AX p s m args meth c D cA sa bs cX12_wantOf 4 RX12) (hr : meth.sig.returnType = (some .int)) (σ : Nat → Nat → Int) (v2 : Int) (c_v2 : Z_I v2) (hf : f_X12_wantOf_30 v2 σ = some q) : AW p l e (ax_rm 2 0 0) s m args below meth c D cA ad bs 788 SHp 0 0 (ax_MQ below args s D cA ad bs 788 SHp 0 0 (some (z_i q)) (Z_I q) σ) 4 30 [(0, .ref (ad 758)), (2, z_i v2)] [] σ := by
  unfold f_X12_wantOf_30 at hf
  refine aw_aload_n X 0 dX12_wantOf_30 rfl rfl ?_
  refine aw_iload_n X 1 dX12_wantOf_31 rfl rfl ?_
  obtain ⟨q14, e15, hf⟩ := z_bd hf
  refine aw_callV X [z_i v2] [] [z_i q14] cX12_246 s_758 ciX12 (C_X12_lastPoint l D cA sa ad bs v2 c_v2 σ q14 e15) rfl ⟨(Nat.le_of_ble_eq_true rfl), (Nat.le_of_ble_eq_true rfl), (Nat.le_of_ble_eq_true rfl), (Nat.le_of_ble_eq_true rfl)⟩ rfl (Nat.le_of_ble_eq_true rfl) rfl dX12_wantOf_32 (fun p16 => ?_)
  refine aw_goto X (tgt := 39) dX12_wantOf_35 (by decide) ?_
  obtain rfl := Option.some.inj hf
  exact aw_iret X p16 hr rfl dX12_wantOf_39
end S_X12_wantOf
set_option maxHeartbeats 4000000 in
set_option maxRecDepth 100000 in
theorem C_X12_wantOf (l : Launch) (D : va_G) (cA : Nat → ClassId) (sa ad : Nat → Nat) (bs : Nat) (a1 : Nat) (h_a1 : a1 < 788 ∧ SHp a1 = .inr (0, 256, [])) (v2 : Int) (c_v2 : Z_I v2) (σ : Nat → Nat → Int) (q : Int) (hf : f_X12_wantOf a1 v2 σ = some q) : AM l D cA sa ad bs 788 SHp yX12_wantOf cX12_wantOf 4 (some .int) 2 [.ref (ad 758), .ref (ad a1), z_i v2] σ (some (z_i q)) (Z_I q) σ := by
  refine am_of (by decide +kernel) (Nat.le_of_ble_eq_true rfl) (fun p e s m args below meth c X hr => ?_)
  refine aw_lv (lv' := [(0, .ref (ad 758)), (1, .ref (ad a1)), (2, z_i v2)]) rfl ?_
  unfold f_X12_wantOf at hf
  refine aw_aload_n X 0 dX12_wantOf_0 rfl rfl ?_
  refine aw_iload_n X 2 dX12_wantOf_1 rfl rfl ?_
  refine aw_aload_n X 0 dX12_wantOf_2 rfl rfl ?_
  refine aw_aload_n X 1 dX12_wantOf_3 rfl rfl ?_
  refine aw_iload_n X 2 dX12_wantOf_4 rfl rfl ?_
  obtain ⟨q1, e2, hf⟩ := z_bd hf
  refine aw_callV X [.ref (ad a1), z_i v2] [z_i v2, .ref (ad 758)] [z_i q1, z_i v2, .ref (ad 758)] cX12_293 s_758 ciX12 (C_X12_needOf l D cA sa ad bs a1 h_a1 v2 c_v2 σ q1 e2) rfl ⟨(Nat.le_of_ble_eq_true rfl), (Nat.le_of_ble_eq_true rfl), (Nat.le_of_ble_eq_true rfl), (Nat.le_of_ble_eq_true rfl)⟩ rfl (Nat.le_of_ble_eq_true rfl) rfl dX12_wantOf_5 (fun p3 => ?_)
  obtain ⟨q4, e5, hf⟩ := z_bd hf
  refine aw_callV X [z_i v2, z_i q1] [] [z_i q4] cX12_296 s_758 ciX12 (C_X12_pointFor l D cA sa ad bs v2 c_v2 q1 p3 σ q4 e5) rfl ⟨(Nat.le_of_ble_eq_true rfl), (Nat.le_of_ble_eq_true rfl), (Nat.le_of_ble_eq_true rfl), (Nat.le_of_ble_eq_true rfl)⟩ rfl (Nat.le_of_ble_eq_true rfl) rfl dX12_wantOf_8 (fun p6 => ?_)
  refine aw_istore_n X [(3, z_i q4), (0, .ref (ad 758)), (1, .ref (ad a1)), (2, z_i v2)] dX12_wantOf_11 rfl (by decide) rfl ?_
  refine aw_aload_n X 2 dX12_wantOf_12 rfl rfl ?_
  refine aw_bipush X dX12_wantOf_13 (by decide) ?_
  refine aw_iload_n X 3 dX12_wantOf_15 rfl rfl ?_
  refine aw_iadd X dX12_wantOf_16 ?_
  obtain ⟨g7, hf⟩ := z_gd hf
  refine aw_iald X (j := (z_w (6 + v2)).toNat) h_a1 (z_w_in _) g7.1 g7.2 rfl dX12_wantOf_17 (fun c8 => ?_)
  refine aw_if_gt X (tgt := 30) c8 dX12_wantOf_18 (by decide) (fun h9 => ?_) (fun h9 => ?_)
  · rw [if_pos h9] at hf
    refine aw_sub [1, 3] rfl ?_
    exact A_X12_wantOf_30 X hr σ v2 c_v2 hf
  · rw [if_neg h9] at hf
    refine aw_iload_n X 0 dX12_wantOf_21 rfl rfl ?_
    refine aw_aload_n X 1 dX12_wantOf_22 rfl rfl ?_
    refine aw_iload_n X 3 dX12_wantOf_23 rfl rfl ?_
    obtain ⟨q10, e11, hf⟩ := z_bd hf
    refine aw_callV X [z_i v2] [z_i q4] [z_i q10, z_i q4] cX12_246 s_758 ciX12 (C_X12_lastPoint l D cA sa ad bs v2 c_v2 σ q10 e11) rfl ⟨(Nat.le_of_ble_eq_true rfl), (Nat.le_of_ble_eq_true rfl), (Nat.le_of_ble_eq_true rfl), (Nat.le_of_ble_eq_true rfl)⟩ rfl (Nat.le_of_ble_eq_true rfl) rfl dX12_wantOf_24 (fun p12 => ?_)
    refine aw_icmp_le X (tgt := 38) p6 p12 dX12_wantOf_27 (by decide) (fun h13 => ?_) (fun h13 => ?_)
    · rw [if_pos h13] at hf
      refine aw_iload_n X 0 dX12_wantOf_38 rfl rfl ?_
      obtain rfl := Option.some.inj hf
      exact aw_iret X p6 hr rfl dX12_wantOf_39
    · rw [if_neg h13] at hf
      refine aw_sub [1, 3] rfl ?_
      exact A_X12_wantOf_30 X hr σ v2 c_v2 hf
-- SpeedDeskModel.hasRest([II)Z
section S_X12_hasRest
variable {p : Program} {l : Launch} {e : Env} {s : State} {m : MethodId} {args : Array Value} {below : List Frame} {meth : Method} {c : Code} {D : va_G} {cA : Nat → ClassId} {sa ad : Nat → Nat} {bs : Nat} {q : Int}
set_option maxHeartbeats 4000000 in
set_option maxRecDepth 100000 in
theorem A_X12_hasRest_2 (X : AX p s m args meth c D cA sa bs cX12_hasRest 4 RX12) (hr : meth.sig.returnType = (some .boolean)) (σ : Nat → Nat → Int) : ∀ (k : Nat) (a1 : Nat) (h_a1 : a1 < 788 ∧ SHp a1 = .inr (0, 256, [])) (v2 : Int) (c_v2 : Z_I v2) (v3 : Int) (c_v3 : Z_I v3), f_X12_hasRest_2 k a1 v2 v3 σ = some q → AW p l e (ax_rm 0 0 0) s m args below meth c D cA ad bs 788 SHp 0 0 (ax_MQ below args s D cA ad bs 788 SHp 0 0 (some (z_i q)) (q = 0 ∨ q = 1) σ) 4 2 [(0, .ref (ad 758)), (1, .ref (ad a1)), (2, z_i v2), (3, z_i v3)] [] σ := by
  intro k
  induction k with
  | zero =>
    intro a1 h_a1 v2 c_v2 v3 c_v3 hf
    unfold f_X12_hasRest_2 at hf
    cases hf
  | succ k ih =>
    intro a1 h_a1 v2 c_v2 v3 c_v3 hf
    unfold f_X12_hasRest_2 at hf
    refine aw_iload_n X 3 dX12_hasRest_2 rfl rfl ?_
    refine aw_aload_n X 0 dX12_hasRest_3 rfl rfl ?_
    refine aw_getI X s_758 fX12_237 rfl dX12_hasRest_4 (fun c1 => ?_)
    refine aw_icmp_ge X (tgt := 37) c_v3 c1 dX12_hasRest_7 (by decide) (fun h2 => ?_) (fun h2 => ?_)
    · rw [if_pos h2] at hf
      refine aw_iconst X dX12_hasRest_37 ?_
      obtain rfl := Option.some.inj hf
      exact aw_zret X (Or.inl rfl) hr (Or.inl rfl) rfl dX12_hasRest_38
    · rw [if_neg h2] at hf
      refine aw_aload_n X 1 dX12_hasRest_10 rfl rfl ?_
      refine aw_bipush X dX12_hasRest_11 (by decide) ?_
      refine aw_iload_n X 3 dX12_hasRest_13 rfl rfl ?_
      refine aw_iadd X dX12_hasRest_14 ?_
      obtain ⟨g3, hf⟩ := z_gd hf
      refine aw_iald X (j := (z_w (21 + v3)).toNat) h_a1 (z_w_in _) g3.1 g3.2 rfl dX12_hasRest_15 (fun c4 => ?_)
      refine aw_iload_n X 2 dX12_hasRest_16 rfl rfl ?_
      refine aw_icmp_ne X (tgt := 31) c4 c_v2 dX12_hasRest_17 (by decide) (fun h5 => ?_) (fun h5 => ?_)
      · rw [if_neg h5] at hf
        refine aw_iinc X 3 [(3, z_i (z_w (v3 + 1))), (0, .ref (ad 758)), (1, .ref (ad a1)), (2, z_i v2)] dX12_hasRest_31 rfl (by decide) rfl ?_
        refine aw_goto X (tgt := 2) dX12_hasRest_34 (by decide) ?_
        refine aw_sub [1, 2, 3, 0] rfl ?_
        exact ih a1 h_a1 v2 c_v2 (z_w (v3 + 1)) (z_w_in _) hf
      · rw [if_pos h5] at hf
        refine aw_aload_n X 1 dX12_hasRest_20 rfl rfl ?_
        refine aw_bipush X dX12_hasRest_21 (by decide) ?_
        refine aw_iload_n X 3 dX12_hasRest_23 rfl rfl ?_
        refine aw_iadd X dX12_hasRest_24 ?_
        obtain ⟨g6, hf⟩ := z_gd hf
        refine aw_iald X (j := (z_w (25 + v3)).toNat) h_a1 (z_w_in _) g6.1 g6.2 rfl dX12_hasRest_25 (fun c7 => ?_)
        refine aw_if_le X (tgt := 31) c7 dX12_hasRest_26 (by decide) (fun h8 => ?_) (fun h8 => ?_)
        · rw [if_pos h8] at hf
          refine aw_iinc X 3 [(3, z_i (z_w (v3 + 1))), (0, .ref (ad 758)), (1, .ref (ad a1)), (2, z_i v2)] dX12_hasRest_31 rfl (by decide) rfl ?_
          refine aw_goto X (tgt := 2) dX12_hasRest_34 (by decide) ?_
          refine aw_sub [1, 2, 3, 0] rfl ?_
          exact ih a1 h_a1 v2 c_v2 (z_w (v3 + 1)) (z_w_in _) hf
        · rw [if_neg h8] at hf
          refine aw_iconst X dX12_hasRest_29 ?_
          obtain rfl := Option.some.inj hf
          exact aw_zret X (Or.inr rfl) hr (Or.inr rfl) rfl dX12_hasRest_30
end S_X12_hasRest
set_option maxHeartbeats 4000000 in
set_option maxRecDepth 100000 in
theorem C_X12_hasRest (l : Launch) (D : va_G) (cA : Nat → ClassId) (sa ad : Nat → Nat) (bs : Nat) (a1 : Nat) (h_a1 : a1 < 788 ∧ SHp a1 = .inr (0, 256, [])) (v2 : Int) (c_v2 : Z_I v2) (σ : Nat → Nat → Int) (q : Int) (hf : f_X12_hasRest a1 v2 σ = some q) : AM l D cA sa ad bs 788 SHp yX12_hasRest cX12_hasRest 4 (some .boolean) 0 [.ref (ad 758), .ref (ad a1), z_i v2] σ (some (z_i q)) (q = 0 ∨ q = 1) σ := by
  refine am_of (by decide +kernel) (Nat.le_of_ble_eq_true rfl) (fun p e s m args below meth c X hr => ?_)
  refine aw_lv (lv' := [(0, .ref (ad 758)), (1, .ref (ad a1)), (2, z_i v2)]) rfl ?_
  unfold f_X12_hasRest at hf
  refine aw_iconst X dX12_hasRest_0 ?_
  refine aw_istore_n X [(3, z_i 0), (0, .ref (ad 758)), (1, .ref (ad a1)), (2, z_i v2)] dX12_hasRest_1 rfl (by decide) rfl ?_
  refine aw_sub [1, 2, 3, 0] rfl ?_
  exact A_X12_hasRest_2 X hr σ 100000 a1 h_a1 v2 c_v2 0 (z_lit (x := 0) (by decide)) hf
-- SpeedDeskModel.begins([I)I
section S_X12_begins
variable {p : Program} {l : Launch} {e : Env} {s : State} {m : MethodId} {args : Array Value} {below : List Frame} {meth : Method} {c : Code} {D : va_G} {cA : Nat → ClassId} {sa ad : Nat → Nat} {bs : Nat} {q : (Int × (Nat → Nat → Int))}
set_option maxHeartbeats 4000000 in
set_option maxRecDepth 100000 in
theorem A_X12_begins_84 (X : AX p s m args meth c D cA sa bs cX12_begins 4 RX12) (hr : meth.sig.returnType = (some .int)) : ∀ (k : Nat) (a1 : Nat) (h_a1 : a1 < 788 ∧ SHp a1 = .inr (0, 256, [])) (v2 : Int) (c_v2 : Z_I v2) (v3 : Int) (c_v3 : Z_I v3) (σ : Nat → Nat → Int), f_X12_begins_84 k a1 v2 v3 σ = some q → AW p l e (ax_rm 2 0 0) s m args below meth c D cA ad bs 788 SHp 0 0 (ax_MQ below args s D cA ad bs 788 SHp 0 0 (some (z_i q.1)) (Z_I q.1) q.2) 4 84 [(0, .ref (ad 758)), (1, .ref (ad a1)), (2, z_i v2), (3, z_i v3)] [] σ := by
  intro k
  induction k with
  | zero =>
    intro a1 h_a1 v2 c_v2 v3 c_v3 σ hf
    unfold f_X12_begins_84 at hf
    cases hf
  | succ k ih =>
    intro a1 h_a1 v2 c_v2 v3 c_v3 σ hf
    unfold f_X12_begins_84 at hf
    refine aw_iload_n X 3 dX12_begins_84 rfl rfl ?_
    refine aw_aload_n X 0 dX12_begins_85 rfl rfl ?_
    refine aw_getI X s_758 fX12_240 rfl dX12_begins_86 (fun c17 => ?_)
    refine aw_icmp_ge X (tgt := 159) c_v3 c17 dX12_begins_89 (by decide) (fun h18 => ?_) (fun h18 => ?_)
    · rw [if_pos h18] at hf
      refine aw_iload_n X 2 dX12_begins_159 rfl rfl ?_
      obtain rfl := Option.some.inj hf
      exact aw_iret X c_v2 hr rfl dX12_begins_160
    · rw [if_neg h18] at hf
      refine aw_aload_n X 1 dX12_begins_92 rfl rfl ?_
      refine aw_bipush X dX12_begins_93 (by decide) ?_
      refine aw_iload_n X 3 dX12_begins_95 rfl rfl ?_
      refine aw_iadd X dX12_begins_96 ?_
      obtain ⟨g19, hf⟩ := z_gd hf
      refine aw_iald X (j := (z_w (9 + v3)).toNat) h_a1 (z_w_in _) g19.1 g19.2 rfl dX12_begins_97 (fun c20 => ?_)
      refine aw_if_eq X (tgt := 153) c20 dX12_begins_98 (by decide) (fun h21 => ?_) (fun h21 => ?_)
      · rw [if_pos h21] at hf
        refine aw_iinc X 3 [(3, z_i (z_w (v3 + 1))), (0, .ref (ad 758)), (1, .ref (ad a1)), (2, z_i v2)] dX12_begins_153 rfl (by decide) rfl ?_
        refine aw_goto X (tgt := 84) dX12_begins_156 (by decide) ?_
        refine aw_sub [1, 2, 3, 0] rfl ?_
        exact ih a1 h_a1 v2 c_v2 (z_w (v3 + 1)) (z_w_in _) σ hf
      · rw [if_neg h21] at hf
        refine aw_aload_n X 0 dX12_begins_101 rfl rfl ?_
        refine aw_aload_n X 1 dX12_begins_102 rfl rfl ?_
        refine aw_iload_n X 3 dX12_begins_103 rfl rfl ?_
        obtain ⟨q22, e23, hf⟩ := z_bd hf
        refine aw_callV X [.ref (ad a1), z_i v3] [] [z_i q22] cX12_299 s_758 ciX12 (C_X12_hasRest l D cA sa ad bs a1 h_a1 v3 c_v3 σ q22 e23) rfl ⟨(Nat.le_of_ble_eq_true rfl), (Nat.le_of_ble_eq_true rfl), (Nat.le_of_ble_eq_true rfl), (Nat.le_of_ble_eq_true rfl)⟩ rfl (Nat.le_of_ble_eq_true rfl) rfl dX12_begins_104 (fun p24 => ?_)
        refine aw_if_ne X (tgt := 113) (z_zI p24) dX12_begins_107 (by decide) (fun h25 => ?_) (fun h25 => ?_)
        · rw [if_neg h25] at hf
          refine aw_aload_n X 1 dX12_begins_113 rfl rfl ?_
          refine aw_bipush X dX12_begins_114 (by decide) ?_
          refine aw_iload_n X 3 dX12_begins_116 rfl rfl ?_
          refine aw_iadd X dX12_begins_117 ?_
          refine aw_iconst X dX12_begins_118 ?_
          obtain ⟨g26, hf⟩ := z_gd hf
          refine aw_iast X (j := (z_w (9 + v3)).toNat) h_a1 (z_w_in _) g26.1 g26.2 rfl (z_lit (x := 0) (by decide)) dX12_begins_119 ?_
          refine aw_iload_n X 2 dX12_begins_120 rfl rfl ?_
          refine aw_aload_n X 0 dX12_begins_121 rfl rfl ?_
          refine aw_getR X s_758 fX12_23 rfl dX12_begins_122 ?_
          refine aw_iconst X dX12_begins_125 ?_
          refine aw_aload_n X 0 dX12_begins_126 rfl rfl ?_
          refine aw_iload_n X 3 dX12_begins_127 rfl rfl ?_
          obtain ⟨q27, e28, hf⟩ := z_bd hf
          refine aw_callV X [z_i v3] [z_i 4, .ref (ad 763), z_i v2] [z_i q27, z_i 4, .ref (ad 763), z_i v2] cX12_303 s_758 ciX12 (C_X12_clusterOf l D cA sa ad bs v3 c_v3 (u2 σ a1 (z_w (9 + v3)).toNat 0) q27 e28) rfl ⟨(Nat.le_of_ble_eq_true rfl), (Nat.le_of_ble_eq_true rfl), (Nat.le_of_ble_eq_true rfl), (Nat.le_of_ble_eq_true rfl)⟩ rfl (Nat.le_of_ble_eq_true rfl) rfl dX12_begins_128 (fun p29 => ?_)
          refine aw_imul X dX12_begins_131 ?_
          refine aw_iconst X dX12_begins_132 ?_
          refine aw_iadd X dX12_begins_133 ?_
          obtain ⟨g30, hf⟩ := z_gd hf
          refine aw_iald X (j := (z_w ((z_w (4 * q27)) + 2)).toNat) s_763 (z_w_in _) g30.1 g30.2 rfl dX12_begins_134 (fun c31 => ?_)
          refine aw_iadd X dX12_begins_135 ?_
          refine aw_istore_n X [(2, z_i (z_w (v2 + ((u2 σ a1 (z_w (9 + v3)).toNat 0) 763 (z_w ((z_w (4 * q27)) + 2)).toNat)))), (0, .ref (ad 758)), (1, .ref (ad a1)), (3, z_i v3)] dX12_begins_136 rfl (by decide) rfl ?_
          refine aw_aload_n X 2 dX12_begins_137 rfl rfl ?_
          refine aw_bipush X dX12_begins_138 (by decide) ?_
          refine aw_aload_n X 1 dX12_begins_140 rfl rfl ?_
          refine aw_iload_n X 3 dX12_begins_141 rfl rfl ?_
          obtain ⟨q32, e33, hf⟩ := z_bd hf
          refine aw_callV X [z_i v3] [z_i 6, .ref (ad a1)] [z_i q32, z_i 6, .ref (ad a1)] cX12_303 s_758 ciX12 (C_X12_clusterOf l D cA sa ad bs v3 c_v3 (u2 σ a1 (z_w (9 + v3)).toNat 0) q32 e33) rfl ⟨(Nat.le_of_ble_eq_true rfl), (Nat.le_of_ble_eq_true rfl), (Nat.le_of_ble_eq_true rfl), (Nat.le_of_ble_eq_true rfl)⟩ rfl (Nat.le_of_ble_eq_true rfl) rfl dX12_begins_142 (fun p34 => ?_)
          refine aw_iadd X dX12_begins_145 ?_
          refine aw_aload_n X 1 dX12_begins_146 rfl rfl ?_
          refine aw_getR X s_758 fX12_17 rfl dX12_begins_147 ?_
          refine aw_iconst X dX12_begins_150 ?_
          refine aw_iald X (j := 3) s_761 (z_lit (x := 3) (by decide)) (by decide) (by decide) rfl dX12_begins_151 (fun c35 => ?_)
          obtain ⟨g36, hf⟩ := z_gd hf
          refine aw_iast X (j := (z_w (6 + q32)).toNat) h_a1 (z_w_in _) g36.1 g36.2 rfl c35 dX12_begins_152 ?_
          refine aw_iinc X 3 [(3, z_i (z_w (v3 + 1))), (2, z_i (z_w (v2 + ((u2 σ a1 (z_w (9 + v3)).toNat 0) 763 (z_w ((z_w (4 * q27)) + 2)).toNat)))), (0, .ref (ad 758)), (1, .ref (ad a1))] dX12_begins_153 rfl (by decide) rfl ?_
          refine aw_goto X (tgt := 84) dX12_begins_156 (by decide) ?_
          refine aw_sub [2, 3, 1, 0] rfl ?_
          exact ih a1 h_a1 (z_w (v2 + ((u2 σ a1 (z_w (9 + v3)).toNat 0) 763 (z_w ((z_w (4 * q27)) + 2)).toNat))) (z_w_in _) (z_w (v3 + 1)) (z_w_in _) (u2 (u2 σ a1 (z_w (9 + v3)).toNat 0) a1 (z_w (6 + q32)).toNat ((u2 σ a1 (z_w (9 + v3)).toNat 0) 761 3)) hf
        · rw [if_pos h25] at hf
          refine aw_goto X (tgt := 153) dX12_begins_110 (by decide) ?_
          refine aw_iinc X 3 [(3, z_i (z_w (v3 + 1))), (0, .ref (ad 758)), (1, .ref (ad a1)), (2, z_i v2)] dX12_begins_153 rfl (by decide) rfl ?_
          refine aw_goto X (tgt := 84) dX12_begins_156 (by decide) ?_
          refine aw_sub [1, 2, 3, 0] rfl ?_
          exact ih a1 h_a1 v2 c_v2 (z_w (v3 + 1)) (z_w_in _) σ hf
set_option maxHeartbeats 4000000 in
set_option maxRecDepth 100000 in
theorem A_X12_begins_60 (X : AX p s m args meth c D cA sa bs cX12_begins 4 RX12) (hr : meth.sig.returnType = (some .int)) (K2 : Nat → Int → (Nat → Nat → Int) → Option (Int × (Nat → Nat → Int))) (hK2 : ∀ (a1 : Nat) (h_a1 : a1 < 788 ∧ SHp a1 = .inr (0, 256, [])) (v2 : Int) (c_v2 : Z_I v2) (σ : Nat → Nat → Int), K2 a1 v2 σ = some q → AW p l e (ax_rm 2 0 0) s m args below meth c D cA ad bs 788 SHp 0 0 (ax_MQ below args s D cA ad bs 788 SHp 0 0 (some (z_i q.1)) (Z_I q.1) q.2) 4 2 [(0, .ref (ad 758)), (1, .ref (ad a1)), (2, z_i v2)] [] σ) (a1 : Nat) (h_a1 : a1 < 788 ∧ SHp a1 = .inr (0, 256, [])) (v2 : Int) (c_v2 : Z_I v2) (σ : Nat → Nat → Int) (hf : f_X12_begins_60 K2 a1 v2 σ = some q) : AW p l e (ax_rm 2 0 0) s m args below meth c D cA ad bs 788 SHp 0 0 (ax_MQ below args s D cA ad bs 788 SHp 0 0 (some (z_i q.1)) (Z_I q.1) q.2) 4 60 [(0, .ref (ad 758)), (1, .ref (ad a1)), (2, z_i v2)] [] σ := by
  unfold f_X12_begins_60 at hf
  refine aw_aload_n X 1 dX12_begins_60 rfl rfl ?_
  refine aw_bipush X dX12_begins_61 (by decide) ?_
  refine aw_iload_n X 2 dX12_begins_63 rfl rfl ?_
  refine aw_iadd X dX12_begins_64 ?_
  refine aw_aload_n X 0 dX12_begins_65 rfl rfl ?_
  refine aw_getR X s_758 fX12_35 rfl dX12_begins_66 ?_
  refine aw_iconst X dX12_begins_69 ?_
  refine aw_iload_n X 2 dX12_begins_70 rfl rfl ?_
  refine aw_imul X dX12_begins_71 ?_
  obtain ⟨g37, hf⟩ := z_gd hf
  refine aw_iald X (j := (z_w (2 * v2)).toNat) s_767 (z_w_in _) g37.1 g37.2 rfl dX12_begins_72 (fun c38 => ?_)
  obtain ⟨g39, hf⟩ := z_gd hf
  refine aw_iast X (j := (z_w (25 + v2)).toNat) h_a1 (z_w_in _) g39.1 g39.2 rfl c38 dX12_begins_73 ?_
  refine aw_iinc X 2 [(2, z_i (z_w (v2 + 1))), (0, .ref (ad 758)), (1, .ref (ad a1))] dX12_begins_74 rfl (by decide) rfl ?_
  refine aw_goto X (tgt := 2) dX12_begins_77 (by decide) ?_
  refine aw_sub [1, 2, 0] rfl ?_
  exact hK2 a1 h_a1 (z_w (v2 + 1)) (z_w_in _) (u2 σ a1 (z_w (25 + v2)).toNat (σ 767 (z_w (2 * v2)).toNat)) hf
set_option maxHeartbeats 4000000 in
set_option maxRecDepth 100000 in
theorem A_X12_begins_2 (X : AX p s m args meth c D cA sa bs cX12_begins 4 RX12) (hr : meth.sig.returnType = (some .int)) : ∀ (k : Nat) (a1 : Nat) (h_a1 : a1 < 788 ∧ SHp a1 = .inr (0, 256, [])) (v2 : Int) (c_v2 : Z_I v2) (σ : Nat → Nat → Int), f_X12_begins_2 k a1 v2 σ = some q → AW p l e (ax_rm 2 0 0) s m args below meth c D cA ad bs 788 SHp 0 0 (ax_MQ below args s D cA ad bs 788 SHp 0 0 (some (z_i q.1)) (Z_I q.1) q.2) 4 2 [(0, .ref (ad 758)), (1, .ref (ad a1)), (2, z_i v2)] [] σ := by
  intro k
  induction k with
  | zero =>
    intro a1 h_a1 v2 c_v2 σ hf
    unfold f_X12_begins_2 at hf
    cases hf
  | succ k ih =>
    intro a1 h_a1 v2 c_v2 σ hf
    unfold f_X12_begins_2 at hf
    refine aw_iload_n X 2 dX12_begins_2 rfl rfl ?_
    refine aw_aload_n X 0 dX12_begins_3 rfl rfl ?_
    refine aw_getI X s_758 fX12_237 rfl dX12_begins_4 (fun c1 => ?_)
    refine aw_icmp_ge X (tgt := 80) c_v2 c1 dX12_begins_7 (by decide) (fun h2 => ?_) (fun h2 => ?_)
    · rw [if_pos h2] at hf
      refine aw_iconst X dX12_begins_80 ?_
      refine aw_istore_n X [(2, z_i 0), (0, .ref (ad 758)), (1, .ref (ad a1))] dX12_begins_81 rfl (by decide) rfl ?_
      refine aw_iconst X dX12_begins_82 ?_
      refine aw_istore_n X [(3, z_i 0), (2, z_i 0), (0, .ref (ad 758)), (1, .ref (ad a1))] dX12_begins_83 rfl (by decide) rfl ?_
      refine aw_sub [2, 3, 1, 0] rfl ?_
      exact A_X12_begins_84 X hr 100000 a1 h_a1 0 (z_lit (x := 0) (by decide)) 0 (z_lit (x := 0) (by decide)) σ hf
    · rw [if_neg h2] at hf
      refine aw_aload_n X 1 dX12_begins_10 rfl rfl ?_
      refine aw_bipush X dX12_begins_11 (by decide) ?_
      refine aw_iload_n X 2 dX12_begins_13 rfl rfl ?_
      refine aw_iadd X dX12_begins_14 ?_
      obtain ⟨g3, hf⟩ := z_gd hf
      refine aw_iald X (j := (z_w (37 + v2)).toNat) h_a1 (z_w_in _) g3.1 g3.2 rfl dX12_begins_15 (fun c4 => ?_)
      refine aw_iconst X dX12_begins_16 ?_
      refine aw_icmp_eq X (tgt := 74) c4 (z_lit (x := 1) (by decide)) dX12_begins_17 (by decide) (fun h5 => ?_) (fun h5 => ?_)
      · rw [if_pos h5] at hf
        refine aw_iinc X 2 [(2, z_i (z_w (v2 + 1))), (0, .ref (ad 758)), (1, .ref (ad a1))] dX12_begins_74 rfl (by decide) rfl ?_
        refine aw_goto X (tgt := 2) dX12_begins_77 (by decide) ?_
        refine aw_sub [1, 2, 0] rfl ?_
        exact ih a1 h_a1 (z_w (v2 + 1)) (z_w_in _) σ hf
      · rw [if_neg h5] at hf
        refine aw_aload_n X 1 dX12_begins_20 rfl rfl ?_
        refine aw_bipush X dX12_begins_21 (by decide) ?_
        refine aw_iald X (j := 41) h_a1 (z_lit (x := 41) (by decide)) (by decide) (by decide) rfl dX12_begins_23 (fun c6 => ?_)
        refine aw_aload_n X 0 dX12_begins_24 rfl rfl ?_
        refine aw_getR X s_758 fX12_35 rfl dX12_begins_25 ?_
        refine aw_iconst X dX12_begins_28 ?_
        refine aw_iload_n X 2 dX12_begins_29 rfl rfl ?_
        refine aw_imul X dX12_begins_30 ?_
        refine aw_iconst X dX12_begins_31 ?_
        refine aw_iadd X dX12_begins_32 ?_
        obtain ⟨g7, hf⟩ := z_gd hf
        refine aw_iald X (j := (z_w ((z_w (2 * v2)) + 1)).toNat) s_767 (z_w_in _) g7.1 g7.2 rfl dX12_begins_33 (fun c8 => ?_)
        obtain ⟨g9, hf⟩ := z_gd hf
        refine aw_irem X c6 c8 g9 dX12_begins_34 ?_
        refine aw_if_eq X (tgt := 41) (z_w_in _) dX12_begins_35 (by decide) (fun h10 => ?_) (fun h10 => ?_)
        · rw [if_pos h10] at hf
          refine aw_aload_n X 1 dX12_begins_41 rfl rfl ?_
          refine aw_bipush X dX12_begins_42 (by decide) ?_
          refine aw_iload_n X 2 dX12_begins_44 rfl rfl ?_
          refine aw_iadd X dX12_begins_45 ?_
          obtain ⟨g11, hf⟩ := z_gd hf
          refine aw_iald X (j := (z_w (25 + v2)).toNat) h_a1 (z_w_in _) g11.1 g11.2 rfl dX12_begins_46 (fun c12 => ?_)
          refine aw_if_le X (tgt := 60) c12 dX12_begins_47 (by decide) (fun h13 => ?_) (fun h13 => ?_)
          · rw [if_pos h13] at hf
            exact A_X12_begins_60 X hr (f_X12_begins_2 k) ih a1 h_a1 v2 c_v2 σ hf
          · rw [if_neg h13] at hf
            refine aw_aload_n X 1 dX12_begins_50 rfl rfl ?_
            refine aw_bipush X dX12_begins_51 (by decide) ?_
            refine aw_iload_n X 2 dX12_begins_53 rfl rfl ?_
            refine aw_iadd X dX12_begins_54 ?_
            refine aw_dup2 X dX12_begins_55 rfl rfl ?_
            obtain ⟨g14, hf⟩ := z_gd hf
            refine aw_iald X (j := (z_w (33 + v2)).toNat) h_a1 (z_w_in _) g14.1 g14.2 rfl dX12_begins_56 (fun c15 => ?_)
            refine aw_iconst X dX12_begins_57 ?_
            refine aw_iadd X dX12_begins_58 ?_
            obtain ⟨g16, hf⟩ := z_gd hf
            refine aw_iast X (j := (z_w (33 + v2)).toNat) h_a1 (z_w_in _) g16.1 g16.2 rfl (z_w_in _) dX12_begins_59 ?_
            exact A_X12_begins_60 X hr (f_X12_begins_2 k) ih a1 h_a1 v2 c_v2 (u2 σ a1 (z_w (33 + v2)).toNat (z_w ((σ a1 (z_w (33 + v2)).toNat) + 1))) hf
        · rw [if_neg h10] at hf
          refine aw_goto X (tgt := 74) dX12_begins_38 (by decide) ?_
          refine aw_iinc X 2 [(2, z_i (z_w (v2 + 1))), (0, .ref (ad 758)), (1, .ref (ad a1))] dX12_begins_74 rfl (by decide) rfl ?_
          refine aw_goto X (tgt := 2) dX12_begins_77 (by decide) ?_
          refine aw_sub [1, 2, 0] rfl ?_
          exact ih a1 h_a1 (z_w (v2 + 1)) (z_w_in _) σ hf
end S_X12_begins
set_option maxHeartbeats 4000000 in
set_option maxRecDepth 100000 in
theorem C_X12_begins (l : Launch) (D : va_G) (cA : Nat → ClassId) (sa ad : Nat → Nat) (bs : Nat) (a1 : Nat) (h_a1 : a1 < 788 ∧ SHp a1 = .inr (0, 256, [])) (σ : Nat → Nat → Int) (q : (Int × (Nat → Nat → Int))) (hf : f_X12_begins a1 σ = some q) : AM l D cA sa ad bs 788 SHp yX12_begins cX12_begins 4 (some .int) 2 [.ref (ad 758), .ref (ad a1)] σ (some (z_i q.1)) (Z_I q.1) q.2 := by
  refine am_of (by decide +kernel) (Nat.le_of_ble_eq_true rfl) (fun p e s m args below meth c X hr => ?_)
  refine aw_lv (lv' := [(0, .ref (ad 758)), (1, .ref (ad a1))]) rfl ?_
  unfold f_X12_begins at hf
  refine aw_iconst X dX12_begins_0 ?_
  refine aw_istore_n X [(2, z_i 0), (0, .ref (ad 758)), (1, .ref (ad a1))] dX12_begins_1 rfl (by decide) rfl ?_
  refine aw_sub [1, 2, 0] rfl ?_
  exact A_X12_begins_2 X hr 100000 a1 h_a1 0 (z_lit (x := 0) (by decide)) σ hf
-- SpeedDeskModel.chooses([II)V
section S_X12_chooses
variable {p : Program} {l : Launch} {e : Env} {s : State} {m : MethodId} {args : Array Value} {below : List Frame} {meth : Method} {c : Code} {D : va_G} {cA : Nat → ClassId} {sa ad : Nat → Nat} {bs : Nat} {q : (Nat → Nat → Int)}
set_option maxHeartbeats 4000000 in
set_option maxRecDepth 100000 in
theorem A_X12_chooses_127 (X : AX p s m args meth c D cA sa bs cX12_chooses 4 RX12) (hr : meth.sig.returnType = none) (a1 : Nat) (h_a1 : a1 < 788 ∧ SHp a1 = .inr (0, 256, [])) (v2 : Int) (c_v2 : Z_I v2) (σ : Nat → Nat → Int) (hf : f_X12_chooses_127 a1 v2 σ = some q) : AW p l e (ax_rm 3 0 0) s m args below meth c D cA ad bs 788 SHp 0 0 (ax_MQ below args s D cA ad bs 788 SHp 0 0 none True q) 4 127 [(1, .ref (ad a1)), (2, z_i v2)] [] σ := by
  unfold f_X12_chooses_127 at hf
  refine aw_aload_n X 0 dX12_chooses_127 rfl rfl ?_
  refine aw_bipush X dX12_chooses_128 (by decide) ?_
  refine aw_iload_n X 1 dX12_chooses_130 rfl rfl ?_
  refine aw_iadd X dX12_chooses_131 ?_
  obtain ⟨g38, hf⟩ := z_gd hf
  refine aw_iald X (j := (z_w (6 + v2)).toNat) h_a1 (z_w_in _) g38.1 g38.2 rfl dX12_chooses_132 (fun c39 => ?_)
  refine aw_if_le X (tgt := 146) c39 dX12_chooses_133 (by decide) (fun h40 => ?_) (fun h40 => ?_)
  · rw [if_pos h40] at hf
    obtain rfl := Option.some.inj hf
    exact aw_vret X trivial hr rfl dX12_chooses_146
  · rw [if_neg h40] at hf
    refine aw_aload_n X 0 dX12_chooses_136 rfl rfl ?_
    refine aw_bipush X dX12_chooses_137 (by decide) ?_
    refine aw_iload_n X 1 dX12_chooses_139 rfl rfl ?_
    refine aw_iadd X dX12_chooses_140 ?_
    refine aw_dup2 X dX12_chooses_141 rfl rfl ?_
    obtain ⟨g41, hf⟩ := z_gd hf
    refine aw_iald X (j := (z_w (6 + v2)).toNat) h_a1 (z_w_in _) g41.1 g41.2 rfl dX12_chooses_142 (fun c42 => ?_)
    refine aw_iconst X dX12_chooses_143 ?_
    refine aw_isub X dX12_chooses_144 ?_
    obtain ⟨g43, hf⟩ := z_gd hf
    refine aw_iast X (j := (z_w (6 + v2)).toNat) h_a1 (z_w_in _) g43.1 g43.2 rfl (z_w_in _) dX12_chooses_145 ?_
    obtain rfl := Option.some.inj hf
    exact aw_vret X trivial hr rfl dX12_chooses_146
set_option maxHeartbeats 4000000 in
set_option maxRecDepth 100000 in
theorem A_X12_chooses_81 (X : AX p s m args meth c D cA sa bs cX12_chooses 4 RX12) (hr : meth.sig.returnType = none) (a1 : Nat) (h_a1 : a1 < 788 ∧ SHp a1 = .inr (0, 256, [])) (v2 : Int) (c_v2 : Z_I v2) (σ : Nat → Nat → Int) (hf : f_X12_chooses_81 a1 v2 σ = some q) : AW p l e (ax_rm 3 0 0) s m args below meth c D cA ad bs 788 SHp 0 0 (ax_MQ below args s D cA ad bs 788 SHp 0 0 none True q) 4 81 [(0, .ref (ad 758)), (1, .ref (ad a1)), (2, z_i v2)] [] σ := by
  unfold f_X12_chooses_81 at hf
  refine aw_aload_n X 1 dX12_chooses_81 rfl rfl ?_
  refine aw_iconst X dX12_chooses_82 ?_
  refine aw_iload_n X 2 dX12_chooses_83 rfl rfl ?_
  refine aw_iadd X dX12_chooses_84 ?_
  refine aw_aload_n X 0 dX12_chooses_85 rfl rfl ?_
  refine aw_aload_n X 1 dX12_chooses_86 rfl rfl ?_
  refine aw_iload_n X 2 dX12_chooses_87 rfl rfl ?_
  refine aw_aload_n X 1 dX12_chooses_88 rfl rfl ?_
  refine aw_iconst X dX12_chooses_89 ?_
  refine aw_iload_n X 2 dX12_chooses_90 rfl rfl ?_
  refine aw_iadd X dX12_chooses_91 ?_
  obtain ⟨g23, hf⟩ := z_gd hf
  refine aw_iald X (j := (z_w (0 + v2)).toNat) h_a1 (z_w_in _) g23.1 g23.2 rfl dX12_chooses_92 (fun c24 => ?_)
  obtain ⟨q25, e26, hf⟩ := z_bd hf
  refine aw_callV X [.ref (ad a1), z_i v2, z_i (σ a1 (z_w (0 + v2)).toNat)] [z_i (z_w (0 + v2)), .ref (ad a1)] [z_i q25, z_i (z_w (0 + v2)), .ref (ad a1)] cX12_309 s_758 ciX12 (C_X12_bounded l D cA sa ad bs a1 h_a1 v2 c_v2 (σ a1 (z_w (0 + v2)).toNat) c24 σ q25 e26) rfl ⟨(Nat.le_of_ble_eq_true rfl), (Nat.le_of_ble_eq_true rfl), (Nat.le_of_ble_eq_true rfl), (Nat.le_of_ble_eq_true rfl)⟩ rfl (Nat.le_of_ble_eq_true rfl) rfl dX12_chooses_93 (fun p27 => ?_)
  obtain ⟨g28, hf⟩ := z_gd hf
  refine aw_iast X (j := (z_w (0 + v2)).toNat) h_a1 (z_w_in _) g28.1 g28.2 rfl p27 dX12_chooses_96 ?_
  refine aw_aload_n X 1 dX12_chooses_97 rfl rfl ?_
  refine aw_bipush X dX12_chooses_98 (by decide) ?_
  refine aw_iald X (j := 42) h_a1 (z_lit (x := 42) (by decide)) (by decide) (by decide) rfl dX12_chooses_100 (fun c29 => ?_)
  refine aw_aload_n X 0 dX12_chooses_101 rfl rfl ?_
  refine aw_getR X s_758 fX12_17 rfl dX12_chooses_102 ?_
  refine aw_iconst X dX12_chooses_105 ?_
  refine aw_iald X (j := 4) s_761 (z_lit (x := 4) (by decide)) (by decide) (by decide) rfl dX12_chooses_106 (fun c30 => ?_)
  refine aw_icmp_le X (tgt := 127) c29 c30 dX12_chooses_107 (by decide) (fun h31 => ?_) (fun h31 => ?_)
  · rw [if_pos h31] at hf
    refine aw_sub [1, 2] rfl ?_
    exact A_X12_chooses_127 X hr a1 h_a1 v2 c_v2 (u2 σ a1 (z_w (0 + v2)).toNat q25) hf
  · rw [if_neg h31] at hf
    refine aw_aload_n X 1 dX12_chooses_110 rfl rfl ?_
    refine aw_iconst X dX12_chooses_111 ?_
    refine aw_iload_n X 2 dX12_chooses_112 rfl rfl ?_
    refine aw_iadd X dX12_chooses_113 ?_
    obtain ⟨g32, hf⟩ := z_gd hf
    refine aw_iald X (j := (z_w (0 + v2)).toNat) h_a1 (z_w_in _) g32.1 g32.2 rfl dX12_chooses_114 (fun c33 => ?_)
    refine aw_if_le X (tgt := 127) c33 dX12_chooses_115 (by decide) (fun h34 => ?_) (fun h34 => ?_)
    · rw [if_pos h34] at hf
      refine aw_sub [1, 2] rfl ?_
      exact A_X12_chooses_127 X hr a1 h_a1 v2 c_v2 (u2 σ a1 (z_w (0 + v2)).toNat q25) hf
    · rw [if_neg h34] at hf
      refine aw_aload_n X 1 dX12_chooses_118 rfl rfl ?_
      refine aw_iconst X dX12_chooses_119 ?_
      refine aw_iload_n X 2 dX12_chooses_120 rfl rfl ?_
      refine aw_iadd X dX12_chooses_121 ?_
      refine aw_dup2 X dX12_chooses_122 rfl rfl ?_
      obtain ⟨g35, hf⟩ := z_gd hf
      refine aw_iald X (j := (z_w (0 + v2)).toNat) h_a1 (z_w_in _) g35.1 g35.2 rfl dX12_chooses_123 (fun c36 => ?_)
      refine aw_iconst X dX12_chooses_124 ?_
      refine aw_isub X dX12_chooses_125 ?_
      obtain ⟨g37, hf⟩ := z_gd hf
      refine aw_iast X (j := (z_w (0 + v2)).toNat) h_a1 (z_w_in _) g37.1 g37.2 rfl (z_w_in _) dX12_chooses_126 ?_
      refine aw_sub [1, 2] rfl ?_
      exact A_X12_chooses_127 X hr a1 h_a1 v2 c_v2 (u2 (u2 σ a1 (z_w (0 + v2)).toNat q25) a1 (z_w (0 + v2)).toNat (z_w (((u2 σ a1 (z_w (0 + v2)).toNat q25) a1 (z_w (0 + v2)).toNat) - 1))) hf
set_option maxHeartbeats 4000000 in
set_option maxRecDepth 100000 in
theorem A_X12_chooses_72 (X : AX p s m args meth c D cA sa bs cX12_chooses 4 RX12) (hr : meth.sig.returnType = none) (a1 : Nat) (h_a1 : a1 < 788 ∧ SHp a1 = .inr (0, 256, [])) (v2 : Int) (c_v2 : Z_I v2) (σ : Nat → Nat → Int) (hf : f_X12_chooses_72 a1 v2 σ = some q) : AW p l e (ax_rm 3 0 0) s m args below meth c D cA ad bs 788 SHp 0 0 (ax_MQ below args s D cA ad bs 788 SHp 0 0 none True q) 4 72 [(0, .ref (ad 758)), (1, .ref (ad a1)), (2, z_i v2)] [] σ := by
  unfold f_X12_chooses_72 at hf
  refine aw_aload_n X 1 dX12_chooses_72 rfl rfl ?_
  refine aw_iconst X dX12_chooses_73 ?_
  refine aw_iload_n X 2 dX12_chooses_74 rfl rfl ?_
  refine aw_iadd X dX12_chooses_75 ?_
  refine aw_dup2 X dX12_chooses_76 rfl rfl ?_
  obtain ⟨g20, hf⟩ := z_gd hf
  refine aw_iald X (j := (z_w (3 + v2)).toNat) h_a1 (z_w_in _) g20.1 g20.2 rfl dX12_chooses_77 (fun c21 => ?_)
  refine aw_iconst X dX12_chooses_78 ?_
  refine aw_iadd X dX12_chooses_79 ?_
  obtain ⟨g22, hf⟩ := z_gd hf
  refine aw_iast X (j := (z_w (3 + v2)).toNat) h_a1 (z_w_in _) g22.1 g22.2 rfl (z_w_in _) dX12_chooses_80 ?_
  exact A_X12_chooses_81 X hr a1 h_a1 v2 c_v2 (u2 σ a1 (z_w (3 + v2)).toNat (z_w ((σ a1 (z_w (3 + v2)).toNat) + 1))) hf
end S_X12_chooses
set_option maxHeartbeats 4000000 in
set_option maxRecDepth 100000 in
theorem C_X12_chooses (l : Launch) (D : va_G) (cA : Nat → ClassId) (sa ad : Nat → Nat) (bs : Nat) (a1 : Nat) (h_a1 : a1 < 788 ∧ SHp a1 = .inr (0, 256, [])) (v2 : Int) (c_v2 : Z_I v2) (σ : Nat → Nat → Int) (q : (Nat → Nat → Int)) (hf : f_X12_chooses a1 v2 σ = some q) : AM l D cA sa ad bs 788 SHp yX12_chooses cX12_chooses 4 none 3 [.ref (ad 758), .ref (ad a1), z_i v2] σ none True q := by
  refine am_of (by decide +kernel) (Nat.le_of_ble_eq_true rfl) (fun p e s m args below meth c X hr => ?_)
  refine aw_lv (lv' := [(0, .ref (ad 758)), (1, .ref (ad a1)), (2, z_i v2)]) rfl ?_
  unfold f_X12_chooses at hf
  refine aw_aload_n X 0 dX12_chooses_0 rfl rfl ?_
  refine aw_aload_n X 1 dX12_chooses_1 rfl rfl ?_
  refine aw_iload_n X 2 dX12_chooses_2 rfl rfl ?_
  obtain ⟨q1, e2, hf⟩ := z_bd hf
  refine aw_callV X [.ref (ad a1), z_i v2] [] [z_i q1] cX12_306 s_758 ciX12 (C_X12_wantOf l D cA sa ad bs a1 h_a1 v2 c_v2 σ q1 e2) rfl ⟨(Nat.le_of_ble_eq_true rfl), (Nat.le_of_ble_eq_true rfl), (Nat.le_of_ble_eq_true rfl), (Nat.le_of_ble_eq_true rfl)⟩ rfl (Nat.le_of_ble_eq_true rfl) rfl dX12_chooses_3 (fun p3 => ?_)
  refine aw_istore_n X [(3, z_i q1), (0, .ref (ad 758)), (1, .ref (ad a1)), (2, z_i v2)] dX12_chooses_6 rfl (by decide) rfl ?_
  refine aw_iload_n X 0 dX12_chooses_7 rfl rfl ?_
  refine aw_aload_n X 2 dX12_chooses_8 rfl rfl ?_
  refine aw_iconst X dX12_chooses_9 ?_
  refine aw_iload_n X 3 dX12_chooses_10 rfl rfl ?_
  refine aw_iadd X dX12_chooses_11 ?_
  obtain ⟨g4, hf⟩ := z_gd hf
  refine aw_iald X (j := (z_w (0 + v2)).toNat) h_a1 (z_w_in _) g4.1 g4.2 rfl dX12_chooses_12 (fun c5 => ?_)
  refine aw_icmp_le X (tgt := 31) p3 c5 dX12_chooses_13 (by decide) (fun h6 => ?_) (fun h6 => ?_)
  · rw [if_pos h6] at hf
    refine aw_iload_n X 0 dX12_chooses_31 rfl rfl ?_
    refine aw_aload_n X 2 dX12_chooses_32 rfl rfl ?_
    refine aw_iconst X dX12_chooses_33 ?_
    refine aw_iload_n X 3 dX12_chooses_34 rfl rfl ?_
    refine aw_iadd X dX12_chooses_35 ?_
    obtain ⟨g7, hf⟩ := z_gd hf
    refine aw_iald X (j := (z_w (0 + v2)).toNat) h_a1 (z_w_in _) g7.1 g7.2 rfl dX12_chooses_36 (fun c8 => ?_)
    refine aw_icmp_ge X (tgt := 72) p3 c8 dX12_chooses_37 (by decide) (fun h9 => ?_) (fun h9 => ?_)
    · rw [if_pos h9] at hf
      refine aw_sub [1, 2, 3] rfl ?_
      exact A_X12_chooses_72 X hr a1 h_a1 v2 c_v2 σ hf
    · rw [if_neg h9] at hf
      refine aw_aload_n X 2 dX12_chooses_40 rfl rfl ?_
      refine aw_iconst X dX12_chooses_41 ?_
      refine aw_iload_n X 3 dX12_chooses_42 rfl rfl ?_
      refine aw_iadd X dX12_chooses_43 ?_
      obtain ⟨g10, hf⟩ := z_gd hf
      refine aw_iald X (j := (z_w (3 + v2)).toNat) h_a1 (z_w_in _) g10.1 g10.2 rfl dX12_chooses_44 (fun c11 => ?_)
      refine aw_aload_n X 1 dX12_chooses_45 rfl rfl ?_
      refine aw_getR X s_758 fX12_17 rfl dX12_chooses_46 ?_
      refine aw_iconst X dX12_chooses_49 ?_
      refine aw_iald X (j := 1) s_761 (z_lit (x := 1) (by decide)) (by decide) (by decide) rfl dX12_chooses_50 (fun c12 => ?_)
      refine aw_icmp_lt X (tgt := 72) c11 c12 dX12_chooses_51 (by decide) (fun h13 => ?_) (fun h13 => ?_)
      · rw [if_pos h13] at hf
        refine aw_sub [1, 2, 3] rfl ?_
        exact A_X12_chooses_72 X hr a1 h_a1 v2 c_v2 σ hf
      · rw [if_neg h13] at hf
        refine aw_aload_n X 2 dX12_chooses_54 rfl rfl ?_
        refine aw_iconst X dX12_chooses_55 ?_
        refine aw_iload_n X 3 dX12_chooses_56 rfl rfl ?_
        refine aw_iadd X dX12_chooses_57 ?_
        refine aw_dup2 X dX12_chooses_58 rfl rfl ?_
        obtain ⟨g14, hf⟩ := z_gd hf
        refine aw_iald X (j := (z_w (0 + v2)).toNat) h_a1 (z_w_in _) g14.1 g14.2 rfl dX12_chooses_59 (fun c15 => ?_)
        refine aw_iconst X dX12_chooses_60 ?_
        refine aw_isub X dX12_chooses_61 ?_
        obtain ⟨g16, hf⟩ := z_gd hf
        refine aw_iast X (j := (z_w (0 + v2)).toNat) h_a1 (z_w_in _) g16.1 g16.2 rfl (z_w_in _) dX12_chooses_62 ?_
        refine aw_aload_n X 2 dX12_chooses_63 rfl rfl ?_
        refine aw_iconst X dX12_chooses_64 ?_
        refine aw_iload_n X 3 dX12_chooses_65 rfl rfl ?_
        refine aw_iadd X dX12_chooses_66 ?_
        refine aw_iconst X dX12_chooses_67 ?_
        obtain ⟨g17, hf⟩ := z_gd hf
        refine aw_iast X (j := (z_w (3 + v2)).toNat) h_a1 (z_w_in _) g17.1 g17.2 rfl (z_lit (x := 0) (by decide)) dX12_chooses_68 ?_
        refine aw_goto X (tgt := 81) dX12_chooses_69 (by decide) ?_
        refine aw_sub [1, 2, 3] rfl ?_
        exact A_X12_chooses_81 X hr a1 h_a1 v2 c_v2 (u2 (u2 σ a1 (z_w (0 + v2)).toNat (z_w ((σ a1 (z_w (0 + v2)).toNat) - 1))) a1 (z_w (3 + v2)).toNat 0) hf
  · rw [if_neg h6] at hf
    refine aw_aload_n X 2 dX12_chooses_16 rfl rfl ?_
    refine aw_iconst X dX12_chooses_17 ?_
    refine aw_iload_n X 3 dX12_chooses_18 rfl rfl ?_
    refine aw_iadd X dX12_chooses_19 ?_
    refine aw_iload_n X 0 dX12_chooses_20 rfl rfl ?_
    obtain ⟨g18, hf⟩ := z_gd hf
    refine aw_iast X (j := (z_w (0 + v2)).toNat) h_a1 (z_w_in _) g18.1 g18.2 rfl p3 dX12_chooses_21 ?_
    refine aw_aload_n X 2 dX12_chooses_22 rfl rfl ?_
    refine aw_iconst X dX12_chooses_23 ?_
    refine aw_iload_n X 3 dX12_chooses_24 rfl rfl ?_
    refine aw_iadd X dX12_chooses_25 ?_
    refine aw_iconst X dX12_chooses_26 ?_
    obtain ⟨g19, hf⟩ := z_gd hf
    refine aw_iast X (j := (z_w (3 + v2)).toNat) h_a1 (z_w_in _) g19.1 g19.2 rfl (z_lit (x := 0) (by decide)) dX12_chooses_27 ?_
    refine aw_goto X (tgt := 81) dX12_chooses_28 (by decide) ?_
    refine aw_sub [1, 2, 3] rfl ?_
    exact A_X12_chooses_81 X hr a1 h_a1 v2 c_v2 (u2 (u2 σ a1 (z_w (0 + v2)).toNat q1) a1 (z_w (3 + v2)).toNat 0) hf
-- SpeedDeskModel.nextOn([II)I
section S_X12_nextOn
variable {p : Program} {l : Launch} {e : Env} {s : State} {m : MethodId} {args : Array Value} {below : List Frame} {meth : Method} {c : Code} {D : va_G} {cA : Nat → ClassId} {sa ad : Nat → Nat} {bs : Nat} {q : Int}
set_option maxHeartbeats 4000000 in
set_option maxRecDepth 100000 in
theorem A_X12_nextOn_8 (X : AX p s m args meth c D cA sa bs cX12_nextOn 7 RX12) (hr : meth.sig.returnType = (some .int)) (σ : Nat → Nat → Int) : ∀ (k : Nat) (a1 : Nat) (h_a1 : a1 < 788 ∧ SHp a1 = .inr (0, 256, [])) (v2 : Int) (c_v2 : Z_I v2) (v3 : Int) (c_v3 : Z_I v3) (v4 : Int) (c_v4 : Z_I v4) (v5 : Int) (c_v5 : Z_I v5), f_X12_nextOn_8 k a1 v2 v3 v4 v5 σ = some q → AW p l e (ax_rm 0 0 0) s m args below meth c D cA ad bs 788 SHp 0 0 (ax_MQ below args s D cA ad bs 788 SHp 0 0 (some (z_i q)) (Z_I q) σ) 7 8 [(0, .ref (ad 758)), (1, .ref (ad a1)), (2, z_i v2), (3, z_i v3), (4, z_i v4), (5, z_i v5)] [] σ := by
  intro k
  induction k with
  | zero =>
    intro a1 h_a1 v2 c_v2 v3 c_v3 v4 c_v4 v5 c_v5 hf
    unfold f_X12_nextOn_8 at hf
    cases hf
  | succ k ih =>
    intro a1 h_a1 v2 c_v2 v3 c_v3 v4 c_v4 v5 c_v5 hf
    unfold f_X12_nextOn_8 at hf
    refine aw_iload X 5 dX12_nextOn_8 rfl ?_
    refine aw_aload_n X 0 dX12_nextOn_10 rfl rfl ?_
    refine aw_getI X s_758 fX12_237 rfl dX12_nextOn_11 (fun c1 => ?_)
    refine aw_icmp_ge X (tgt := 99) c_v5 c1 dX12_nextOn_14 (by decide) (fun h2 => ?_) (fun h2 => ?_)
    · rw [if_pos h2] at hf
      refine aw_iload_n X 3 dX12_nextOn_99 rfl rfl ?_
      obtain rfl := Option.some.inj hf
      exact aw_iret X c_v3 hr rfl dX12_nextOn_100
    · rw [if_neg h2] at hf
      refine aw_aload_n X 1 dX12_nextOn_17 rfl rfl ?_
      refine aw_bipush X dX12_nextOn_18 (by decide) ?_
      refine aw_iload X 5 dX12_nextOn_20 rfl ?_
      refine aw_iadd X dX12_nextOn_22 ?_
      obtain ⟨g3, hf⟩ := z_gd hf
      refine aw_iald X (j := (z_w (21 + v5)).toNat) h_a1 (z_w_in _) g3.1 g3.2 rfl dX12_nextOn_23 (fun c4 => ?_)
      refine aw_iload_n X 2 dX12_nextOn_24 rfl rfl ?_
      refine aw_icmp_ne X (tgt := 93) c4 c_v2 dX12_nextOn_25 (by decide) (fun h5 => ?_) (fun h5 => ?_)
      · rw [if_neg h5] at hf
        refine aw_iinc X 5 [(5, z_i (z_w (v5 + 1))), (0, .ref (ad 758)), (1, .ref (ad a1)), (2, z_i v2), (3, z_i v3), (4, z_i v4)] dX12_nextOn_93 rfl (by decide) rfl ?_
        refine aw_goto X (tgt := 8) dX12_nextOn_96 (by decide) ?_
        refine aw_sub [1, 2, 3, 4, 5, 0] rfl ?_
        exact ih a1 h_a1 v2 c_v2 v3 c_v3 v4 c_v4 (z_w (v5 + 1)) (z_w_in _) hf
      · rw [if_pos h5] at hf
        refine aw_aload_n X 1 dX12_nextOn_28 rfl rfl ?_
        refine aw_bipush X dX12_nextOn_29 (by decide) ?_
        refine aw_iload X 5 dX12_nextOn_31 rfl ?_
        refine aw_iadd X dX12_nextOn_33 ?_
        obtain ⟨g6, hf⟩ := z_gd hf
        refine aw_iald X (j := (z_w (25 + v5)).toNat) h_a1 (z_w_in _) g6.1 g6.2 rfl dX12_nextOn_34 (fun c7 => ?_)
        refine aw_if_ne X (tgt := 41) c7 dX12_nextOn_35 (by decide) (fun h8 => ?_) (fun h8 => ?_)
        · rw [if_neg h8] at hf
          refine aw_aload_n X 0 dX12_nextOn_41 rfl rfl ?_
          refine aw_getR X s_758 fX12_35 rfl dX12_nextOn_42 ?_
          refine aw_iconst X dX12_nextOn_45 ?_
          refine aw_iload X 5 dX12_nextOn_46 rfl ?_
          refine aw_imul X dX12_nextOn_48 ?_
          refine aw_iconst X dX12_nextOn_49 ?_
          refine aw_iadd X dX12_nextOn_50 ?_
          obtain ⟨g9, hf⟩ := z_gd hf
          refine aw_iald X (j := (z_w ((z_w (2 * v5)) + 1)).toNat) s_767 (z_w_in _) g9.1 g9.2 rfl dX12_nextOn_51 (fun c10 => ?_)
          refine aw_aload_n X 1 dX12_nextOn_52 rfl rfl ?_
          refine aw_bipush X dX12_nextOn_53 (by decide) ?_
          refine aw_iald X (j := 41) h_a1 (z_lit (x := 41) (by decide)) (by decide) (by decide) rfl dX12_nextOn_55 (fun c11 => ?_)
          refine aw_aload_n X 0 dX12_nextOn_56 rfl rfl ?_
          refine aw_getR X s_758 fX12_35 rfl dX12_nextOn_57 ?_
          refine aw_iconst X dX12_nextOn_60 ?_
          refine aw_iload X 5 dX12_nextOn_61 rfl ?_
          refine aw_imul X dX12_nextOn_63 ?_
          refine aw_iconst X dX12_nextOn_64 ?_
          refine aw_iadd X dX12_nextOn_65 ?_
          obtain ⟨g12, hf⟩ := z_gd hf
          refine aw_iald X (j := (z_w ((z_w (2 * v5)) + 1)).toNat) s_767 (z_w_in _) g12.1 g12.2 rfl dX12_nextOn_66 (fun c13 => ?_)
          obtain ⟨g14, hf⟩ := z_gd hf
          refine aw_irem X c11 c13 g14 dX12_nextOn_67 ?_
          refine aw_isub X dX12_nextOn_68 ?_
          refine aw_istore X [(6, z_i (z_w ((σ 767 (z_w ((z_w (2 * v5)) + 1)).toNat) - (z_w (Int.tmod (σ a1 41) (σ 767 (z_w ((z_w (2 * v5)) + 1)).toNat)))))), (0, .ref (ad 758)), (1, .ref (ad a1)), (2, z_i v2), (3, z_i v3), (4, z_i v4), (5, z_i v5)] dX12_nextOn_69 (by decide) rfl ?_
          refine aw_iload_n X 4 dX12_nextOn_71 rfl rfl ?_
          refine aw_iconst X dX12_nextOn_72 ?_
          refine aw_icmp_eq X (tgt := 86) c_v3 (z_lit (x := (-1)) (by decide)) dX12_nextOn_73 (by decide) (fun h15 => ?_) (fun h15 => ?_)
          · simp only [if_pos h15] at hf
            refine aw_iload X 6 dX12_nextOn_86 rfl ?_
            refine aw_istore_n X [(3, z_i v5), (6, z_i (z_w ((σ 767 (z_w ((z_w (2 * v5)) + 1)).toNat) - (z_w (Int.tmod (σ a1 41) (σ 767 (z_w ((z_w (2 * v5)) + 1)).toNat)))))), (0, .ref (ad 758)), (1, .ref (ad a1)), (2, z_i v2), (4, z_i v4), (5, z_i v5)] dX12_nextOn_88 rfl (by decide) rfl ?_
            refine aw_iload X 1 dX12_nextOn_89 rfl ?_
            refine aw_istore X [(4, z_i (z_w ((σ 767 (z_w ((z_w (2 * v5)) + 1)).toNat) - (z_w (Int.tmod (σ a1 41) (σ 767 (z_w ((z_w (2 * v5)) + 1)).toNat)))))), (3, z_i v5), (6, z_i (z_w ((σ 767 (z_w ((z_w (2 * v5)) + 1)).toNat) - (z_w (Int.tmod (σ a1 41) (σ 767 (z_w ((z_w (2 * v5)) + 1)).toNat)))))), (0, .ref (ad 758)), (1, .ref (ad a1)), (2, z_i v2), (5, z_i v5)] dX12_nextOn_91 (by decide) rfl ?_
            refine aw_iinc X 6 [(5, z_i (z_w (v5 + 1))), (4, z_i (z_w ((σ 767 (z_w ((z_w (2 * v5)) + 1)).toNat) - (z_w (Int.tmod (σ a1 41) (σ 767 (z_w ((z_w (2 * v5)) + 1)).toNat)))))), (3, z_i v5), (6, z_i (z_w ((σ 767 (z_w ((z_w (2 * v5)) + 1)).toNat) - (z_w (Int.tmod (σ a1 41) (σ 767 (z_w ((z_w (2 * v5)) + 1)).toNat)))))), (0, .ref (ad 758)), (1, .ref (ad a1)), (2, z_i v2)] dX12_nextOn_93 rfl (by decide) rfl ?_
            refine aw_goto X (tgt := 8) dX12_nextOn_96 (by decide) ?_
            refine aw_sub [4, 5, 6, 2, 1, 0] rfl ?_
            exact ih a1 h_a1 v2 c_v2 v5 c_v5 (z_w ((σ 767 (z_w ((z_w (2 * v5)) + 1)).toNat) - (z_w (Int.tmod (σ a1 41) (σ 767 (z_w ((z_w (2 * v5)) + 1)).toNat))))) (z_w_in _) (z_w (v5 + 1)) (z_w_in _) hf
          · simp only [if_neg h15] at hf
            refine aw_iload X 0 dX12_nextOn_76 rfl ?_
            refine aw_iload X 5 dX12_nextOn_78 rfl ?_
            refine aw_icmp_lt X (tgt := 86) (z_w_in _) c_v4 dX12_nextOn_80 (by decide) (fun h16 => ?_) (fun h16 => ?_)
            · simp only [if_pos h16] at hf
              refine aw_iload X 6 dX12_nextOn_86 rfl ?_
              refine aw_istore_n X [(3, z_i v5), (6, z_i (z_w ((σ 767 (z_w ((z_w (2 * v5)) + 1)).toNat) - (z_w (Int.tmod (σ a1 41) (σ 767 (z_w ((z_w (2 * v5)) + 1)).toNat)))))), (0, .ref (ad 758)), (1, .ref (ad a1)), (2, z_i v2), (4, z_i v4), (5, z_i v5)] dX12_nextOn_88 rfl (by decide) rfl ?_
              refine aw_iload X 1 dX12_nextOn_89 rfl ?_
              refine aw_istore X [(4, z_i (z_w ((σ 767 (z_w ((z_w (2 * v5)) + 1)).toNat) - (z_w (Int.tmod (σ a1 41) (σ 767 (z_w ((z_w (2 * v5)) + 1)).toNat)))))), (3, z_i v5), (6, z_i (z_w ((σ 767 (z_w ((z_w (2 * v5)) + 1)).toNat) - (z_w (Int.tmod (σ a1 41) (σ 767 (z_w ((z_w (2 * v5)) + 1)).toNat)))))), (0, .ref (ad 758)), (1, .ref (ad a1)), (2, z_i v2), (5, z_i v5)] dX12_nextOn_91 (by decide) rfl ?_
              refine aw_iinc X 6 [(5, z_i (z_w (v5 + 1))), (4, z_i (z_w ((σ 767 (z_w ((z_w (2 * v5)) + 1)).toNat) - (z_w (Int.tmod (σ a1 41) (σ 767 (z_w ((z_w (2 * v5)) + 1)).toNat)))))), (3, z_i v5), (6, z_i (z_w ((σ 767 (z_w ((z_w (2 * v5)) + 1)).toNat) - (z_w (Int.tmod (σ a1 41) (σ 767 (z_w ((z_w (2 * v5)) + 1)).toNat)))))), (0, .ref (ad 758)), (1, .ref (ad a1)), (2, z_i v2)] dX12_nextOn_93 rfl (by decide) rfl ?_
              refine aw_goto X (tgt := 8) dX12_nextOn_96 (by decide) ?_
              refine aw_sub [4, 5, 6, 2, 1, 0] rfl ?_
              exact ih a1 h_a1 v2 c_v2 v5 c_v5 (z_w ((σ 767 (z_w ((z_w (2 * v5)) + 1)).toNat) - (z_w (Int.tmod (σ a1 41) (σ 767 (z_w ((z_w (2 * v5)) + 1)).toNat))))) (z_w_in _) (z_w (v5 + 1)) (z_w_in _) hf
            · simp only [if_neg h16] at hf
              refine aw_goto X (tgt := 93) dX12_nextOn_83 (by decide) ?_
              refine aw_iinc X 6 [(5, z_i (z_w (v5 + 1))), (6, z_i (z_w ((σ 767 (z_w ((z_w (2 * v5)) + 1)).toNat) - (z_w (Int.tmod (σ a1 41) (σ 767 (z_w ((z_w (2 * v5)) + 1)).toNat)))))), (0, .ref (ad 758)), (1, .ref (ad a1)), (2, z_i v2), (3, z_i v3), (4, z_i v4)] dX12_nextOn_93 rfl (by decide) rfl ?_
              refine aw_goto X (tgt := 8) dX12_nextOn_96 (by decide) ?_
              refine aw_sub [2, 3, 4, 5, 6, 0] rfl ?_
              exact ih a1 h_a1 v2 c_v2 v3 c_v3 v4 c_v4 (z_w (v5 + 1)) (z_w_in _) hf
        · rw [if_pos h8] at hf
          refine aw_goto X (tgt := 93) dX12_nextOn_38 (by decide) ?_
          refine aw_iinc X 5 [(5, z_i (z_w (v5 + 1))), (0, .ref (ad 758)), (1, .ref (ad a1)), (2, z_i v2), (3, z_i v3), (4, z_i v4)] dX12_nextOn_93 rfl (by decide) rfl ?_
          refine aw_goto X (tgt := 8) dX12_nextOn_96 (by decide) ?_
          refine aw_sub [1, 2, 3, 4, 5, 0] rfl ?_
          exact ih a1 h_a1 v2 c_v2 v3 c_v3 v4 c_v4 (z_w (v5 + 1)) (z_w_in _) hf
end S_X12_nextOn
set_option maxHeartbeats 4000000 in
set_option maxRecDepth 100000 in
theorem C_X12_nextOn (l : Launch) (D : va_G) (cA : Nat → ClassId) (sa ad : Nat → Nat) (bs : Nat) (a1 : Nat) (h_a1 : a1 < 788 ∧ SHp a1 = .inr (0, 256, [])) (v2 : Int) (c_v2 : Z_I v2) (σ : Nat → Nat → Int) (q : Int) (hf : f_X12_nextOn a1 v2 σ = some q) : AM l D cA sa ad bs 788 SHp yX12_nextOn cX12_nextOn 7 (some .int) 0 [.ref (ad 758), .ref (ad a1), z_i v2] σ (some (z_i q)) (Z_I q) σ := by
  refine am_of (by decide +kernel) (Nat.le_of_ble_eq_true rfl) (fun p e s m args below meth c X hr => ?_)
  refine aw_lv (lv' := [(0, .ref (ad 758)), (1, .ref (ad a1)), (2, z_i v2)]) rfl ?_
  unfold f_X12_nextOn at hf
  refine aw_iconst X dX12_nextOn_0 ?_
  refine aw_istore_n X [(3, z_i (-1)), (0, .ref (ad 758)), (1, .ref (ad a1)), (2, z_i v2)] dX12_nextOn_1 rfl (by decide) rfl ?_
  refine aw_iconst X dX12_nextOn_2 ?_
  refine aw_istore X [(4, z_i 0), (3, z_i (-1)), (0, .ref (ad 758)), (1, .ref (ad a1)), (2, z_i v2)] dX12_nextOn_3 (by decide) rfl ?_
  refine aw_iconst X dX12_nextOn_5 ?_
  refine aw_istore X [(5, z_i 0), (4, z_i 0), (3, z_i (-1)), (0, .ref (ad 758)), (1, .ref (ad a1)), (2, z_i v2)] dX12_nextOn_6 (by decide) rfl ?_
  refine aw_sub [3, 4, 5, 2, 1, 0] rfl ?_
  exact A_X12_nextOn_8 X hr σ 100000 a1 h_a1 v2 c_v2 (-1) (z_lit (x := (-1)) (by decide)) 0 (z_lit (x := 0) (by decide)) 0 (z_lit (x := 0) (by decide)) hf
