-- SpeedDeskModel.sharesOn(I)I
section S_X12_sharesOn
variable {p : Program} {l : Launch} {e : Env} {s : State} {m : MethodId} {args : Array Value} {below : List Frame} {meth : Method} {c : Code} {D : va_G} {cA : Nat → ClassId} {sa ad : Nat → Nat} {bs : Nat} {q : Int}
set_option maxHeartbeats 4000000 in
set_option maxRecDepth 100000 in
theorem A_X12_sharesOn_4 (X : AX p s m args meth c D cA sa bs cX12_sharesOn 4 RX12) (hr : meth.sig.returnType = (some .int)) (σ : Nat → Nat → Int) : ∀ (k : Nat) (v1 : Int) (c_v1 : Z_I v1) (v2 : Int) (c_v2 : Z_I v2) (v3 : Int) (c_v3 : Z_I v3), f_X12_sharesOn_4 k v1 v2 v3 σ = some q → AW p l e (ax_rm 2 0 0) s m args below meth c D cA ad bs 788 SHp 0 0 (ax_MQ below args s D cA ad bs 788 SHp 0 0 (some (z_i q)) (Z_I q) σ) 4 4 [(0, .ref (ad 758)), (1, z_i v1), (2, z_i v2), (3, z_i v3)] [] σ := by
  intro k
  induction k with
  | zero =>
    intro v1 c_v1 v2 c_v2 v3 c_v3 hf
    unfold f_X12_sharesOn_4 at hf
    cases hf
  | succ k ih =>
    intro v1 c_v1 v2 c_v2 v3 c_v3 hf
    unfold f_X12_sharesOn_4 at hf
    refine aw_iload_n X 3 dX12_sharesOn_4 rfl rfl ?_
    refine aw_aload_n X 0 dX12_sharesOn_5 rfl rfl ?_
    refine aw_getI X s_758 fX12_237 rfl dX12_sharesOn_6 (fun c1 => ?_)
    refine aw_icmp_ge X (tgt := 47) c_v3 c1 dX12_sharesOn_9 (by decide) (fun h2 => ?_) (fun h2 => ?_)
    · rw [if_pos h2] at hf
      refine aw_iload_n X 2 dX12_sharesOn_47 rfl rfl ?_
      obtain rfl := Option.some.inj hf
      exact aw_iret X c_v2 hr rfl dX12_sharesOn_48
    · rw [if_neg h2] at hf
      refine aw_iload_n X 2 dX12_sharesOn_12 rfl rfl ?_
      refine aw_aload_n X 0 dX12_sharesOn_13 rfl rfl ?_
      refine aw_getR X s_758 fX12_63 rfl dX12_sharesOn_14 ?_
      refine aw_bipush X dX12_sharesOn_17 (by decide) ?_
      refine aw_iload_n X 3 dX12_sharesOn_19 rfl rfl ?_
      refine aw_iadd X dX12_sharesOn_20 ?_
      obtain ⟨g3, hf⟩ := z_gd hf
      refine aw_iald X (j := (z_w (21 + v3)).toNat) s_776 (z_w_in _) g3.1 g3.2 rfl dX12_sharesOn_21 (fun c4 => ?_)
      refine aw_iload_n X 1 dX12_sharesOn_22 rfl rfl ?_
      refine aw_icmp_ne X (tgt := 38) c4 c_v1 dX12_sharesOn_23 (by decide) (fun h5 => ?_) (fun h5 => ?_)
      · rw [if_neg h5] at hf
        refine aw_iconst X dX12_sharesOn_38 ?_
        refine aw_iadd X dX12_sharesOn_39 ?_
        refine aw_istore_n X [(2, z_i (z_w (v2 + 0))), (0, .ref (ad 758)), (1, z_i v1), (3, z_i v3)] dX12_sharesOn_40 rfl (by decide) rfl ?_
        refine aw_iinc X 3 [(3, z_i (z_w (v3 + 1))), (2, z_i (z_w (v2 + 0))), (0, .ref (ad 758)), (1, z_i v1)] dX12_sharesOn_41 rfl (by decide) rfl ?_
        refine aw_goto X (tgt := 4) dX12_sharesOn_44 (by decide) ?_
        refine aw_sub [2, 3, 1, 0] rfl ?_
        exact ih v1 c_v1 (z_w (v2 + 0)) (z_w_in _) (z_w (v3 + 1)) (z_w_in _) hf
      · rw [if_pos h5] at hf
        refine aw_aload_n X 0 dX12_sharesOn_26 rfl rfl ?_
        refine aw_aload_n X 0 dX12_sharesOn_27 rfl rfl ?_
        refine aw_getR X s_758 fX12_63 rfl dX12_sharesOn_28 ?_
        refine aw_iload_n X 3 dX12_sharesOn_31 rfl rfl ?_
        obtain ⟨q6, e7, hf⟩ := z_bd hf
        refine aw_callV X [.ref (ad 776), z_i v3] [z_i v2] [z_i q6, z_i v2] cX12_435 s_758 ciX12 (C_X12_shareOf l D cA sa ad bs 776 s_776 v3 c_v3 σ q6 e7) rfl ⟨(Nat.le_of_ble_eq_true rfl), (Nat.le_of_ble_eq_true rfl), (Nat.le_of_ble_eq_true rfl), (Nat.le_of_ble_eq_true rfl)⟩ rfl (Nat.le_of_ble_eq_true rfl) rfl dX12_sharesOn_32 (fun p8 => ?_)
        refine aw_goto X (tgt := 39) dX12_sharesOn_35 (by decide) ?_
        refine aw_iadd X dX12_sharesOn_39 ?_
        refine aw_istore_n X [(2, z_i (z_w (v2 + q6))), (0, .ref (ad 758)), (1, z_i v1), (3, z_i v3)] dX12_sharesOn_40 rfl (by decide) rfl ?_
        refine aw_iinc X 3 [(3, z_i (z_w (v3 + 1))), (2, z_i (z_w (v2 + q6))), (0, .ref (ad 758)), (1, z_i v1)] dX12_sharesOn_41 rfl (by decide) rfl ?_
        refine aw_goto X (tgt := 4) dX12_sharesOn_44 (by decide) ?_
        refine aw_sub [2, 3, 1, 0] rfl ?_
        exact ih v1 c_v1 (z_w (v2 + q6)) (z_w_in _) (z_w (v3 + 1)) (z_w_in _) hf
end S_X12_sharesOn
set_option maxHeartbeats 4000000 in
set_option maxRecDepth 100000 in
theorem C_X12_sharesOn (l : Launch) (D : va_G) (cA : Nat → ClassId) (sa ad : Nat → Nat) (bs : Nat) (v1 : Int) (c_v1 : Z_I v1) (σ : Nat → Nat → Int) (q : Int) (hf : f_X12_sharesOn v1 σ = some q) : AM l D cA sa ad bs 788 SHp yX12_sharesOn cX12_sharesOn 4 (some .int) 2 [.ref (ad 758), z_i v1] σ (some (z_i q)) (Z_I q) σ := by
  refine am_of (by decide +kernel) (Nat.le_of_ble_eq_true rfl) (fun p e s m args below meth c X hr => ?_)
  refine aw_lv (lv' := [(0, .ref (ad 758)), (1, z_i v1)]) rfl ?_
  unfold f_X12_sharesOn at hf
  refine aw_iconst X dX12_sharesOn_0 ?_
  refine aw_istore_n X [(2, z_i 0), (0, .ref (ad 758)), (1, z_i v1)] dX12_sharesOn_1 rfl (by decide) rfl ?_
  refine aw_iconst X dX12_sharesOn_2 ?_
  refine aw_istore_n X [(3, z_i 0), (2, z_i 0), (0, .ref (ad 758)), (1, z_i v1)] dX12_sharesOn_3 rfl (by decide) rfl ?_
  refine aw_sub [2, 3, 1, 0] rfl ?_
  exact A_X12_sharesOn_4 X hr σ 100000 v1 c_v1 0 (z_lit (x := 0) (by decide)) 0 (z_lit (x := 0) (by decide)) hf
-- SpeedDeskModel.tasksOn(I)I
section S_X12_tasksOn
variable {p : Program} {l : Launch} {e : Env} {s : State} {m : MethodId} {args : Array Value} {below : List Frame} {meth : Method} {c : Code} {D : va_G} {cA : Nat → ClassId} {sa ad : Nat → Nat} {bs : Nat} {q : Int}
set_option maxHeartbeats 4000000 in
set_option maxRecDepth 100000 in
theorem A_X12_tasksOn_4 (X : AX p s m args meth c D cA sa bs cX12_tasksOn 4 RX12) (hr : meth.sig.returnType = (some .int)) (σ : Nat → Nat → Int) : ∀ (k : Nat) (v1 : Int) (c_v1 : Z_I v1) (v2 : Int) (c_v2 : Z_I v2) (v3 : Int) (c_v3 : Z_I v3), f_X12_tasksOn_4 k v1 v2 v3 σ = some q → AW p l e (ax_rm 0 0 0) s m args below meth c D cA ad bs 788 SHp 0 0 (ax_MQ below args s D cA ad bs 788 SHp 0 0 (some (z_i q)) (Z_I q) σ) 4 4 [(0, .ref (ad 758)), (1, z_i v1), (2, z_i v2), (3, z_i v3)] [] σ := by
  intro k
  induction k with
  | zero =>
    intro v1 c_v1 v2 c_v2 v3 c_v3 hf
    unfold f_X12_tasksOn_4 at hf
    cases hf
  | succ k ih =>
    intro v1 c_v1 v2 c_v2 v3 c_v3 hf
    unfold f_X12_tasksOn_4 at hf
    refine aw_iload_n X 3 dX12_tasksOn_4 rfl rfl ?_
    refine aw_aload_n X 0 dX12_tasksOn_5 rfl rfl ?_
    refine aw_getI X s_758 fX12_237 rfl dX12_tasksOn_6 (fun c1 => ?_)
    refine aw_icmp_ge X (tgt := 41) c_v3 c1 dX12_tasksOn_9 (by decide) (fun h2 => ?_) (fun h2 => ?_)
    · rw [if_pos h2] at hf
      refine aw_iload_n X 2 dX12_tasksOn_41 rfl rfl ?_
      obtain rfl := Option.some.inj hf
      exact aw_iret X c_v2 hr rfl dX12_tasksOn_42
    · rw [if_neg h2] at hf
      refine aw_iload_n X 2 dX12_tasksOn_12 rfl rfl ?_
      refine aw_aload_n X 0 dX12_tasksOn_13 rfl rfl ?_
      refine aw_getR X s_758 fX12_63 rfl dX12_tasksOn_14 ?_
      refine aw_bipush X dX12_tasksOn_17 (by decide) ?_
      refine aw_iload_n X 3 dX12_tasksOn_19 rfl rfl ?_
      refine aw_iadd X dX12_tasksOn_20 ?_
      obtain ⟨g3, hf⟩ := z_gd hf
      refine aw_iald X (j := (z_w (21 + v3)).toNat) s_776 (z_w_in _) g3.1 g3.2 rfl dX12_tasksOn_21 (fun c4 => ?_)
      refine aw_iload_n X 1 dX12_tasksOn_22 rfl rfl ?_
      refine aw_icmp_ne X (tgt := 32) c4 c_v1 dX12_tasksOn_23 (by decide) (fun h5 => ?_) (fun h5 => ?_)
      · simp only [if_neg h5] at hf
        refine aw_iconst X dX12_tasksOn_32 ?_
        refine aw_ior X dX12_tasksOn_33 ?_
        refine aw_istore_n X [(2, z_i (z_or v2 0)), (0, .ref (ad 758)), (1, z_i v1), (3, z_i v3)] dX12_tasksOn_34 rfl (by decide) rfl ?_
        refine aw_iinc X 3 [(3, z_i (z_w (v3 + 1))), (2, z_i (z_or v2 0)), (0, .ref (ad 758)), (1, z_i v1)] dX12_tasksOn_35 rfl (by decide) rfl ?_
        refine aw_goto X (tgt := 4) dX12_tasksOn_38 (by decide) ?_
        refine aw_sub [2, 3, 1, 0] rfl ?_
        exact ih v1 c_v1 (z_or v2 0) (z_or_in _ _) (z_w (v3 + 1)) (z_w_in _) hf
      · simp only [if_pos h5] at hf
        refine aw_iconst X dX12_tasksOn_26 ?_
        refine aw_iload_n X 3 dX12_tasksOn_27 rfl rfl ?_
        refine aw_ishl X dX12_tasksOn_28 ?_
        refine aw_goto X (tgt := 33) dX12_tasksOn_29 (by decide) ?_
        refine aw_ior X dX12_tasksOn_33 ?_
        refine aw_istore_n X [(2, z_i (z_or v2 (z_shl 1 v3))), (0, .ref (ad 758)), (1, z_i v1), (3, z_i v3)] dX12_tasksOn_34 rfl (by decide) rfl ?_
        refine aw_iinc X 3 [(3, z_i (z_w (v3 + 1))), (2, z_i (z_or v2 (z_shl 1 v3))), (0, .ref (ad 758)), (1, z_i v1)] dX12_tasksOn_35 rfl (by decide) rfl ?_
        refine aw_goto X (tgt := 4) dX12_tasksOn_38 (by decide) ?_
        refine aw_sub [2, 3, 1, 0] rfl ?_
        exact ih v1 c_v1 (z_or v2 (z_shl 1 v3)) (z_or_in _ _) (z_w (v3 + 1)) (z_w_in _) hf
end S_X12_tasksOn
set_option maxHeartbeats 4000000 in
set_option maxRecDepth 100000 in
theorem C_X12_tasksOn (l : Launch) (D : va_G) (cA : Nat → ClassId) (sa ad : Nat → Nat) (bs : Nat) (v1 : Int) (c_v1 : Z_I v1) (σ : Nat → Nat → Int) (q : Int) (hf : f_X12_tasksOn v1 σ = some q) : AM l D cA sa ad bs 788 SHp yX12_tasksOn cX12_tasksOn 4 (some .int) 0 [.ref (ad 758), z_i v1] σ (some (z_i q)) (Z_I q) σ := by
  refine am_of (by decide +kernel) (Nat.le_of_ble_eq_true rfl) (fun p e s m args below meth c X hr => ?_)
  refine aw_lv (lv' := [(0, .ref (ad 758)), (1, z_i v1)]) rfl ?_
  unfold f_X12_tasksOn at hf
  refine aw_iconst X dX12_tasksOn_0 ?_
  refine aw_istore_n X [(2, z_i 0), (0, .ref (ad 758)), (1, z_i v1)] dX12_tasksOn_1 rfl (by decide) rfl ?_
  refine aw_iconst X dX12_tasksOn_2 ?_
  refine aw_istore_n X [(3, z_i 0), (2, z_i 0), (0, .ref (ad 758)), (1, z_i v1)] dX12_tasksOn_3 rfl (by decide) rfl ?_
  refine aw_sub [2, 3, 1, 0] rfl ?_
  exact A_X12_tasksOn_4 X hr σ 100000 v1 c_v1 0 (z_lit (x := 0) (by decide)) 0 (z_lit (x := 0) (by decide)) hf
-- SpeedDeskModel.core(II)I
section S_X12_core
variable {p : Program} {l : Launch} {e : Env} {s : State} {m : MethodId} {args : Array Value} {below : List Frame} {meth : Method} {c : Code} {D : va_G} {cA : Nat → ClassId} {sa ad : Nat → Nat} {bs : Nat} {q : (Int × (Nat → Nat → Int))}

end S_X12_core
set_option maxHeartbeats 4000000 in
set_option maxRecDepth 100000 in
theorem C_X12_core (l : Launch) (D : va_G) (cA : Nat → ClassId) (sa ad : Nat → Nat) (bs : Nat) (v1 : Int) (c_v1 : Z_I v1) (v2 : Int) (c_v2 : Z_I v2) (σ : Nat → Nat → Int) (q : (Int × (Nat → Nat → Int))) (hf : f_X12_core v1 v2 σ = some q) : AM l D cA sa ad bs 788 SHp yX12_core cX12_core 3 (some .int) 3 [.ref (ad 758), z_i v1, z_i v2] σ (some (z_i q.1)) (Z_I q.1) q.2 := by
  refine am_of (by decide +kernel) (Nat.le_of_ble_eq_true rfl) (fun p e s m args below meth c X hr => ?_)
  refine aw_lv (lv' := [(0, .ref (ad 758)), (1, z_i v1), (2, z_i v2)]) rfl ?_
  unfold f_X12_core at hf
  refine aw_aload_n X 0 dX12_core_0 rfl rfl ?_
  refine aw_iconst X dX12_core_1 ?_
  refine aw_putI X s_758 pX12_101 rfl (z_lit (x := 0) (by decide)) dX12_core_2 ?_
  refine aw_aload_n X 0 dX12_core_5 rfl rfl ?_
  refine aw_iload_n X 1 dX12_core_6 rfl rfl ?_
  obtain ⟨q1, e2, hf⟩ := z_bd hf
  refine aw_callV X [z_i v1] [] [z_i q1] cX12_343 s_758 ciX12 (C_X12_isCore l D cA sa ad bs v1 c_v1 (u2 σ 758 0 0) q1 e2) rfl ⟨(Nat.le_of_ble_eq_true rfl), (Nat.le_of_ble_eq_true rfl), (Nat.le_of_ble_eq_true rfl), (Nat.le_of_ble_eq_true rfl)⟩ rfl (Nat.le_of_ble_eq_true rfl) rfl dX12_core_7 (fun p3 => ?_)
  refine aw_if_eq X (tgt := 25) (z_zI p3) dX12_core_10 (by decide) (fun h4 => ?_) (fun h4 => ?_)
  · rw [if_pos h4] at hf
    refine aw_ldcw X (x := (-1000000)) dX12_core_25 kX12_431 (by decide) ?_
    obtain rfl := Option.some.inj hf
    exact aw_iret X (z_lit (x := (-1000000)) (by decide)) hr rfl dX12_core_28
  · rw [if_neg h4] at hf
    refine aw_iload_n X 2 dX12_core_13 rfl rfl ?_
    refine aw_i2l X c_v2 dX12_core_14 ?_
    refine aw_lconst X (x := 0) dX12_core_15 (by decide) ?_
    refine aw_ldc2 X (x := 4) dX12_core_16 kX12_464 (by decide) ?_
    obtain ⟨q5, e6, hf⟩ := z_bd hf
    refine aw_callS X [z_v v2, z_v 0, z_v 4] [] [z_i q5] cX12_156 (C_X12_isIn l D cA sa ad bs v2 (z_IL c_v2) 0 (z_litL (x := 0) (by decide)) 4 (z_litL (x := 4) (by decide)) (u2 σ 758 0 0) q5 e6) rfl ⟨(Nat.le_of_ble_eq_true rfl), (Nat.le_of_ble_eq_true rfl), (Nat.le_of_ble_eq_true rfl), (Nat.le_of_ble_eq_true rfl)⟩ rfl (Nat.le_of_ble_eq_true rfl) rfl dX12_core_19 (fun p7 => ?_)
    refine aw_if_ne X (tgt := 29) (z_zI p7) dX12_core_22 (by decide) (fun h8 => ?_) (fun h8 => ?_)
    · rw [if_neg h8] at hf
      refine aw_iload_n X 2 dX12_core_29 rfl rfl ?_
      by_cases h9 : v2 = 0
      · rw [if_pos h9] at hf
        refine aw_tabIn X (tgt := 60) c_v2 dX12_core_30 (by omega) (by omega) (by rw [h9]; rfl) (by decide) ?_
        refine aw_aload_n X 0 dX12_core_60 rfl rfl ?_
        refine aw_iload_n X 1 dX12_core_61 rfl rfl ?_
        obtain ⟨q10, e11, hf⟩ := z_bd hf
        refine aw_callV X [z_i v1] [] [z_i q10] cX12_303 s_758 ciX12 (C_X12_clusterOf l D cA sa ad bs v1 c_v1 (u2 σ 758 0 0) q10 e11) rfl ⟨(Nat.le_of_ble_eq_true rfl), (Nat.le_of_ble_eq_true rfl), (Nat.le_of_ble_eq_true rfl), (Nat.le_of_ble_eq_true rfl)⟩ rfl (Nat.le_of_ble_eq_true rfl) rfl dX12_core_62 (fun p12 => ?_)
        obtain rfl := Option.some.inj hf
        exact aw_iret X p12 hr rfl dX12_core_65
      rw [if_neg h9] at hf
      by_cases h13 : v2 = 1
      · rw [if_pos h13] at hf
        refine aw_tabIn X (tgt := 66) c_v2 dX12_core_30 (by omega) (by omega) (by rw [h13]; rfl) (by decide) ?_
        refine aw_aload_n X 0 dX12_core_66 rfl rfl ?_
        refine aw_getR X s_758 fX12_63 rfl dX12_core_67 ?_
        refine aw_bipush X dX12_core_70 (by decide) ?_
        refine aw_iload_n X 1 dX12_core_72 rfl rfl ?_
        refine aw_iadd X dX12_core_73 ?_
        obtain ⟨g14, hf⟩ := z_gd hf
        refine aw_iald X (j := (z_w (9 + v1)).toNat) s_776 (z_w_in _) g14.1 g14.2 rfl dX12_core_74 (fun c15 => ?_)
        obtain rfl := Option.some.inj hf
        exact aw_iret X c15 hr rfl dX12_core_75
      rw [if_neg h13] at hf
      by_cases h16 : v2 = 2
      · rw [if_pos h16] at hf
        refine aw_tabIn X (tgt := 76) c_v2 dX12_core_30 (by omega) (by omega) (by rw [h16]; rfl) (by decide) ?_
        refine aw_aload_n X 0 dX12_core_76 rfl rfl ?_
        refine aw_getR X s_758 fX12_63 rfl dX12_core_77 ?_
        refine aw_bipush X dX12_core_80 (by decide) ?_
        refine aw_iload_n X 1 dX12_core_82 rfl rfl ?_
        refine aw_iadd X dX12_core_83 ?_
        obtain ⟨g17, hf⟩ := z_gd hf
        refine aw_iald X (j := (z_w (15 + v1)).toNat) s_776 (z_w_in _) g17.1 g17.2 rfl dX12_core_84 (fun c18 => ?_)
        obtain rfl := Option.some.inj hf
        exact aw_iret X c18 hr rfl dX12_core_85
      rw [if_neg h16] at hf
      by_cases h19 : v2 = 3
      · rw [if_pos h19] at hf
        refine aw_tabIn X (tgt := 86) c_v2 dX12_core_30 (by omega) (by omega) (by rw [h19]; rfl) (by decide) ?_
        refine aw_aload_n X 0 dX12_core_86 rfl rfl ?_
        refine aw_iload_n X 1 dX12_core_87 rfl rfl ?_
        obtain ⟨q20, e21, hf⟩ := z_bd hf
        refine aw_callV X [z_i v1] [] [z_i q20] cX12_466 s_758 ciX12 (C_X12_tasksOn l D cA sa ad bs v1 c_v1 (u2 σ 758 0 0) q20 e21) rfl ⟨(Nat.le_of_ble_eq_true rfl), (Nat.le_of_ble_eq_true rfl), (Nat.le_of_ble_eq_true rfl), (Nat.le_of_ble_eq_true rfl)⟩ rfl (Nat.le_of_ble_eq_true rfl) rfl dX12_core_88 (fun p22 => ?_)
        obtain rfl := Option.some.inj hf
        exact aw_iret X p22 hr rfl dX12_core_91
      rw [if_neg h19] at hf
      refine aw_tabOut X (tgt := 92) c_v2 dX12_core_30 (by omega) (by decide) ?_
      refine aw_aload_n X 0 dX12_core_92 rfl rfl ?_
      refine aw_aload_n X 0 dX12_core_93 rfl rfl ?_
      refine aw_iload_n X 1 dX12_core_94 rfl rfl ?_
      obtain ⟨q23, e24, hf⟩ := z_bd hf
      refine aw_callV X [z_i v1] [.ref (ad 758)] [z_i q23, .ref (ad 758)] cX12_303 s_758 ciX12 (C_X12_clusterOf l D cA sa ad bs v1 c_v1 (u2 σ 758 0 0) q23 e24) rfl ⟨(Nat.le_of_ble_eq_true rfl), (Nat.le_of_ble_eq_true rfl), (Nat.le_of_ble_eq_true rfl), (Nat.le_of_ble_eq_true rfl)⟩ rfl (Nat.le_of_ble_eq_true rfl) rfl dX12_core_95 (fun p25 => ?_)
      refine aw_aload_n X 0 dX12_core_98 rfl rfl ?_
      refine aw_getR X s_758 fX12_63 rfl dX12_core_99 ?_
      refine aw_iconst X dX12_core_102 ?_
      refine aw_aload_n X 0 dX12_core_103 rfl rfl ?_
      refine aw_iload_n X 1 dX12_core_104 rfl rfl ?_
      obtain ⟨q26, e27, hf⟩ := z_bd hf
      refine aw_callV X [z_i v1] [z_i 0, .ref (ad 776), z_i q23, .ref (ad 758)] [z_i q26, z_i 0, .ref (ad 776), z_i q23, .ref (ad 758)] cX12_303 s_758 ciX12 (C_X12_clusterOf l D cA sa ad bs v1 c_v1 (u2 σ 758 0 0) q26 e27) rfl ⟨(Nat.le_of_ble_eq_true rfl), (Nat.le_of_ble_eq_true rfl), (Nat.le_of_ble_eq_true rfl), (Nat.le_of_ble_eq_true rfl)⟩ rfl (Nat.le_of_ble_eq_true rfl) rfl dX12_core_105 (fun p28 => ?_)
      refine aw_iadd X dX12_core_108 ?_
      obtain ⟨g29, hf⟩ := z_gd hf
      refine aw_iald X (j := (z_w (0 + q26)).toNat) s_776 (z_w_in _) g29.1 g29.2 rfl dX12_core_109 (fun c30 => ?_)
      obtain ⟨q31, e32, hf⟩ := z_bd hf
      refine aw_callV X [z_i q23, z_i ((u2 σ 758 0 0) 776 (z_w (0 + q26)).toNat)] [] [z_i q31] cX12_249 s_758 ciX12 (C_X12_speed l D cA sa ad bs q23 p25 ((u2 σ 758 0 0) 776 (z_w (0 + q26)).toNat) c30 (u2 σ 758 0 0) q31 e32) rfl ⟨(Nat.le_of_ble_eq_true rfl), (Nat.le_of_ble_eq_true rfl), (Nat.le_of_ble_eq_true rfl), (Nat.le_of_ble_eq_true rfl)⟩ rfl (Nat.le_of_ble_eq_true rfl) rfl dX12_core_110 (fun p33 => ?_)
      refine aw_aload_n X 0 dX12_core_113 rfl rfl ?_
      refine aw_iload_n X 1 dX12_core_114 rfl rfl ?_
      obtain ⟨q34, e35, hf⟩ := z_bd hf
      refine aw_callV X [z_i v1] [z_i q31] [z_i q34, z_i q31] cX12_469 s_758 ciX12 (C_X12_sharesOn l D cA sa ad bs v1 c_v1 (u2 σ 758 0 0) q34 e35) rfl ⟨(Nat.le_of_ble_eq_true rfl), (Nat.le_of_ble_eq_true rfl), (Nat.le_of_ble_eq_true rfl), (Nat.le_of_ble_eq_true rfl)⟩ rfl (Nat.le_of_ble_eq_true rfl) rfl dX12_core_115 (fun p36 => ?_)
      refine aw_isub X dX12_core_118 ?_
      obtain rfl := Option.some.inj hf
      exact aw_iret X (z_w_in _) hr rfl dX12_core_119
    · rw [if_pos h8] at hf
      refine aw_ldcw X (x := (-1000000)) dX12_core_25 kX12_431 (by decide) ?_
      obtain rfl := Option.some.inj hf
      exact aw_iret X (z_lit (x := (-1000000)) (by decide)) hr rfl dX12_core_28
-- SpeedDeskModel.task(II)I
section S_X12_task
variable {p : Program} {l : Launch} {e : Env} {s : State} {m : MethodId} {args : Array Value} {below : List Frame} {meth : Method} {c : Code} {D : va_G} {cA : Nat → ClassId} {sa ad : Nat → Nat} {bs : Nat} {q : (Int × (Nat → Nat → Int))}

end S_X12_task
set_option maxHeartbeats 4000000 in
set_option maxRecDepth 100000 in
theorem C_X12_task (l : Launch) (D : va_G) (cA : Nat → ClassId) (sa ad : Nat → Nat) (bs : Nat) (v1 : Int) (c_v1 : Z_I v1) (v2 : Int) (c_v2 : Z_I v2) (σ : Nat → Nat → Int) (q : (Int × (Nat → Nat → Int))) (hf : f_X12_task v1 v2 σ = some q) : AM l D cA sa ad bs 788 SHp yX12_task cX12_task 3 (some .int) 2 [.ref (ad 758), z_i v1, z_i v2] σ (some (z_i q.1)) (Z_I q.1) q.2 := by
  refine am_of (by decide +kernel) (Nat.le_of_ble_eq_true rfl) (fun p e s m args below meth c X hr => ?_)
  refine aw_lv (lv' := [(0, .ref (ad 758)), (1, z_i v1), (2, z_i v2)]) rfl ?_
  unfold f_X12_task at hf
  refine aw_aload_n X 0 dX12_task_0 rfl rfl ?_
  refine aw_iconst X dX12_task_1 ?_
  refine aw_putI X s_758 pX12_101 rfl (z_lit (x := 0) (by decide)) dX12_task_2 ?_
  refine aw_aload_n X 0 dX12_task_5 rfl rfl ?_
  refine aw_iload_n X 1 dX12_task_6 rfl rfl ?_
  obtain ⟨q1, e2, hf⟩ := z_bd hf
  refine aw_callV X [z_i v1] [] [z_i q1] cX12_339 s_758 ciX12 (C_X12_isTask l D cA sa ad bs v1 c_v1 (u2 σ 758 0 0) q1 e2) rfl ⟨(Nat.le_of_ble_eq_true rfl), (Nat.le_of_ble_eq_true rfl), (Nat.le_of_ble_eq_true rfl), (Nat.le_of_ble_eq_true rfl)⟩ rfl (Nat.le_of_ble_eq_true rfl) rfl dX12_task_7 (fun p3 => ?_)
  refine aw_if_eq X (tgt := 25) (z_zI p3) dX12_task_10 (by decide) (fun h4 => ?_) (fun h4 => ?_)
  · rw [if_pos h4] at hf
    refine aw_iconst X dX12_task_25 ?_
    obtain rfl := Option.some.inj hf
    exact aw_iret X (z_lit (x := (-1)) (by decide)) hr rfl dX12_task_26
  · rw [if_neg h4] at hf
    refine aw_iload_n X 2 dX12_task_13 rfl rfl ?_
    refine aw_i2l X c_v2 dX12_task_14 ?_
    refine aw_lconst X (x := 0) dX12_task_15 (by decide) ?_
    refine aw_ldc2 X (x := 7) dX12_task_16 kX12_460 (by decide) ?_
    obtain ⟨q5, e6, hf⟩ := z_bd hf
    refine aw_callS X [z_v v2, z_v 0, z_v 7] [] [z_i q5] cX12_156 (C_X12_isIn l D cA sa ad bs v2 (z_IL c_v2) 0 (z_litL (x := 0) (by decide)) 7 (z_litL (x := 7) (by decide)) (u2 σ 758 0 0) q5 e6) rfl ⟨(Nat.le_of_ble_eq_true rfl), (Nat.le_of_ble_eq_true rfl), (Nat.le_of_ble_eq_true rfl), (Nat.le_of_ble_eq_true rfl)⟩ rfl (Nat.le_of_ble_eq_true rfl) rfl dX12_task_19 (fun p7 => ?_)
    refine aw_if_ne X (tgt := 27) (z_zI p7) dX12_task_22 (by decide) (fun h8 => ?_) (fun h8 => ?_)
    · rw [if_neg h8] at hf
      refine aw_iload_n X 2 dX12_task_27 rfl rfl ?_
      refine aw_iconst X dX12_task_28 ?_
      refine aw_icmp_ge X (tgt := 45) c_v2 (z_lit (x := 2) (by decide)) dX12_task_29 (by decide) (fun h9 => ?_) (fun h9 => ?_)
      · rw [if_pos h9] at hf
        refine aw_iload_n X 2 dX12_task_45 rfl rfl ?_
        refine aw_bipush X dX12_task_46 (by decide) ?_
        refine aw_icmp_ne X (tgt := 63) c_v2 (z_lit (x := 7) (by decide)) dX12_task_48 (by decide) (fun h10 => ?_) (fun h10 => ?_)
        · rw [if_neg h10] at hf
          refine aw_aload_n X 0 dX12_task_63 rfl rfl ?_
          refine aw_getR X s_758 fX12_63 rfl dX12_task_64 ?_
          refine aw_bipush X dX12_task_67 (by decide) ?_
          refine aw_iconst X dX12_task_69 ?_
          refine aw_iload_n X 2 dX12_task_70 rfl rfl ?_
          refine aw_iconst X dX12_task_71 ?_
          refine aw_isub X dX12_task_72 ?_
          refine aw_imul X dX12_task_73 ?_
          refine aw_iadd X dX12_task_74 ?_
          refine aw_iload_n X 1 dX12_task_75 rfl rfl ?_
          refine aw_iadd X dX12_task_76 ?_
          obtain ⟨g11, hf⟩ := z_gd hf
          refine aw_iald X (j := (z_w ((z_w (21 + (z_w (4 * (z_w (v2 - 2)))))) + v1)).toNat) s_776 (z_w_in _) g11.1 g11.2 rfl dX12_task_77 (fun c12 => ?_)
          obtain rfl := Option.some.inj hf
          exact aw_iret X c12 hr rfl dX12_task_78
        · rw [if_pos h10] at hf
          refine aw_aload_n X 0 dX12_task_51 rfl rfl ?_
          refine aw_aload_n X 0 dX12_task_52 rfl rfl ?_
          refine aw_getR X s_758 fX12_63 rfl dX12_task_53 ?_
          refine aw_iload_n X 1 dX12_task_56 rfl rfl ?_
          obtain ⟨q13, e14, hf⟩ := z_bd hf
          refine aw_callV X [.ref (ad 776), z_i v1] [] [z_i q13] cX12_435 s_758 ciX12 (C_X12_shareOf l D cA sa ad bs 776 s_776 v1 c_v1 (u2 σ 758 0 0) q13 e14) rfl ⟨(Nat.le_of_ble_eq_true rfl), (Nat.le_of_ble_eq_true rfl), (Nat.le_of_ble_eq_true rfl), (Nat.le_of_ble_eq_true rfl)⟩ rfl (Nat.le_of_ble_eq_true rfl) rfl dX12_task_57 (fun p15 => ?_)
          refine aw_goto X (tgt := 78) dX12_task_60 (by decide) ?_
          obtain rfl := Option.some.inj hf
          exact aw_iret X p15 hr rfl dX12_task_78
      · rw [if_neg h9] at hf
        refine aw_aload_n X 0 dX12_task_32 rfl rfl ?_
        refine aw_getR X s_758 fX12_35 rfl dX12_task_33 ?_
        refine aw_iconst X dX12_task_36 ?_
        refine aw_iload_n X 1 dX12_task_37 rfl rfl ?_
        refine aw_imul X dX12_task_38 ?_
        refine aw_iload_n X 2 dX12_task_39 rfl rfl ?_
        refine aw_iadd X dX12_task_40 ?_
        obtain ⟨g16, hf⟩ := z_gd hf
        refine aw_iald X (j := (z_w ((z_w (2 * v1)) + v2)).toNat) s_767 (z_w_in _) g16.1 g16.2 rfl dX12_task_41 (fun c17 => ?_)
        refine aw_goto X (tgt := 78) dX12_task_42 (by decide) ?_
        obtain rfl := Option.some.inj hf
        exact aw_iret X c17 hr rfl dX12_task_78
    · rw [if_pos h8] at hf
      refine aw_iconst X dX12_task_25 ?_
      obtain rfl := Option.some.inj hf
      exact aw_iret X (z_lit (x := (-1)) (by decide)) hr rfl dX12_task_26
-- SpeedDeskModel.letterOf(JI)I
section S_X12_letterOf
variable {p : Program} {l : Launch} {e : Env} {s : State} {m : MethodId} {args : Array Value} {below : List Frame} {meth : Method} {c : Code} {D : va_G} {cA : Nat → ClassId} {sa ad : Nat → Nat} {bs : Nat} {q : Int}
set_option maxHeartbeats 4000000 in
set_option maxRecDepth 100000 in
theorem A_X12_letterOf_25 (X : AX p s m args meth c D cA sa bs cX12_letterOf 4 RX12) (hr : meth.sig.returnType = (some .int)) (σ : Nat → Nat → Int) (v0 : Int) (c_v0 : Z_L v0) (v2 : Int) (c_v2 : Z_I v2) (v3 : Int) (c_v3 : Z_I v3) (hf : f_X12_letterOf_25 v0 v2 v3 σ = some q) : AW p l e (ax_rm 1 0 0) s m args below meth c D cA ad bs 788 SHp 0 0 (ax_MQ below args s D cA ad bs 788 SHp 0 0 (some (z_i q)) (Z_I q) σ) 4 25 [(0, z_v v0), (2, z_i v2), (3, z_i v3)] [] σ := by
  unfold f_X12_letterOf_25 at hf
  refine aw_iload_n X 1 dX12_letterOf_25 rfl rfl ?_
  refine aw_i2l X c_v2 dX12_letterOf_26 ?_
  refine aw_lconst X (x := 0) dX12_letterOf_27 (by decide) ?_
  refine aw_iload_n X 2 dX12_letterOf_28 rfl rfl ?_
  refine aw_iconst X dX12_letterOf_29 ?_
  refine aw_isub X dX12_letterOf_30 ?_
  refine aw_i2l X (z_w_in _) dX12_letterOf_31 ?_
  obtain ⟨q3, e4, hf⟩ := z_bd hf
  refine aw_callS X [z_v v2, z_v 0, z_v (z_w (v3 - 1))] [] [z_i q3] cX12_156 (C_X12_isIn l D cA sa ad bs v2 (z_IL c_v2) 0 (z_litL (x := 0) (by decide)) (z_w (v3 - 1)) (z_IL (z_w_in _)) σ q3 e4) rfl ⟨(Nat.le_of_ble_eq_true rfl), (Nat.le_of_ble_eq_true rfl), (Nat.le_of_ble_eq_true rfl), (Nat.le_of_ble_eq_true rfl)⟩ rfl (Nat.le_of_ble_eq_true rfl) rfl dX12_letterOf_32 (fun p5 => ?_)
  refine aw_if_eq X (tgt := 56) (z_zI p5) dX12_letterOf_35 (by decide) (fun h6 => ?_) (fun h6 => ?_)
  · rw [if_pos h6] at hf
    refine aw_iconst X dX12_letterOf_56 ?_
    obtain rfl := Option.some.inj hf
    exact aw_iret X (z_lit (x := (-1)) (by decide)) hr rfl dX12_letterOf_57
  · rw [if_neg h6] at hf
    refine aw_lload_n X 0 dX12_letterOf_38 rfl rfl ?_
    refine aw_bipush X dX12_letterOf_39 (by decide) ?_
    refine aw_iload_n X 2 dX12_letterOf_41 rfl rfl ?_
    refine aw_iconst X dX12_letterOf_42 ?_
    refine aw_isub X dX12_letterOf_43 ?_
    refine aw_iload_n X 1 dX12_letterOf_44 rfl rfl ?_
    refine aw_isub X dX12_letterOf_45 ?_
    refine aw_imul X dX12_letterOf_46 ?_
    refine aw_lshr X dX12_letterOf_47 ?_
    refine aw_ldc2 X (x := 255) dX12_letterOf_48 kX12_472 (by decide) ?_
    refine aw_land X dX12_letterOf_51 ?_
    refine aw_l2i X dX12_letterOf_52 ?_
    refine aw_goto X (tgt := 57) dX12_letterOf_53 (by decide) ?_
    obtain rfl := Option.some.inj hf
    exact aw_iret X (z_w_in _) hr rfl dX12_letterOf_57
set_option maxHeartbeats 4000000 in
set_option maxRecDepth 100000 in
theorem A_X12_letterOf_2 (X : AX p s m args meth c D cA sa bs cX12_letterOf 4 RX12) (hr : meth.sig.returnType = (some .int)) (σ : Nat → Nat → Int) : ∀ (k : Nat) (v0 : Int) (c_v0 : Z_L v0) (v2 : Int) (c_v2 : Z_I v2) (v3 : Int) (c_v3 : Z_I v3), f_X12_letterOf_2 k v0 v2 v3 σ = some q → AW p l e (ax_rm 1 0 0) s m args below meth c D cA ad bs 788 SHp 0 0 (ax_MQ below args s D cA ad bs 788 SHp 0 0 (some (z_i q)) (Z_I q) σ) 4 2 [(0, z_v v0), (2, z_i v2), (3, z_i v3)] [] σ := by
  intro k
  induction k with
  | zero =>
    intro v0 c_v0 v2 c_v2 v3 c_v3 hf
    unfold f_X12_letterOf_2 at hf
    cases hf
  | succ k ih =>
    intro v0 c_v0 v2 c_v2 v3 c_v3 hf
    unfold f_X12_letterOf_2 at hf
    refine aw_iload_n X 2 dX12_letterOf_2 rfl rfl ?_
    refine aw_bipush X dX12_letterOf_3 (by decide) ?_
    refine aw_icmp_ge X (tgt := 25) c_v3 (z_lit (x := 7) (by decide)) dX12_letterOf_5 (by decide) (fun h1 => ?_) (fun h1 => ?_)
    · rw [if_pos h1] at hf
      exact A_X12_letterOf_25 X hr σ v0 c_v0 v2 c_v2 v3 c_v3 hf
    · rw [if_neg h1] at hf
      refine aw_lload_n X 0 dX12_letterOf_8 rfl rfl ?_
      refine aw_bipush X dX12_letterOf_9 (by decide) ?_
      refine aw_iload_n X 2 dX12_letterOf_11 rfl rfl ?_
      refine aw_imul X dX12_letterOf_12 ?_
      refine aw_lshr X dX12_letterOf_13 ?_
      refine aw_lconst X (x := 0) dX12_letterOf_14 (by decide) ?_
      refine aw_lcmp X (z_shrL_in _ _) (z_litL (x := 0) (by decide)) dX12_letterOf_15 ?_
      refine aw_if_eq X (tgt := 25) (z_cmp_in _ _) dX12_letterOf_16 (by decide) (fun h2 => ?_) (fun h2 => ?_)
      · rw [if_pos h2] at hf
        exact A_X12_letterOf_25 X hr σ v0 c_v0 v2 c_v2 v3 c_v3 hf
      · rw [if_neg h2] at hf
        refine aw_iinc X 2 [(3, z_i (z_w (v3 + 1))), (0, z_v v0), (2, z_i v2)] dX12_letterOf_19 rfl (by decide) rfl ?_
        refine aw_goto X (tgt := 2) dX12_letterOf_22 (by decide) ?_
        refine aw_sub [1, 2, 0] rfl ?_
        exact ih v0 c_v0 v2 c_v2 (z_w (v3 + 1)) (z_w_in _) hf
end S_X12_letterOf
set_option maxHeartbeats 4000000 in
set_option maxRecDepth 100000 in
theorem C_X12_letterOf (l : Launch) (D : va_G) (cA : Nat → ClassId) (sa ad : Nat → Nat) (bs : Nat) (v0 : Int) (c_v0 : Z_L v0) (v2 : Int) (c_v2 : Z_I v2) (σ : Nat → Nat → Int) (q : Int) (hf : f_X12_letterOf v0 v2 σ = some q) : AM l D cA sa ad bs 788 SHp yX12_letterOf cX12_letterOf 4 (some .int) 1 [z_v v0, z_i v2] σ (some (z_i q)) (Z_I q) σ := by
  refine am_of (by decide +kernel) (Nat.le_of_ble_eq_true rfl) (fun p e s m args below meth c X hr => ?_)
  refine aw_lv (lv' := [(0, z_v v0), (2, z_i v2)]) rfl ?_
  unfold f_X12_letterOf at hf
  refine aw_iconst X dX12_letterOf_0 ?_
  refine aw_istore_n X [(3, z_i 0), (0, z_v v0), (2, z_i v2)] dX12_letterOf_1 rfl (by decide) rfl ?_
  refine aw_sub [1, 2, 0] rfl ?_
  exact A_X12_letterOf_2 X hr σ 100000 v0 c_v0 v2 c_v2 0 (z_lit (x := 0) (by decide)) hf
-- SpeedDeskModel.name(III)I
section S_X12_name
variable {p : Program} {l : Launch} {e : Env} {s : State} {m : MethodId} {args : Array Value} {below : List Frame} {meth : Method} {c : Code} {D : va_G} {cA : Nat → ClassId} {sa ad : Nat → Nat} {bs : Nat} {q : (Int × (Nat → Nat → Int))}

end S_X12_name
set_option maxHeartbeats 4000000 in
set_option maxRecDepth 100000 in
theorem C_X12_name (l : Launch) (D : va_G) (cA : Nat → ClassId) (sa ad : Nat → Nat) (bs : Nat) (v1 : Int) (c_v1 : Z_I v1) (v2 : Int) (c_v2 : Z_I v2) (v3 : Int) (c_v3 : Z_I v3) (σ : Nat → Nat → Int) (q : (Int × (Nat → Nat → Int))) (hf : f_X12_name v1 v2 v3 σ = some q) : AM l D cA sa ad bs 788 SHp yX12_name cX12_name 4 (some .int) 2 [.ref (ad 758), z_i v1, z_i v2, z_i v3] σ (some (z_i q.1)) (Z_I q.1) q.2 := by
  refine am_of (by decide +kernel) (Nat.le_of_ble_eq_true rfl) (fun p e s m args below meth c X hr => ?_)
  refine aw_lv (lv' := [(0, .ref (ad 758)), (1, z_i v1), (2, z_i v2), (3, z_i v3)]) rfl ?_
  unfold f_X12_name at hf
  refine aw_aload_n X 0 dX12_name_0 rfl rfl ?_
  refine aw_iconst X dX12_name_1 ?_
  refine aw_putI X s_758 pX12_101 rfl (z_lit (x := 0) (by decide)) dX12_name_2 ?_
  refine aw_iload_n X 1 dX12_name_5 rfl rfl ?_
  refine aw_if_ne X (tgt := 32) c_v1 dX12_name_6 (by decide) (fun h1 => ?_) (fun h1 => ?_)
  · rw [if_neg h1] at hf
    refine aw_iload_n X 1 dX12_name_32 rfl rfl ?_
    refine aw_iconst X dX12_name_33 ?_
    refine aw_icmp_ne X (tgt := 60) c_v1 (z_lit (x := 1) (by decide)) dX12_name_34 (by decide) (fun h2 => ?_) (fun h2 => ?_)
    · rw [if_neg h2] at hf
      refine aw_iload_n X 1 dX12_name_60 rfl rfl ?_
      refine aw_iconst X dX12_name_61 ?_
      refine aw_icmp_ne X (tgt := 99) c_v1 (z_lit (x := 2) (by decide)) dX12_name_62 (by decide) (fun h3 => ?_) (fun h3 => ?_)
      · rw [if_neg h3] at hf
        refine aw_iconst X dX12_name_99 ?_
        obtain rfl := Option.some.inj hf
        exact aw_iret X (z_lit (x := (-1)) (by decide)) hr rfl dX12_name_100
      · rw [if_pos h3] at hf
        refine aw_iload_n X 2 dX12_name_65 rfl rfl ?_
        refine aw_i2l X c_v2 dX12_name_66 ?_
        refine aw_lconst X (x := 0) dX12_name_67 (by decide) ?_
        refine aw_aload_n X 0 dX12_name_68 rfl rfl ?_
        refine aw_getR X s_758 fX12_63 rfl dX12_name_69 ?_
        refine aw_bipush X dX12_name_72 (by decide) ?_
        refine aw_iald X (j := 44) s_776 (z_lit (x := 44) (by decide)) (by decide) (by decide) rfl dX12_name_74 (fun c4 => ?_)
        refine aw_iconst X dX12_name_75 ?_
        refine aw_isub X dX12_name_76 ?_
        refine aw_i2l X (z_w_in _) dX12_name_77 ?_
        obtain ⟨q5, e6, hf⟩ := z_bd hf
        refine aw_callS X [z_v v2, z_v 0, z_v (z_w (((u2 σ 758 0 0) 776 44) - 1))] [] [z_i q5] cX12_156 (C_X12_isIn l D cA sa ad bs v2 (z_IL c_v2) 0 (z_litL (x := 0) (by decide)) (z_w (((u2 σ 758 0 0) 776 44) - 1)) (z_IL (z_w_in _)) (u2 σ 758 0 0) q5 e6) rfl ⟨(Nat.le_of_ble_eq_true rfl), (Nat.le_of_ble_eq_true rfl), (Nat.le_of_ble_eq_true rfl), (Nat.le_of_ble_eq_true rfl)⟩ rfl (Nat.le_of_ble_eq_true rfl) rfl dX12_name_78 (fun p7 => ?_)
        refine aw_if_eq X (tgt := 99) (z_zI p7) dX12_name_81 (by decide) (fun h8 => ?_) (fun h8 => ?_)
        · rw [if_pos h8] at hf
          refine aw_iconst X dX12_name_99 ?_
          obtain rfl := Option.some.inj hf
          exact aw_iret X (z_lit (x := (-1)) (by decide)) hr rfl dX12_name_100
        · rw [if_neg h8] at hf
          refine aw_aload_n X 0 dX12_name_84 rfl rfl ?_
          refine aw_getR X s_758 fX12_63 rfl dX12_name_85 ?_
          refine aw_iload_n X 2 dX12_name_88 rfl rfl ?_
          obtain ⟨q9, e10, hf⟩ := z_bd hf
          refine aw_callS X [.ref (ad 776), z_i v2] [] [z_v q9] cX12_282 (C_X12_nameOf l D cA sa ad bs 776 s_776 v2 c_v2 (u2 σ 758 0 0) q9 e10) rfl ⟨(Nat.le_of_ble_eq_true rfl), (Nat.le_of_ble_eq_true rfl), (Nat.le_of_ble_eq_true rfl), (Nat.le_of_ble_eq_true rfl)⟩ rfl (Nat.le_of_ble_eq_true rfl) rfl dX12_name_89 (fun p11 => ?_)
          refine aw_iload_n X 3 dX12_name_92 rfl rfl ?_
          obtain ⟨q12, e13, hf⟩ := z_bd hf
          refine aw_callS X [z_v q9, z_i v3] [] [z_i q12] cX12_474 (C_X12_letterOf l D cA sa ad bs q9 p11 v3 c_v3 (u2 σ 758 0 0) q12 e13) rfl ⟨(Nat.le_of_ble_eq_true rfl), (Nat.le_of_ble_eq_true rfl), (Nat.le_of_ble_eq_true rfl), (Nat.le_of_ble_eq_true rfl)⟩ rfl (Nat.le_of_ble_eq_true rfl) rfl dX12_name_93 (fun p14 => ?_)
          refine aw_goto X (tgt := 100) dX12_name_96 (by decide) ?_
          obtain rfl := Option.some.inj hf
          exact aw_iret X p14 hr rfl dX12_name_100
    · rw [if_pos h2] at hf
      refine aw_aload_n X 0 dX12_name_37 rfl rfl ?_
      refine aw_iload_n X 2 dX12_name_38 rfl rfl ?_
      obtain ⟨q15, e16, hf⟩ := z_bd hf
      refine aw_callV X [z_i v2] [] [z_i q15] cX12_339 s_758 ciX12 (C_X12_isTask l D cA sa ad bs v2 c_v2 (u2 σ 758 0 0) q15 e16) rfl ⟨(Nat.le_of_ble_eq_true rfl), (Nat.le_of_ble_eq_true rfl), (Nat.le_of_ble_eq_true rfl), (Nat.le_of_ble_eq_true rfl)⟩ rfl (Nat.le_of_ble_eq_true rfl) rfl dX12_name_39 (fun p17 => ?_)
      refine aw_if_eq X (tgt := 58) (z_zI p17) dX12_name_42 (by decide) (fun h18 => ?_) (fun h18 => ?_)
      · rw [if_pos h18] at hf
        refine aw_iconst X dX12_name_58 ?_
        obtain rfl := Option.some.inj hf
        exact aw_iret X (z_lit (x := (-1)) (by decide)) hr rfl dX12_name_59
      · rw [if_neg h18] at hf
        refine aw_aload_n X 0 dX12_name_45 rfl rfl ?_
        refine aw_getR X s_758 fX12_51 rfl dX12_name_46 ?_
        refine aw_iload_n X 2 dX12_name_49 rfl rfl ?_
        obtain ⟨g19, hf⟩ := z_gd hf
        refine aw_lald X (j := v2.toNat) s_772 c_v2 g19.1 g19.2 rfl dX12_name_50 (fun c20 => ?_)
        refine aw_iload_n X 3 dX12_name_51 rfl rfl ?_
        obtain ⟨q21, e22, hf⟩ := z_bd hf
        refine aw_callS X [z_v ((u2 σ 758 0 0) 772 v2.toNat), z_i v3] [] [z_i q21] cX12_474 (C_X12_letterOf l D cA sa ad bs ((u2 σ 758 0 0) 772 v2.toNat) c20 v3 c_v3 (u2 σ 758 0 0) q21 e22) rfl ⟨(Nat.le_of_ble_eq_true rfl), (Nat.le_of_ble_eq_true rfl), (Nat.le_of_ble_eq_true rfl), (Nat.le_of_ble_eq_true rfl)⟩ rfl (Nat.le_of_ble_eq_true rfl) rfl dX12_name_52 (fun p23 => ?_)
        refine aw_goto X (tgt := 59) dX12_name_55 (by decide) ?_
        obtain rfl := Option.some.inj hf
        exact aw_iret X p23 hr rfl dX12_name_59
  · rw [if_pos h1] at hf
    refine aw_aload_n X 0 dX12_name_9 rfl rfl ?_
    refine aw_iload_n X 2 dX12_name_10 rfl rfl ?_
    obtain ⟨q24, e25, hf⟩ := z_bd hf
    refine aw_callV X [z_i v2] [] [z_i q24] cX12_350 s_758 ciX12 (C_X12_isCluster l D cA sa ad bs v2 c_v2 (u2 σ 758 0 0) q24 e25) rfl ⟨(Nat.le_of_ble_eq_true rfl), (Nat.le_of_ble_eq_true rfl), (Nat.le_of_ble_eq_true rfl), (Nat.le_of_ble_eq_true rfl)⟩ rfl (Nat.le_of_ble_eq_true rfl) rfl dX12_name_11 (fun p26 => ?_)
    refine aw_if_eq X (tgt := 30) (z_zI p26) dX12_name_14 (by decide) (fun h27 => ?_) (fun h27 => ?_)
    · rw [if_pos h27] at hf
      refine aw_iconst X dX12_name_30 ?_
      obtain rfl := Option.some.inj hf
      exact aw_iret X (z_lit (x := (-1)) (by decide)) hr rfl dX12_name_31
    · rw [if_neg h27] at hf
      refine aw_aload_n X 0 dX12_name_17 rfl rfl ?_
      refine aw_getR X s_758 fX12_45 rfl dX12_name_18 ?_
      refine aw_iload_n X 2 dX12_name_21 rfl rfl ?_
      obtain ⟨g28, hf⟩ := z_gd hf
      refine aw_lald X (j := v2.toNat) s_770 c_v2 g28.1 g28.2 rfl dX12_name_22 (fun c29 => ?_)
      refine aw_iload_n X 3 dX12_name_23 rfl rfl ?_
      obtain ⟨q30, e31, hf⟩ := z_bd hf
      refine aw_callS X [z_v ((u2 σ 758 0 0) 770 v2.toNat), z_i v3] [] [z_i q30] cX12_474 (C_X12_letterOf l D cA sa ad bs ((u2 σ 758 0 0) 770 v2.toNat) c29 v3 c_v3 (u2 σ 758 0 0) q30 e31) rfl ⟨(Nat.le_of_ble_eq_true rfl), (Nat.le_of_ble_eq_true rfl), (Nat.le_of_ble_eq_true rfl), (Nat.le_of_ble_eq_true rfl)⟩ rfl (Nat.le_of_ble_eq_true rfl) rfl dX12_name_24 (fun p32 => ?_)
      refine aw_goto X (tgt := 31) dX12_name_27 (by decide) ?_
      obtain rfl := Option.some.inj hf
      exact aw_iret X p32 hr rfl dX12_name_31
-- SpeedDeskModel.asked(II)I
section S_X12_asked
variable {p : Program} {l : Launch} {e : Env} {s : State} {m : MethodId} {args : Array Value} {below : List Frame} {meth : Method} {c : Code} {D : va_G} {cA : Nat → ClassId} {sa ad : Nat → Nat} {bs : Nat} {q : (Int × (Nat → Nat → Int))}

end S_X12_asked
set_option maxHeartbeats 4000000 in
set_option maxRecDepth 100000 in
theorem C_X12_asked (l : Launch) (D : va_G) (cA : Nat → ClassId) (sa ad : Nat → Nat) (bs : Nat) (v1 : Int) (c_v1 : Z_I v1) (v2 : Int) (c_v2 : Z_I v2) (σ : Nat → Nat → Int) (q : (Int × (Nat → Nat → Int))) (hf : f_X12_asked v1 v2 σ = some q) : AM l D cA sa ad bs 788 SHp yX12_asked cX12_asked 3 (some .int) 1 [.ref (ad 758), z_i v1, z_i v2] σ (some (z_i q.1)) (Z_I q.1) q.2 := by
  refine am_of (by decide +kernel) (Nat.le_of_ble_eq_true rfl) (fun p e s m args below meth c X hr => ?_)
  refine aw_lv (lv' := [(0, .ref (ad 758)), (1, z_i v1), (2, z_i v2)]) rfl ?_
  unfold f_X12_asked at hf
  refine aw_aload_n X 0 dX12_asked_0 rfl rfl ?_
  refine aw_iconst X dX12_asked_1 ?_
  refine aw_putI X s_758 pX12_101 rfl (z_lit (x := 0) (by decide)) dX12_asked_2 ?_
  refine aw_iload_n X 1 dX12_asked_5 rfl rfl ?_
  refine aw_i2l X c_v1 dX12_asked_6 ?_
  refine aw_lconst X (x := 0) dX12_asked_7 (by decide) ?_
  refine aw_aload_n X 0 dX12_asked_8 rfl rfl ?_
  refine aw_getR X s_758 fX12_63 rfl dX12_asked_9 ?_
  refine aw_bipush X dX12_asked_12 (by decide) ?_
  refine aw_iald X (j := 44) s_776 (z_lit (x := 44) (by decide)) (by decide) (by decide) rfl dX12_asked_14 (fun c1 => ?_)
  refine aw_iconst X dX12_asked_15 ?_
  refine aw_isub X dX12_asked_16 ?_
  refine aw_i2l X (z_w_in _) dX12_asked_17 ?_
  obtain ⟨q2, e3, hf⟩ := z_bd hf
  refine aw_callS X [z_v v1, z_v 0, z_v (z_w (((u2 σ 758 0 0) 776 44) - 1))] [] [z_i q2] cX12_156 (C_X12_isIn l D cA sa ad bs v1 (z_IL c_v1) 0 (z_litL (x := 0) (by decide)) (z_w (((u2 σ 758 0 0) 776 44) - 1)) (z_IL (z_w_in _)) (u2 σ 758 0 0) q2 e3) rfl ⟨(Nat.le_of_ble_eq_true rfl), (Nat.le_of_ble_eq_true rfl), (Nat.le_of_ble_eq_true rfl), (Nat.le_of_ble_eq_true rfl)⟩ rfl (Nat.le_of_ble_eq_true rfl) rfl dX12_asked_18 (fun p4 => ?_)
  refine aw_if_eq X (tgt := 52) (z_zI p4) dX12_asked_21 (by decide) (fun h5 => ?_) (fun h5 => ?_)
  · rw [if_pos h5] at hf
    refine aw_iconst X dX12_asked_52 ?_
    obtain rfl := Option.some.inj hf
    exact aw_iret X (z_lit (x := (-1)) (by decide)) hr rfl dX12_asked_53
  · rw [if_neg h5] at hf
    refine aw_iload_n X 2 dX12_asked_24 rfl rfl ?_
    refine aw_i2l X c_v2 dX12_asked_25 ?_
    refine aw_lconst X (x := 0) dX12_asked_26 (by decide) ?_
    refine aw_ldc2 X (x := 2) dX12_asked_27 kX12_219 (by decide) ?_
    obtain ⟨q6, e7, hf⟩ := z_bd hf
    refine aw_callS X [z_v v2, z_v 0, z_v 2] [] [z_i q6] cX12_156 (C_X12_isIn l D cA sa ad bs v2 (z_IL c_v2) 0 (z_litL (x := 0) (by decide)) 2 (z_litL (x := 2) (by decide)) (u2 σ 758 0 0) q6 e7) rfl ⟨(Nat.le_of_ble_eq_true rfl), (Nat.le_of_ble_eq_true rfl), (Nat.le_of_ble_eq_true rfl), (Nat.le_of_ble_eq_true rfl)⟩ rfl (Nat.le_of_ble_eq_true rfl) rfl dX12_asked_30 (fun p8 => ?_)
    refine aw_if_eq X (tgt := 52) (z_zI p8) dX12_asked_33 (by decide) (fun h9 => ?_) (fun h9 => ?_)
    · rw [if_pos h9] at hf
      refine aw_iconst X dX12_asked_52 ?_
      obtain rfl := Option.some.inj hf
      exact aw_iret X (z_lit (x := (-1)) (by decide)) hr rfl dX12_asked_53
    · rw [if_neg h9] at hf
      refine aw_aload_n X 0 dX12_asked_36 rfl rfl ?_
      refine aw_getR X s_758 fX12_63 rfl dX12_asked_37 ?_
      refine aw_bipush X dX12_asked_40 (by decide) ?_
      refine aw_iconst X dX12_asked_42 ?_
      refine aw_iload_n X 1 dX12_asked_43 rfl rfl ?_
      refine aw_imul X dX12_asked_44 ?_
      refine aw_iadd X dX12_asked_45 ?_
      refine aw_iload_n X 2 dX12_asked_46 rfl rfl ?_
      refine aw_iadd X dX12_asked_47 ?_
      obtain ⟨g10, hf⟩ := z_gd hf
      refine aw_iald X (j := (z_w ((z_w (47 + (z_w (5 * v1)))) + v2)).toNat) s_776 (z_w_in _) g10.1 g10.2 rfl dX12_asked_48 (fun c11 => ?_)
      refine aw_goto X (tgt := 53) dX12_asked_49 (by decide) ?_
      obtain rfl := Option.some.inj hf
      exact aw_iret X c11 hr rfl dX12_asked_53
-- SpeedDeskModel.paceOf(IIIIZ)I
section S_X12_paceOf
variable {p : Program} {l : Launch} {e : Env} {s : State} {m : MethodId} {args : Array Value} {below : List Frame} {meth : Method} {c : Code} {D : va_G} {cA : Nat → ClassId} {sa ad : Nat → Nat} {bs : Nat} {q : Int}
set_option maxHeartbeats 4000000 in
set_option maxRecDepth 100000 in
theorem A_X12_paceOf_54 (X : AX p s m args meth c D cA sa bs cX12_paceOf 8 RX12) (hr : meth.sig.returnType = (some .int)) (σ : Nat → Nat → Int) (v1 : Int) (c_v1 : Z_I v1) (v2 : Int) (c_v2 : Z_I v2) (v3 : Int) (c_v3 : Z_I v3) (t0 : Int) (c_t0 : Z_I t0) (hf : f_X12_paceOf_54 v1 v2 v3 t0 σ = some q) : AW p l e (ax_rm 1 0 0) s m args below meth c D cA ad bs 788 SHp 0 0 (ax_MQ below args s D cA ad bs 788 SHp 0 0 (some (z_i q)) (Z_I q) σ) 8 54 [(0, .ref (ad 758)), (1, z_i v1), (2, z_i v2), (3, z_i v3)] [z_i t0] σ := by
  unfold f_X12_paceOf_54 at hf
  refine aw_istore X [(7, z_i t0), (0, .ref (ad 758)), (1, z_i v1), (2, z_i v2), (3, z_i v3)] dX12_paceOf_54 (by decide) rfl ?_
  refine aw_aload_n X 1 dX12_paceOf_56 rfl rfl ?_
  refine aw_iload_n X 2 dX12_paceOf_57 rfl rfl ?_
  refine aw_iload_n X 3 dX12_paceOf_58 rfl rfl ?_
  obtain ⟨q12, e13, hf⟩ := z_bd hf
  refine aw_callV X [z_i v1, z_i v2] [] [z_i q12] cX12_316 s_758 ciX12 (C_X12_cost l D cA sa ad bs v1 c_v1 v2 c_v2 σ q12 e13) rfl ⟨(Nat.le_of_ble_eq_true rfl), (Nat.le_of_ble_eq_true rfl), (Nat.le_of_ble_eq_true rfl), (Nat.le_of_ble_eq_true rfl)⟩ rfl (Nat.le_of_ble_eq_true rfl) rfl dX12_paceOf_59 (fun p14 => ?_)
  refine aw_iload_n X 4 dX12_paceOf_62 rfl rfl ?_
  refine aw_imul X dX12_paceOf_63 ?_
  refine aw_aload_n X 1 dX12_paceOf_64 rfl rfl ?_
  refine aw_getR X s_758 fX12_23 rfl dX12_paceOf_65 ?_
  refine aw_iconst X dX12_paceOf_68 ?_
  refine aw_iload_n X 2 dX12_paceOf_69 rfl rfl ?_
  refine aw_imul X dX12_paceOf_70 ?_
  refine aw_iconst X dX12_paceOf_71 ?_
  refine aw_iadd X dX12_paceOf_72 ?_
  obtain ⟨g15, hf⟩ := z_gd hf
  refine aw_iald X (j := (z_w ((z_w (4 * v1)) + 1)).toNat) s_763 (z_w_in _) g15.1 g15.2 rfl dX12_paceOf_73 (fun c16 => ?_)
  refine aw_iload X 0 dX12_paceOf_74 rfl ?_
  refine aw_imul X dX12_paceOf_76 ?_
  refine aw_iadd X dX12_paceOf_77 ?_
  obtain rfl := Option.some.inj hf
  exact aw_iret X (z_w_in _) hr rfl dX12_paceOf_78
end S_X12_paceOf
set_option maxHeartbeats 4000000 in
set_option maxRecDepth 100000 in
theorem C_X12_paceOf (l : Launch) (D : va_G) (cA : Nat → ClassId) (sa ad : Nat → Nat) (bs : Nat) (v1 : Int) (c_v1 : Z_I v1) (v2 : Int) (c_v2 : Z_I v2) (v3 : Int) (c_v3 : Z_I v3) (v4 : Int) (c_v4 : Z_I v4) (v5 : Int) (c_v5 : Z_I v5) (σ : Nat → Nat → Int) (q : Int) (hf : f_X12_paceOf v1 v2 v3 v4 v5 σ = some q) : AM l D cA sa ad bs 788 SHp yX12_paceOf cX12_paceOf 8 (some .int) 1 [.ref (ad 758), z_i v1, z_i v2, z_i v3, z_i v4, z_i v5] σ (some (z_i q)) (Z_I q) σ := by
  refine am_of (by decide +kernel) (Nat.le_of_ble_eq_true rfl) (fun p e s m args below meth c X hr => ?_)
  refine aw_lv (lv' := [(0, .ref (ad 758)), (1, z_i v1), (2, z_i v2), (3, z_i v3), (4, z_i v4), (5, z_i v5)]) rfl ?_
  unfold f_X12_paceOf at hf
  refine aw_iload_n X 3 dX12_paceOf_0 rfl rfl ?_
  refine aw_aload_n X 0 dX12_paceOf_1 rfl rfl ?_
  refine aw_iload_n X 1 dX12_paceOf_2 rfl rfl ?_
  refine aw_iload_n X 2 dX12_paceOf_3 rfl rfl ?_
  obtain ⟨q1, e2, hf⟩ := z_bd hf
  refine aw_callV X [z_i v1, z_i v2] [z_i v3] [z_i q1, z_i v3] cX12_249 s_758 ciX12 (C_X12_speed l D cA sa ad bs v1 c_v1 v2 c_v2 σ q1 e2) rfl ⟨(Nat.le_of_ble_eq_true rfl), (Nat.le_of_ble_eq_true rfl), (Nat.le_of_ble_eq_true rfl), (Nat.le_of_ble_eq_true rfl)⟩ rfl (Nat.le_of_ble_eq_true rfl) rfl dX12_paceOf_4 (fun p3 => ?_)
  obtain ⟨q4, e5, hf⟩ := z_bd hf
  refine aw_callS X [z_i v3, z_i q1] [] [z_i q4] cX12_432 (C_X12_up l D cA sa ad bs v3 c_v3 q1 p3 σ q4 e5) rfl ⟨(Nat.le_of_ble_eq_true rfl), (Nat.le_of_ble_eq_true rfl), (Nat.le_of_ble_eq_true rfl), (Nat.le_of_ble_eq_true rfl)⟩ rfl (Nat.le_of_ble_eq_true rfl) rfl dX12_paceOf_7 (fun p6 => ?_)
  refine aw_istore X [(6, z_i q4), (0, .ref (ad 758)), (1, z_i v1), (2, z_i v2), (3, z_i v3), (4, z_i v4), (5, z_i v5)] dX12_paceOf_10 (by decide) rfl ?_
  refine aw_iload X 0 dX12_paceOf_12 rfl ?_
  refine aw_iload X 5 dX12_paceOf_14 rfl ?_
  refine aw_icmp_le X (tgt := 21) p6 c_v4 dX12_paceOf_16 (by decide) (fun h7 => ?_) (fun h7 => ?_)
  · rw [if_pos h7] at hf
    refine aw_iload X 6 dX12_paceOf_21 rfl ?_
    refine aw_if_eq X (tgt := 52) c_v5 dX12_paceOf_23 (by decide) (fun h8 => ?_) (fun h8 => ?_)
    · simp only [if_pos h8] at hf
      refine aw_iload X 5 dX12_paceOf_52 rfl ?_
      refine aw_sub [1, 2, 3, 4] rfl ?_
      exact A_X12_paceOf_54 X hr σ v1 c_v1 v2 c_v2 v3 c_v3 v4 c_v4 hf
    · simp only [if_neg h8] at hf
      refine aw_iload X 0 dX12_paceOf_26 rfl ?_
      refine aw_aload_n X 1 dX12_paceOf_28 rfl rfl ?_
      refine aw_getR X s_758 fX12_17 rfl dX12_paceOf_29 ?_
      refine aw_iconst X dX12_paceOf_32 ?_
      refine aw_iald X (j := 2) s_761 (z_lit (x := 2) (by decide)) (by decide) (by decide) rfl dX12_paceOf_33 (fun c9 => ?_)
      refine aw_iadd X dX12_paceOf_34 ?_
      refine aw_iload X 5 dX12_paceOf_35 rfl ?_
      refine aw_icmp_ge X (tgt := 52) (z_w_in _) c_v4 dX12_paceOf_37 (by decide) (fun h10 => ?_) (fun h10 => ?_)
      · simp only [if_pos h10] at hf
        refine aw_iload X 5 dX12_paceOf_52 rfl ?_
        refine aw_sub [1, 2, 3, 4] rfl ?_
        exact A_X12_paceOf_54 X hr σ v1 c_v1 v2 c_v2 v3 c_v3 v4 c_v4 hf
      · simp only [if_neg h10] at hf
        refine aw_iload X 0 dX12_paceOf_40 rfl ?_
        refine aw_aload_n X 1 dX12_paceOf_42 rfl rfl ?_
        refine aw_getR X s_758 fX12_17 rfl dX12_paceOf_43 ?_
        refine aw_iconst X dX12_paceOf_46 ?_
        refine aw_iald X (j := 2) s_761 (z_lit (x := 2) (by decide)) (by decide) (by decide) rfl dX12_paceOf_47 (fun c11 => ?_)
        refine aw_iadd X dX12_paceOf_48 ?_
        refine aw_goto X (tgt := 54) dX12_paceOf_49 (by decide) ?_
        refine aw_sub [1, 2, 3, 4] rfl ?_
        exact A_X12_paceOf_54 X hr σ v1 c_v1 v2 c_v2 v3 c_v3 (z_w (q4 + (σ 761 2))) (z_w_in _) hf
  · rw [if_neg h7] at hf
    refine aw_iconst X dX12_paceOf_19 ?_
    obtain rfl := Option.some.inj hf
    exact aw_iret X (z_lit (x := (-1)) (by decide)) hr rfl dX12_paceOf_20
