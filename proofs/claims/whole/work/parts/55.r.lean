-- SpeedDeskModel.years(IJ)I
section S_X12_years
variable {p : Program} {l : Launch} {e : Env} {s : State} {m : MethodId} {args : Array Value} {below : List Frame} {meth : Method} {c : Code} {D : va_G} {cA : Nat → ClassId} {sa ad : Nat → Nat} {bs : Nat} {q : (Int × (Nat → Nat → Int))}
set_option maxHeartbeats 4000000 in
set_option maxRecDepth 100000 in
theorem A_X12_years_34 (X : AX p s m args meth c D cA sa bs cX12_years 5 RX12) (hr : meth.sig.returnType = (some .int)) : ∀ (k : Nat) (v1 : Int) (c_v1 : Z_I v1) (v4 : Int) (c_v4 : Z_I v4) (σ : Nat → Nat → Int), f_X12_years_34 k v1 v4 σ = some q → AW p l e (ax_rm 10 0 0) s m args below meth c D cA ad bs 788 SHp 0 0 (ax_MQ below args s D cA ad bs 788 SHp 0 0 (some (z_i q.1)) (Z_I q.1) q.2) 5 34 [(0, .ref (ad 758)), (1, z_i v1), (4, z_i v4)] [] σ := by
  intro k
  induction k with
  | zero =>
    intro v1 c_v1 v4 c_v4 σ hf
    unfold f_X12_years_34 at hf
    cases hf
  | succ k ih =>
    intro v1 c_v1 v4 c_v4 σ hf
    unfold f_X12_years_34 at hf
    refine aw_iload X 2 dX12_years_34 rfl ?_
    refine aw_iload_n X 1 dX12_years_36 rfl rfl ?_
    refine aw_icmp_ge X (tgt := 50) c_v4 c_v1 dX12_years_37 (by decide) (fun h7 => ?_) (fun h7 => ?_)
    · rw [if_pos h7] at hf
      refine aw_aload_n X 0 dX12_years_50 rfl rfl ?_
      refine aw_getR X s_758 fX12_63 rfl dX12_years_51 ?_
      refine aw_bipush X dX12_years_54 (by decide) ?_
      refine aw_iald X (j := 41) s_776 (z_lit (x := 41) (by decide)) (by decide) (by decide) rfl dX12_years_56 (fun c8 => ?_)
      obtain rfl := Option.some.inj hf
      exact aw_iret X c8 hr rfl dX12_years_57
    · rw [if_neg h7] at hf
      refine aw_aload_n X 0 dX12_years_40 rfl rfl ?_
      obtain ⟨q9, e10, hf⟩ := z_bd hf
      refine aw_callV X [] [] [] cX12_426 s_758 ciX12 (C_X12_happens l D cA sa ad bs σ q9 e10) rfl ⟨(Nat.le_of_ble_eq_true rfl), (Nat.le_of_ble_eq_true rfl), (Nat.le_of_ble_eq_true rfl), (Nat.le_of_ble_eq_true rfl)⟩ rfl (Nat.le_of_ble_eq_true rfl) rfl dX12_years_41 (fun p11 => ?_)
      refine aw_iinc X 2 [(4, z_i (z_w (v4 + 1))), (0, .ref (ad 758)), (1, z_i v1)] dX12_years_44 rfl (by decide) rfl ?_
      refine aw_goto X (tgt := 34) dX12_years_47 (by decide) ?_
      refine aw_sub [1, 2, 0] rfl ?_
      exact ih v1 c_v1 (z_w (v4 + 1)) (z_w_in _) q9 hf
end S_X12_years
set_option maxHeartbeats 4000000 in
set_option maxRecDepth 100000 in
theorem C_X12_years (l : Launch) (D : va_G) (cA : Nat → ClassId) (sa ad : Nat → Nat) (bs : Nat) (v1 : Int) (c_v1 : Z_I v1) (v2 : Int) (c_v2 : Z_L v2) (σ : Nat → Nat → Int) (q : (Int × (Nat → Nat → Int))) (hf : f_X12_years v1 v2 σ = some q) : AM l D cA sa ad bs 788 SHp yX12_years cX12_years 5 (some .int) 10 [.ref (ad 758), z_i v1, z_v v2] σ (some (z_i q.1)) (Z_I q.1) q.2 := by
  refine am_of (by decide +kernel) (Nat.le_of_ble_eq_true rfl) (fun p e s m args below meth c X hr => ?_)
  refine aw_lv (lv' := [(0, .ref (ad 758)), (1, z_i v1), (2, z_v v2)]) rfl ?_
  unfold f_X12_years at hf
  refine aw_aload_n X 0 dX12_years_0 rfl rfl ?_
  refine aw_iconst X dX12_years_1 ?_
  refine aw_putI X s_758 pX12_101 rfl (z_lit (x := 0) (by decide)) dX12_years_2 ?_
  refine aw_aload_n X 0 dX12_years_5 rfl rfl ?_
  refine aw_getI X s_758 fX12_234 rfl dX12_years_6 (fun c1 => ?_)
  refine aw_if_eq X (tgt := 24) c1 dX12_years_9 (by decide) (fun h2 => ?_) (fun h2 => ?_)
  · rw [if_pos h2] at hf
    refine aw_iconst X dX12_years_24 ?_
    obtain rfl := Option.some.inj hf
    exact aw_iret X (z_lit (x := (-1)) (by decide)) hr rfl dX12_years_25
  · rw [if_neg h2] at hf
    refine aw_iload_n X 1 dX12_years_12 rfl rfl ?_
    refine aw_i2l X c_v1 dX12_years_13 ?_
    refine aw_lconst X (x := 1) dX12_years_14 (by decide) ?_
    refine aw_ldc2 X (x := 40) dX12_years_15 kX12_424 (by decide) ?_
    obtain ⟨q3, e4, hf⟩ := z_bd hf
    refine aw_callS X [z_v v1, z_v 1, z_v 40] [] [z_i q3] cX12_156 (C_X12_isIn l D cA sa ad bs v1 (z_IL c_v1) 1 (z_litL (x := 1) (by decide)) 40 (z_litL (x := 40) (by decide)) (u2 σ 758 0 0) q3 e4) rfl ⟨(Nat.le_of_ble_eq_true rfl), (Nat.le_of_ble_eq_true rfl), (Nat.le_of_ble_eq_true rfl), (Nat.le_of_ble_eq_true rfl)⟩ rfl (Nat.le_of_ble_eq_true rfl) rfl dX12_years_18 (fun p5 => ?_)
    refine aw_if_ne X (tgt := 26) (z_zI p5) dX12_years_21 (by decide) (fun h6 => ?_) (fun h6 => ?_)
    · rw [if_neg h6] at hf
      refine aw_aload_n X 0 dX12_years_26 rfl rfl ?_
      refine aw_lload_n X 2 dX12_years_27 rfl rfl ?_
      refine aw_putL X s_758 pX12_414 rfl c_v2 dX12_years_28 ?_
      refine aw_iconst X dX12_years_31 ?_
      refine aw_istore X [(4, z_i 0), (0, .ref (ad 758)), (1, z_i v1), (2, z_v v2)] dX12_years_32 (by decide) rfl ?_
      refine aw_sub [1, 2, 0] rfl ?_
      exact A_X12_years_34 X hr 100000 v1 c_v1 0 (z_lit (x := 0) (by decide)) (u2 (u2 σ 758 0 0) 758 43 v2) hf
    · rw [if_pos h6] at hf
      refine aw_iconst X dX12_years_24 ?_
      obtain rfl := Option.some.inj hf
      exact aw_iret X (z_lit (x := (-1)) (by decide)) hr rfl dX12_years_25
-- SpeedDeskModel.status(I)I
section S_X12_status
variable {p : Program} {l : Launch} {e : Env} {s : State} {m : MethodId} {args : Array Value} {below : List Frame} {meth : Method} {c : Code} {D : va_G} {cA : Nat → ClassId} {sa ad : Nat → Nat} {bs : Nat} {q : (Int × (Nat → Nat → Int))}

end S_X12_status
set_option maxHeartbeats 4000000 in
set_option maxRecDepth 100000 in
theorem C_X12_status (l : Launch) (D : va_G) (cA : Nat → ClassId) (sa ad : Nat → Nat) (bs : Nat) (v1 : Int) (c_v1 : Z_I v1) (σ : Nat → Nat → Int) (q : (Int × (Nat → Nat → Int))) (hf : f_X12_status v1 σ = some q) : AM l D cA sa ad bs 788 SHp yX12_status cX12_status 2 (some .int) 1 [.ref (ad 758), z_i v1] σ (some (z_i q.1)) (Z_I q.1) q.2 := by
  refine am_of (by decide +kernel) (Nat.le_of_ble_eq_true rfl) (fun p e s m args below meth c X hr => ?_)
  refine aw_lv (lv' := [(0, .ref (ad 758)), (1, z_i v1)]) rfl ?_
  unfold f_X12_status at hf
  refine aw_aload_n X 0 dX12_status_0 rfl rfl ?_
  refine aw_iconst X dX12_status_1 ?_
  refine aw_putI X s_758 pX12_101 rfl (z_lit (x := 0) (by decide)) dX12_status_2 ?_
  refine aw_iload_n X 1 dX12_status_5 rfl rfl ?_
  refine aw_i2l X c_v1 dX12_status_6 ?_
  refine aw_lconst X (x := 0) dX12_status_7 (by decide) ?_
  refine aw_ldc2 X (x := 3) dX12_status_8 kX12_429 (by decide) ?_
  obtain ⟨q1, e2, hf⟩ := z_bd hf
  refine aw_callS X [z_v v1, z_v 0, z_v 3] [] [z_i q1] cX12_156 (C_X12_isIn l D cA sa ad bs v1 (z_IL c_v1) 0 (z_litL (x := 0) (by decide)) 3 (z_litL (x := 3) (by decide)) (u2 σ 758 0 0) q1 e2) rfl ⟨(Nat.le_of_ble_eq_true rfl), (Nat.le_of_ble_eq_true rfl), (Nat.le_of_ble_eq_true rfl), (Nat.le_of_ble_eq_true rfl)⟩ rfl (Nat.le_of_ble_eq_true rfl) rfl dX12_status_11 (fun p3 => ?_)
  refine aw_if_eq X (tgt := 26) (z_zI p3) dX12_status_14 (by decide) (fun h4 => ?_) (fun h4 => ?_)
  · rw [if_pos h4] at hf
    refine aw_iconst X dX12_status_26 ?_
    obtain rfl := Option.some.inj hf
    exact aw_iret X (z_lit (x := (-1)) (by decide)) hr rfl dX12_status_27
  · rw [if_neg h4] at hf
    refine aw_aload_n X 0 dX12_status_17 rfl rfl ?_
    refine aw_getR X s_758 fX12_38 rfl dX12_status_18 ?_
    refine aw_iload_n X 1 dX12_status_21 rfl rfl ?_
    obtain ⟨g5, hf⟩ := z_gd hf
    refine aw_iald X (j := v1.toNat) s_768 c_v1 g5.1 g5.2 rfl dX12_status_22 (fun c6 => ?_)
    refine aw_goto X (tgt := 27) dX12_status_23 (by decide) ?_
    obtain rfl := Option.some.inj hf
    exact aw_iret X c6 hr rfl dX12_status_27
-- SpeedDeskModel.undo()I
section S_X12_undo
variable {p : Program} {l : Launch} {e : Env} {s : State} {m : MethodId} {args : Array Value} {below : List Frame} {meth : Method} {c : Code} {D : va_G} {cA : Nat → ClassId} {sa ad : Nat → Nat} {bs : Nat} {q : (Int × (Nat → Nat → Int))}

end S_X12_undo
set_option maxHeartbeats 4000000 in
set_option maxRecDepth 100000 in
theorem C_X12_undo (l : Launch) (D : va_G) (cA : Nat → ClassId) (sa ad : Nat → Nat) (bs : Nat)  (σ : Nat → Nat → Int) (q : (Int × (Nat → Nat → Int))) (hf : f_X12_undo σ = some q) : AM l D cA sa ad bs 788 SHp yX12_undo cX12_undo 1 (some .int) 1 [.ref (ad 758)] σ (some (z_i q.1)) (Z_I q.1) q.2 := by
  refine am_of (by decide +kernel) (Nat.le_of_ble_eq_true rfl) (fun p e s m args below meth c X hr => ?_)
  refine aw_lv (lv' := [(0, .ref (ad 758))]) rfl ?_
  unfold f_X12_undo at hf
  refine aw_aload_n X 0 dX12_undo_0 rfl rfl ?_
  refine aw_iconst X dX12_undo_1 ?_
  refine aw_putI X s_758 pX12_101 rfl (z_lit (x := 0) (by decide)) dX12_undo_2 ?_
  refine aw_aload_n X 0 dX12_undo_5 rfl rfl ?_
  refine aw_getI X s_758 fX12_260 rfl dX12_undo_6 (fun c1 => ?_)
  refine aw_if_ne X (tgt := 14) c1 dX12_undo_9 (by decide) (fun h2 => ?_) (fun h2 => ?_)
  · rw [if_neg h2] at hf
    refine aw_aload_n X 0 dX12_undo_14 rfl rfl ?_
    refine aw_dup X dX12_undo_15 rfl ?_
    refine aw_getI X s_758 fX12_260 rfl dX12_undo_16 (fun c3 => ?_)
    refine aw_iconst X dX12_undo_19 ?_
    refine aw_isub X dX12_undo_20 ?_
    refine aw_putI X s_758 pX12_260 rfl (z_w_in _) dX12_undo_21 ?_
    refine aw_aload_n X 0 dX12_undo_24 rfl rfl ?_
    refine aw_getR X s_758 fX12_72 rfl dX12_undo_25 ?_
    refine aw_sipush X dX12_undo_28 (by decide) ?_
    refine aw_aload_n X 0 dX12_undo_31 rfl rfl ?_
    refine aw_getI X s_758 fX12_330 rfl dX12_undo_32 (fun c4 => ?_)
    refine aw_aload_n X 0 dX12_undo_35 rfl rfl ?_
    refine aw_getI X s_758 fX12_260 rfl dX12_undo_36 (fun c5 => ?_)
    refine aw_iadd X dX12_undo_39 ?_
    refine aw_bipush X dX12_undo_40 (by decide) ?_
    refine aw_irem X (z_w_in _) (z_lit (x := 40) (by decide)) (by decide) dX12_undo_42 ?_
    refine aw_imul X dX12_undo_43 ?_
    refine aw_aload_n X 0 dX12_undo_44 rfl rfl ?_
    refine aw_getR X s_758 fX12_63 rfl dX12_undo_45 ?_
    refine aw_iconst X dX12_undo_48 ?_
    obtain ⟨q6, e7, hf⟩ := z_bd hf
    refine aw_callS X [.ref (ad 779), z_i (z_w (256 * (z_w (Int.tmod (z_w (((u2 (u2 σ 758 0 0) 758 36 (z_w (((u2 σ 758 0 0) 758 36) - 1))) 758 35) + ((u2 (u2 σ 758 0 0) 758 36 (z_w (((u2 σ 758 0 0) 758 36) - 1))) 758 36))) 40)))), .ref (ad 776), z_i 0] [] [] cX12_333 (C_X12_copyRow l D cA sa ad bs 779 10240 s_779 (z_w (256 * (z_w (Int.tmod (z_w (((u2 (u2 σ 758 0 0) 758 36 (z_w (((u2 σ 758 0 0) 758 36) - 1))) 758 35) + ((u2 (u2 σ 758 0 0) 758 36 (z_w (((u2 σ 758 0 0) 758 36) - 1))) 758 36))) 40)))) (z_w_in _) 776 256 s_776 0 (z_lit (x := 0) (by decide)) (u2 (u2 σ 758 0 0) 758 36 (z_w (((u2 σ 758 0 0) 758 36) - 1))) q6 e7) rfl ⟨(Nat.le_of_ble_eq_true rfl), (Nat.le_of_ble_eq_true rfl), (Nat.le_of_ble_eq_true rfl), (Nat.le_of_ble_eq_true rfl)⟩ rfl (Nat.le_of_ble_eq_true rfl) rfl dX12_undo_49 (fun p8 => ?_)
    refine aw_aload_n X 0 dX12_undo_52 rfl rfl ?_
    refine aw_getI X s_758 fX12_260 rfl dX12_undo_53 (fun c9 => ?_)
    obtain rfl := Option.some.inj hf
    exact aw_iret X c9 hr rfl dX12_undo_56
  · rw [if_pos h2] at hf
    refine aw_iconst X dX12_undo_12 ?_
    obtain rfl := Option.some.inj hf
    exact aw_iret X (z_lit (x := (-1)) (by decide)) hr rfl dX12_undo_13
-- SpeedDeskModel.log(II)I
section S_X12_log
variable {p : Program} {l : Launch} {e : Env} {s : State} {m : MethodId} {args : Array Value} {below : List Frame} {meth : Method} {c : Code} {D : va_G} {cA : Nat → ClassId} {sa ad : Nat → Nat} {bs : Nat} {q : (Int × (Nat → Nat → Int))}

end S_X12_log
set_option maxHeartbeats 4000000 in
set_option maxRecDepth 100000 in
theorem C_X12_log (l : Launch) (D : va_G) (cA : Nat → ClassId) (sa ad : Nat → Nat) (bs : Nat) (v1 : Int) (c_v1 : Z_I v1) (v2 : Int) (c_v2 : Z_I v2) (σ : Nat → Nat → Int) (q : (Int × (Nat → Nat → Int))) (hf : f_X12_log v1 v2 σ = some q) : AM l D cA sa ad bs 788 SHp yX12_log cX12_log 3 (some .int) 1 [.ref (ad 758), z_i v1, z_i v2] σ (some (z_i q.1)) (Z_I q.1) q.2 := by
  refine am_of (by decide +kernel) (Nat.le_of_ble_eq_true rfl) (fun p e s m args below meth c X hr => ?_)
  refine aw_lv (lv' := [(0, .ref (ad 758)), (1, z_i v1), (2, z_i v2)]) rfl ?_
  unfold f_X12_log at hf
  refine aw_aload_n X 0 dX12_log_0 rfl rfl ?_
  refine aw_iconst X dX12_log_1 ?_
  refine aw_putI X s_758 pX12_101 rfl (z_lit (x := 0) (by decide)) dX12_log_2 ?_
  refine aw_iload_n X 1 dX12_log_5 rfl rfl ?_
  refine aw_if_lt X (tgt := 32) c_v1 dX12_log_6 (by decide) (fun h1 => ?_) (fun h1 => ?_)
  · rw [if_pos h1] at hf
    refine aw_ldcw X (x := (-1000000)) dX12_log_32 kX12_431 (by decide) ?_
    obtain rfl := Option.some.inj hf
    exact aw_iret X (z_lit (x := (-1000000)) (by decide)) hr rfl dX12_log_35
  · rw [if_neg h1] at hf
    refine aw_iload_n X 1 dX12_log_9 rfl rfl ?_
    refine aw_aload_n X 0 dX12_log_10 rfl rfl ?_
    refine aw_getR X s_758 fX12_63 rfl dX12_log_11 ?_
    refine aw_bipush X dX12_log_14 (by decide) ?_
    refine aw_iald X (j := 75) s_776 (z_lit (x := 75) (by decide)) (by decide) (by decide) rfl dX12_log_16 (fun c2 => ?_)
    refine aw_icmp_ge X (tgt := 32) c_v1 c2 dX12_log_17 (by decide) (fun h3 => ?_) (fun h3 => ?_)
    · rw [if_pos h3] at hf
      refine aw_ldcw X (x := (-1000000)) dX12_log_32 kX12_431 (by decide) ?_
      obtain rfl := Option.some.inj hf
      exact aw_iret X (z_lit (x := (-1000000)) (by decide)) hr rfl dX12_log_35
    · rw [if_neg h3] at hf
      refine aw_iload_n X 2 dX12_log_20 rfl rfl ?_
      refine aw_i2l X c_v2 dX12_log_21 ?_
      refine aw_lconst X (x := 0) dX12_log_22 (by decide) ?_
      refine aw_ldc2 X (x := 2) dX12_log_23 kX12_219 (by decide) ?_
      obtain ⟨q4, e5, hf⟩ := z_bd hf
      refine aw_callS X [z_v v2, z_v 0, z_v 2] [] [z_i q4] cX12_156 (C_X12_isIn l D cA sa ad bs v2 (z_IL c_v2) 0 (z_litL (x := 0) (by decide)) 2 (z_litL (x := 2) (by decide)) (u2 σ 758 0 0) q4 e5) rfl ⟨(Nat.le_of_ble_eq_true rfl), (Nat.le_of_ble_eq_true rfl), (Nat.le_of_ble_eq_true rfl), (Nat.le_of_ble_eq_true rfl)⟩ rfl (Nat.le_of_ble_eq_true rfl) rfl dX12_log_26 (fun p6 => ?_)
      refine aw_if_ne X (tgt := 36) (z_zI p6) dX12_log_29 (by decide) (fun h7 => ?_) (fun h7 => ?_)
      · rw [if_neg h7] at hf
        refine aw_aload_n X 0 dX12_log_36 rfl rfl ?_
        refine aw_getR X s_758 fX12_63 rfl dX12_log_37 ?_
        refine aw_bipush X dX12_log_40 (by decide) ?_
        refine aw_iconst X dX12_log_42 ?_
        refine aw_aload_n X 0 dX12_log_43 rfl rfl ?_
        refine aw_getR X s_758 fX12_63 rfl dX12_log_44 ?_
        refine aw_bipush X dX12_log_47 (by decide) ?_
        refine aw_iald X (j := 75) s_776 (z_lit (x := 75) (by decide)) (by decide) (by decide) rfl dX12_log_49 (fun c8 => ?_)
        refine aw_iconst X dX12_log_50 ?_
        refine aw_isub X dX12_log_51 ?_
        refine aw_iload_n X 1 dX12_log_52 rfl rfl ?_
        refine aw_isub X dX12_log_53 ?_
        refine aw_imul X dX12_log_54 ?_
        refine aw_iadd X dX12_log_55 ?_
        refine aw_iload_n X 2 dX12_log_56 rfl rfl ?_
        refine aw_iadd X dX12_log_57 ?_
        obtain ⟨g9, hf⟩ := z_gd hf
        refine aw_iald X (j := (z_w ((z_w (76 + (z_w (3 * (z_w ((z_w (((u2 σ 758 0 0) 776 75) - 1)) - v1)))))) + v2)).toNat) s_776 (z_w_in _) g9.1 g9.2 rfl dX12_log_58 (fun c10 => ?_)
        obtain rfl := Option.some.inj hf
        exact aw_iret X c10 hr rfl dX12_log_59
      · rw [if_pos h7] at hf
        refine aw_ldcw X (x := (-1000000)) dX12_log_32 kX12_431 (by decide) ?_
        obtain rfl := Option.some.inj hf
        exact aw_iret X (z_lit (x := (-1000000)) (by decide)) hr rfl dX12_log_35
-- SpeedDeskModel.image()I
section S_X12_image
variable {p : Program} {l : Launch} {e : Env} {s : State} {m : MethodId} {args : Array Value} {below : List Frame} {meth : Method} {c : Code} {D : va_G} {cA : Nat → ClassId} {sa ad : Nat → Nat} {bs : Nat} {q : (Int × (Nat → Nat → Int))}

end S_X12_image
set_option maxHeartbeats 4000000 in
set_option maxRecDepth 100000 in
theorem C_X12_image (l : Launch) (D : va_G) (cA : Nat → ClassId) (sa ad : Nat → Nat) (bs : Nat)  (σ : Nat → Nat → Int) (q : (Int × (Nat → Nat → Int))) (hf : f_X12_image σ = some q) : AM l D cA sa ad bs 788 SHp yX12_image cX12_image 1 (some .int) 1 [.ref (ad 758)] σ (some (z_i q.1)) (Z_I q.1) q.2 := by
  refine am_of (by decide +kernel) (Nat.le_of_ble_eq_true rfl) (fun p e s m args below meth c X hr => ?_)
  refine aw_lv (lv' := [(0, .ref (ad 758))]) rfl ?_
  unfold f_X12_image at hf
  refine aw_aload_n X 0 dX12_image_0 rfl rfl ?_
  refine aw_iconst X dX12_image_1 ?_
  refine aw_putI X s_758 pX12_101 rfl (z_lit (x := 0) (by decide)) dX12_image_2 ?_
  refine aw_aload_n X 0 dX12_image_5 rfl rfl ?_
  refine aw_getI X s_758 fX12_234 rfl dX12_image_6 (fun c1 => ?_)
  refine aw_if_ne X (tgt := 14) c1 dX12_image_9 (by decide) (fun h2 => ?_) (fun h2 => ?_)
  · rw [if_neg h2] at hf
    refine aw_aload_n X 0 dX12_image_14 rfl rfl ?_
    refine aw_getR X s_758 fX12_63 rfl dX12_image_15 ?_
    refine aw_iconst X dX12_image_18 ?_
    refine aw_aload_n X 0 dX12_image_19 rfl rfl ?_
    refine aw_getR X s_758 fX12_69 rfl dX12_image_20 ?_
    refine aw_iconst X dX12_image_23 ?_
    obtain ⟨q3, e4, hf⟩ := z_bd hf
    refine aw_callS X [.ref (ad 776), z_i 0, .ref (ad 778), z_i 0] [] [] cX12_333 (C_X12_copyRow l D cA sa ad bs 776 256 s_776 0 (z_lit (x := 0) (by decide)) 778 256 s_778 0 (z_lit (x := 0) (by decide)) (u2 σ 758 0 0) q3 e4) rfl ⟨(Nat.le_of_ble_eq_true rfl), (Nat.le_of_ble_eq_true rfl), (Nat.le_of_ble_eq_true rfl), (Nat.le_of_ble_eq_true rfl)⟩ rfl (Nat.le_of_ble_eq_true rfl) rfl dX12_image_24 (fun p5 => ?_)
    refine aw_aload_n X 0 dX12_image_27 rfl rfl ?_
    refine aw_iconst X dX12_image_28 ?_
    refine aw_putZ X s_758 pX12_263 rfl (Or.inr rfl) dX12_image_29 ?_
    refine aw_aload_n X 0 dX12_image_32 rfl rfl ?_
    refine aw_getR X s_758 fX12_63 rfl dX12_image_33 ?_
    refine aw_bipush X dX12_image_36 (by decide) ?_
    refine aw_iald X (j := 41) s_776 (z_lit (x := 41) (by decide)) (by decide) (by decide) rfl dX12_image_38 (fun c6 => ?_)
    obtain rfl := Option.some.inj hf
    exact aw_iret X c6 hr rfl dX12_image_39
  · rw [if_pos h2] at hf
    refine aw_iconst X dX12_image_12 ?_
    obtain rfl := Option.some.inj hf
    exact aw_iret X (z_lit (x := (-1)) (by decide)) hr rfl dX12_image_13
-- SpeedDeskModel.back()I
section S_X12_back
variable {p : Program} {l : Launch} {e : Env} {s : State} {m : MethodId} {args : Array Value} {below : List Frame} {meth : Method} {c : Code} {D : va_G} {cA : Nat → ClassId} {sa ad : Nat → Nat} {bs : Nat} {q : (Int × (Nat → Nat → Int))}

end S_X12_back
set_option maxHeartbeats 4000000 in
set_option maxRecDepth 100000 in
theorem C_X12_back (l : Launch) (D : va_G) (cA : Nat → ClassId) (sa ad : Nat → Nat) (bs : Nat)  (σ : Nat → Nat → Int) (q : (Int × (Nat → Nat → Int))) (hf : f_X12_back σ = some q) : AM l D cA sa ad bs 788 SHp yX12_back cX12_back 1 (some .int) 1 [.ref (ad 758)] σ (some (z_i q.1)) (Z_I q.1) q.2 := by
  refine am_of (by decide +kernel) (Nat.le_of_ble_eq_true rfl) (fun p e s m args below meth c X hr => ?_)
  refine aw_lv (lv' := [(0, .ref (ad 758))]) rfl ?_
  unfold f_X12_back at hf
  refine aw_aload_n X 0 dX12_back_0 rfl rfl ?_
  refine aw_iconst X dX12_back_1 ?_
  refine aw_putI X s_758 pX12_101 rfl (z_lit (x := 0) (by decide)) dX12_back_2 ?_
  refine aw_aload_n X 0 dX12_back_5 rfl rfl ?_
  refine aw_getI X s_758 fX12_263 rfl dX12_back_6 (fun c1 => ?_)
  refine aw_if_ne X (tgt := 14) c1 dX12_back_9 (by decide) (fun h2 => ?_) (fun h2 => ?_)
  · rw [if_neg h2] at hf
    refine aw_aload_n X 0 dX12_back_14 rfl rfl ?_
    refine aw_getR X s_758 fX12_69 rfl dX12_back_15 ?_
    refine aw_iconst X dX12_back_18 ?_
    refine aw_aload_n X 0 dX12_back_19 rfl rfl ?_
    refine aw_getR X s_758 fX12_63 rfl dX12_back_20 ?_
    refine aw_iconst X dX12_back_23 ?_
    obtain ⟨q3, e4, hf⟩ := z_bd hf
    refine aw_callS X [.ref (ad 778), z_i 0, .ref (ad 776), z_i 0] [] [] cX12_333 (C_X12_copyRow l D cA sa ad bs 778 256 s_778 0 (z_lit (x := 0) (by decide)) 776 256 s_776 0 (z_lit (x := 0) (by decide)) (u2 σ 758 0 0) q3 e4) rfl ⟨(Nat.le_of_ble_eq_true rfl), (Nat.le_of_ble_eq_true rfl), (Nat.le_of_ble_eq_true rfl), (Nat.le_of_ble_eq_true rfl)⟩ rfl (Nat.le_of_ble_eq_true rfl) rfl dX12_back_24 (fun p5 => ?_)
    refine aw_aload_n X 0 dX12_back_27 rfl rfl ?_
    refine aw_iconst X dX12_back_28 ?_
    refine aw_putI X s_758 pX12_260 rfl (z_lit (x := 0) (by decide)) dX12_back_29 ?_
    refine aw_aload_n X 0 dX12_back_32 rfl rfl ?_
    refine aw_getR X s_758 fX12_63 rfl dX12_back_33 ?_
    refine aw_bipush X dX12_back_36 (by decide) ?_
    refine aw_iald X (j := 41) s_776 (z_lit (x := 41) (by decide)) (by decide) (by decide) rfl dX12_back_38 (fun c6 => ?_)
    obtain rfl := Option.some.inj hf
    exact aw_iret X c6 hr rfl dX12_back_39
  · rw [if_pos h2] at hf
    refine aw_iconst X dX12_back_12 ?_
    obtain rfl := Option.some.inj hf
    exact aw_iret X (z_lit (x := (-1)) (by decide)) hr rfl dX12_back_13
-- SpeedDeskModel.price()I
section S_X12_price
variable {p : Program} {l : Launch} {e : Env} {s : State} {m : MethodId} {args : Array Value} {below : List Frame} {meth : Method} {c : Code} {D : va_G} {cA : Nat → ClassId} {sa ad : Nat → Nat} {bs : Nat} {q : (Int × (Nat → Nat → Int))}

end S_X12_price
set_option maxHeartbeats 4000000 in
set_option maxRecDepth 100000 in
theorem C_X12_price (l : Launch) (D : va_G) (cA : Nat → ClassId) (sa ad : Nat → Nat) (bs : Nat)  (σ : Nat → Nat → Int) (q : (Int × (Nat → Nat → Int))) (hf : f_X12_price σ = some q) : AM l D cA sa ad bs 788 SHp yX12_price cX12_price 1 (some .int) 5 [.ref (ad 758)] σ (some (z_i q.1)) (Z_I q.1) q.2 := by
  refine am_of (by decide +kernel) (Nat.le_of_ble_eq_true rfl) (fun p e s m args below meth c X hr => ?_)
  refine aw_lv (lv' := [(0, .ref (ad 758))]) rfl ?_
  unfold f_X12_price at hf
  refine aw_aload_n X 0 dX12_price_0 rfl rfl ?_
  refine aw_iconst X dX12_price_1 ?_
  refine aw_putI X s_758 pX12_101 rfl (z_lit (x := 0) (by decide)) dX12_price_2 ?_
  refine aw_aload_n X 0 dX12_price_5 rfl rfl ?_
  refine aw_getI X s_758 fX12_234 rfl dX12_price_6 (fun c1 => ?_)
  refine aw_if_ne X (tgt := 14) c1 dX12_price_9 (by decide) (fun h2 => ?_) (fun h2 => ?_)
  · rw [if_neg h2] at hf
    refine aw_aload_n X 0 dX12_price_14 rfl rfl ?_
    refine aw_aload_n X 0 dX12_price_15 rfl rfl ?_
    refine aw_getR X s_758 fX12_63 rfl dX12_price_16 ?_
    obtain ⟨q3, e4, hf⟩ := z_bd hf
    refine aw_callV X [.ref (ad 776)] [] [] cX12_363 s_758 ciX12 (C_X12_laysShares l D cA sa ad bs 776 s_776 (u2 σ 758 0 0) q3 e4) rfl ⟨(Nat.le_of_ble_eq_true rfl), (Nat.le_of_ble_eq_true rfl), (Nat.le_of_ble_eq_true rfl), (Nat.le_of_ble_eq_true rfl)⟩ rfl (Nat.le_of_ble_eq_true rfl) rfl dX12_price_19 (fun p5 => ?_)
    refine aw_aload_n X 0 dX12_price_22 rfl rfl ?_
    refine aw_aload_n X 0 dX12_price_23 rfl rfl ?_
    refine aw_getR X s_758 fX12_63 rfl dX12_price_24 ?_
    refine aw_aload_n X 0 dX12_price_27 rfl rfl ?_
    refine aw_aload_n X 0 dX12_price_28 rfl rfl ?_
    refine aw_getR X s_758 fX12_63 rfl dX12_price_29 ?_
    obtain ⟨q6, e7, hf⟩ := z_bd hf
    refine aw_callV X [.ref (ad 776)] [.ref (ad 776), .ref (ad 758)] [z_i q6, .ref (ad 776), .ref (ad 758)] cX12_370 s_758 ciX12 (C_X12_wayOf l D cA sa ad bs 776 s_776 q3 q6 e7) rfl ⟨(Nat.le_of_ble_eq_true rfl), (Nat.le_of_ble_eq_true rfl), (Nat.le_of_ble_eq_true rfl), (Nat.le_of_ble_eq_true rfl)⟩ rfl (Nat.le_of_ble_eq_true rfl) rfl dX12_price_32 (fun p8 => ?_)
    obtain ⟨q9, e10, hf⟩ := z_bd hf
    refine aw_callV X [.ref (ad 776), z_i q6] [] [z_i q9.1] cX12_444 s_758 ciX12 (C_X12_priceOf l D cA sa ad bs 776 s_776 q6 p8 q3 q9 e10) rfl ⟨(Nat.le_of_ble_eq_true rfl), (Nat.le_of_ble_eq_true rfl), (Nat.le_of_ble_eq_true rfl), (Nat.le_of_ble_eq_true rfl)⟩ rfl (Nat.le_of_ble_eq_true rfl) rfl dX12_price_35 (fun p11 => ?_)
    obtain rfl := Option.some.inj hf
    exact aw_iret X p11 hr rfl dX12_price_38
  · rw [if_pos h2] at hf
    refine aw_iconst X dX12_price_12 ?_
    obtain rfl := Option.some.inj hf
    exact aw_iret X (z_lit (x := (-1)) (by decide)) hr rfl dX12_price_13
-- SpeedDeskModel.best(II)I
section S_X12_best
variable {p : Program} {l : Launch} {e : Env} {s : State} {m : MethodId} {args : Array Value} {below : List Frame} {meth : Method} {c : Code} {D : va_G} {cA : Nat → ClassId} {sa ad : Nat → Nat} {bs : Nat} {q : (Int × (Nat → Nat → Int))}
set_option maxHeartbeats 4000000 in
set_option maxRecDepth 100000 in
theorem A_X12_best_37 (X : AX p s m args meth c D cA sa bs cX12_best 4 RX12) (hr : meth.sig.returnType = (some .int)) (v1 : Int) (c_v1 : Z_I v1) (v2 : Int) (c_v2 : Z_I v2) (σ : Nat → Nat → Int) (hf : f_X12_best_37 v1 v2 σ = some q) : AW p l e (ax_rm 6 0 0) s m args below meth c D cA ad bs 788 SHp 0 0 (ax_MQ below args s D cA ad bs 788 SHp 0 0 (some (z_i q.1)) (Z_I q.1) q.2) 4 37 [(0, .ref (ad 758)), (1, z_i v1), (2, z_i v2)] [] σ := by
  unfold f_X12_best_37 at hf
  refine aw_aload_n X 0 dX12_best_37 rfl rfl ?_
  refine aw_aload_n X 0 dX12_best_38 rfl rfl ?_
  refine aw_getR X s_758 fX12_63 rfl dX12_best_39 ?_
  obtain ⟨q12, e13, hf⟩ := z_bd hf
  refine aw_callV X [.ref (ad 776)] [] [] cX12_363 s_758 ciX12 (C_X12_laysShares l D cA sa ad bs 776 s_776 σ q12 e13) rfl ⟨(Nat.le_of_ble_eq_true rfl), (Nat.le_of_ble_eq_true rfl), (Nat.le_of_ble_eq_true rfl), (Nat.le_of_ble_eq_true rfl)⟩ rfl (Nat.le_of_ble_eq_true rfl) rfl dX12_best_42 (fun p14 => ?_)
  refine aw_aload_n X 0 dX12_best_45 rfl rfl ?_
  refine aw_aload_n X 0 dX12_best_46 rfl rfl ?_
  refine aw_getR X s_758 fX12_63 rfl dX12_best_47 ?_
  obtain ⟨q15, e16, hf⟩ := z_bd hf
  refine aw_callV X [.ref (ad 776)] [] [z_i q15.1] cX12_367 s_758 ciX12 (C_X12_bestWay l D cA sa ad bs 776 s_776 q12 q15 e16) rfl ⟨(Nat.le_of_ble_eq_true rfl), (Nat.le_of_ble_eq_true rfl), (Nat.le_of_ble_eq_true rfl), (Nat.le_of_ble_eq_true rfl)⟩ rfl (Nat.le_of_ble_eq_true rfl) rfl dX12_best_50 (fun p17 => ?_)
  refine aw_istore_n X [(3, z_i q15.1), (0, .ref (ad 758)), (1, z_i v1), (2, z_i v2)] dX12_best_53 rfl (by decide) rfl ?_
  refine aw_iload_n X 0 dX12_best_54 rfl rfl ?_
  refine aw_iconst X dX12_best_55 ?_
  refine aw_icmp_ne X (tgt := 63) p17 (z_lit (x := (-1)) (by decide)) dX12_best_56 (by decide) (fun h18 => ?_) (fun h18 => ?_)
  · rw [if_neg h18] at hf
    refine aw_iload_n X 2 dX12_best_63 rfl rfl ?_
    refine aw_if_ne X (tgt := 74) c_v1 dX12_best_64 (by decide) (fun h19 => ?_) (fun h19 => ?_)
    · rw [if_neg h19] at hf
      refine aw_aload_n X 1 dX12_best_74 rfl rfl ?_
      refine aw_iload_n X 0 dX12_best_75 rfl rfl ?_
      refine aw_iload_n X 3 dX12_best_76 rfl rfl ?_
      obtain ⟨q20, e21, hf⟩ := z_bd hf
      refine aw_callV X [z_i q15.1, z_i v2] [] [z_i q20] cX12_386 s_758 ciX12 (C_X12_coreIn l D cA sa ad bs q15.1 p17 v2 c_v2 q15.2 q20 e21) rfl ⟨(Nat.le_of_ble_eq_true rfl), (Nat.le_of_ble_eq_true rfl), (Nat.le_of_ble_eq_true rfl), (Nat.le_of_ble_eq_true rfl)⟩ rfl (Nat.le_of_ble_eq_true rfl) rfl dX12_best_77 (fun p22 => ?_)
      obtain rfl := Option.some.inj hf
      exact aw_iret X p22 hr rfl dX12_best_80
    · rw [if_pos h19] at hf
      refine aw_aload_n X 1 dX12_best_67 rfl rfl ?_
      refine aw_getI X s_758 fX12_447 rfl dX12_best_68 (fun c23 => ?_)
      refine aw_goto X (tgt := 80) dX12_best_71 (by decide) ?_
      obtain rfl := Option.some.inj hf
      exact aw_iret X c23 hr rfl dX12_best_80
  · rw [if_pos h18] at hf
    refine aw_iconst X dX12_best_59 ?_
    refine aw_goto X (tgt := 80) dX12_best_60 (by decide) ?_
    obtain rfl := Option.some.inj hf
    exact aw_iret X (z_lit (x := (-1)) (by decide)) hr rfl dX12_best_80
end S_X12_best
set_option maxHeartbeats 4000000 in
set_option maxRecDepth 100000 in
theorem C_X12_best (l : Launch) (D : va_G) (cA : Nat → ClassId) (sa ad : Nat → Nat) (bs : Nat) (v1 : Int) (c_v1 : Z_I v1) (v2 : Int) (c_v2 : Z_I v2) (σ : Nat → Nat → Int) (q : (Int × (Nat → Nat → Int))) (hf : f_X12_best v1 v2 σ = some q) : AM l D cA sa ad bs 788 SHp yX12_best cX12_best 4 (some .int) 6 [.ref (ad 758), z_i v1, z_i v2] σ (some (z_i q.1)) (Z_I q.1) q.2 := by
  refine am_of (by decide +kernel) (Nat.le_of_ble_eq_true rfl) (fun p e s m args below meth c X hr => ?_)
  refine aw_lv (lv' := [(0, .ref (ad 758)), (1, z_i v1), (2, z_i v2)]) rfl ?_
  unfold f_X12_best at hf
  refine aw_aload_n X 0 dX12_best_0 rfl rfl ?_
  refine aw_iconst X dX12_best_1 ?_
  refine aw_putI X s_758 pX12_101 rfl (z_lit (x := 0) (by decide)) dX12_best_2 ?_
  refine aw_aload_n X 0 dX12_best_5 rfl rfl ?_
  refine aw_getI X s_758 fX12_234 rfl dX12_best_6 (fun c1 => ?_)
  refine aw_if_eq X (tgt := 35) c1 dX12_best_9 (by decide) (fun h2 => ?_) (fun h2 => ?_)
  · rw [if_pos h2] at hf
    refine aw_iconst X dX12_best_35 ?_
    obtain rfl := Option.some.inj hf
    exact aw_iret X (z_lit (x := (-1)) (by decide)) hr rfl dX12_best_36
  · rw [if_neg h2] at hf
    refine aw_iload_n X 1 dX12_best_12 rfl rfl ?_
    refine aw_i2l X c_v1 dX12_best_13 ?_
    refine aw_lconst X (x := 0) dX12_best_14 (by decide) ?_
    refine aw_lconst X (x := 1) dX12_best_15 (by decide) ?_
    obtain ⟨q3, e4, hf⟩ := z_bd hf
    refine aw_callS X [z_v v1, z_v 0, z_v 1] [] [z_i q3] cX12_156 (C_X12_isIn l D cA sa ad bs v1 (z_IL c_v1) 0 (z_litL (x := 0) (by decide)) 1 (z_litL (x := 1) (by decide)) (u2 σ 758 0 0) q3 e4) rfl ⟨(Nat.le_of_ble_eq_true rfl), (Nat.le_of_ble_eq_true rfl), (Nat.le_of_ble_eq_true rfl), (Nat.le_of_ble_eq_true rfl)⟩ rfl (Nat.le_of_ble_eq_true rfl) rfl dX12_best_16 (fun p5 => ?_)
    refine aw_if_eq X (tgt := 35) (z_zI p5) dX12_best_19 (by decide) (fun h6 => ?_) (fun h6 => ?_)
    · rw [if_pos h6] at hf
      refine aw_iconst X dX12_best_35 ?_
      obtain rfl := Option.some.inj hf
      exact aw_iret X (z_lit (x := (-1)) (by decide)) hr rfl dX12_best_36
    · rw [if_neg h6] at hf
      refine aw_iload_n X 1 dX12_best_22 rfl rfl ?_
      refine aw_iconst X dX12_best_23 ?_
      refine aw_icmp_ne X (tgt := 37) c_v1 (z_lit (x := 1) (by decide)) dX12_best_24 (by decide) (fun h7 => ?_) (fun h7 => ?_)
      · rw [if_neg h7] at hf
        exact A_X12_best_37 X hr v1 c_v1 v2 c_v2 (u2 σ 758 0 0) hf
      · rw [if_pos h7] at hf
        refine aw_aload_n X 0 dX12_best_27 rfl rfl ?_
        refine aw_iload_n X 2 dX12_best_28 rfl rfl ?_
        obtain ⟨q8, e9, hf⟩ := z_bd hf
        refine aw_callV X [z_i v2] [] [z_i q8] cX12_339 s_758 ciX12 (C_X12_isTask l D cA sa ad bs v2 c_v2 (u2 σ 758 0 0) q8 e9) rfl ⟨(Nat.le_of_ble_eq_true rfl), (Nat.le_of_ble_eq_true rfl), (Nat.le_of_ble_eq_true rfl), (Nat.le_of_ble_eq_true rfl)⟩ rfl (Nat.le_of_ble_eq_true rfl) rfl dX12_best_29 (fun p10 => ?_)
        refine aw_if_ne X (tgt := 37) (z_zI p10) dX12_best_32 (by decide) (fun h11 => ?_) (fun h11 => ?_)
        · rw [if_neg h11] at hf
          exact A_X12_best_37 X hr v1 c_v1 v2 c_v2 (u2 σ 758 0 0) hf
        · rw [if_pos h11] at hf
          refine aw_iconst X dX12_best_35 ?_
          obtain rfl := Option.some.inj hf
          exact aw_iret X (z_lit (x := (-1)) (by decide)) hr rfl dX12_best_36
-- SpeedDeskModel.nextToPut()I
section S_X12_nextToPut
variable {p : Program} {l : Launch} {e : Env} {s : State} {m : MethodId} {args : Array Value} {below : List Frame} {meth : Method} {c : Code} {D : va_G} {cA : Nat → ClassId} {sa ad : Nat → Nat} {bs : Nat} {q : Int}
set_option maxHeartbeats 4000000 in
set_option maxRecDepth 100000 in
theorem A_X12_nextToPut_4 (X : AX p s m args meth c D cA sa bs cX12_nextToPut 3 RX12) (hr : meth.sig.returnType = (some .int)) (σ : Nat → Nat → Int) : ∀ (k : Nat) (v1 : Int) (c_v1 : Z_I v1) (v2 : Int) (c_v2 : Z_I v2), f_X12_nextToPut_4 k v1 v2 σ = some q → AW p l e (ax_rm 0 0 0) s m args below meth c D cA ad bs 788 SHp 0 0 (ax_MQ below args s D cA ad bs 788 SHp 0 0 (some (z_i q)) (Z_I q) σ) 3 4 [(0, .ref (ad 758)), (1, z_i v1), (2, z_i v2)] [] σ := by
  intro k
  induction k with
  | zero =>
    intro v1 c_v1 v2 c_v2 hf
    unfold f_X12_nextToPut_4 at hf
    cases hf
  | succ k ih =>
    intro v1 c_v1 v2 c_v2 hf
    unfold f_X12_nextToPut_4 at hf
    refine aw_iload_n X 2 dX12_nextToPut_4 rfl rfl ?_
    refine aw_aload_n X 0 dX12_nextToPut_5 rfl rfl ?_
    refine aw_getI X s_758 fX12_237 rfl dX12_nextToPut_6 (fun c1 => ?_)
    refine aw_icmp_ge X (tgt := 50) c_v2 c1 dX12_nextToPut_9 (by decide) (fun h2 => ?_) (fun h2 => ?_)
    · rw [if_pos h2] at hf
      refine aw_iload_n X 1 dX12_nextToPut_50 rfl rfl ?_
      obtain rfl := Option.some.inj hf
      exact aw_iret X c_v1 hr rfl dX12_nextToPut_51
    · rw [if_neg h2] at hf
      refine aw_aload_n X 0 dX12_nextToPut_12 rfl rfl ?_
      refine aw_getR X s_758 fX12_89 rfl dX12_nextToPut_13 ?_
      refine aw_iload_n X 2 dX12_nextToPut_16 rfl rfl ?_
      obtain ⟨g3, hf⟩ := z_gd hf
      refine aw_iald X (j := v2.toNat) s_783 c_v2 g3.1 g3.2 rfl dX12_nextToPut_17 (fun c4 => ?_)
      refine aw_iconst X dX12_nextToPut_18 ?_
      refine aw_icmp_ne X (tgt := 44) c4 (z_lit (x := (-1)) (by decide)) dX12_nextToPut_19 (by decide) (fun h5 => ?_) (fun h5 => ?_)
      · rw [if_neg h5] at hf
        refine aw_iinc X 2 [(2, z_i (z_w (v2 + 1))), (0, .ref (ad 758)), (1, z_i v1)] dX12_nextToPut_44 rfl (by decide) rfl ?_
        refine aw_goto X (tgt := 4) dX12_nextToPut_47 (by decide) ?_
        refine aw_sub [1, 2, 0] rfl ?_
        exact ih v1 c_v1 (z_w (v2 + 1)) (z_w_in _) hf
      · rw [if_pos h5] at hf
        refine aw_iload_n X 1 dX12_nextToPut_22 rfl rfl ?_
        refine aw_iconst X dX12_nextToPut_23 ?_
        refine aw_icmp_eq X (tgt := 42) c_v1 (z_lit (x := (-1)) (by decide)) dX12_nextToPut_24 (by decide) (fun h6 => ?_) (fun h6 => ?_)
        · rw [if_pos h6] at hf
          refine aw_iload_n X 2 dX12_nextToPut_42 rfl rfl ?_
          refine aw_istore_n X [(1, z_i v2), (0, .ref (ad 758)), (2, z_i v2)] dX12_nextToPut_43 rfl (by decide) rfl ?_
          refine aw_iinc X 2 [(2, z_i (z_w (v2 + 1))), (1, z_i v2), (0, .ref (ad 758))] dX12_nextToPut_44 rfl (by decide) rfl ?_
          refine aw_goto X (tgt := 4) dX12_nextToPut_47 (by decide) ?_
          refine aw_sub [2, 1, 0] rfl ?_
          exact ih v2 c_v2 (z_w (v2 + 1)) (z_w_in _) hf
        · rw [if_neg h6] at hf
          refine aw_aload_n X 0 dX12_nextToPut_27 rfl rfl ?_
          refine aw_getR X s_758 fX12_82 rfl dX12_nextToPut_28 ?_
          refine aw_iload_n X 2 dX12_nextToPut_31 rfl rfl ?_
          obtain ⟨g7, hf⟩ := z_gd hf
          refine aw_iald X (j := v2.toNat) s_781 c_v2 g7.1 g7.2 rfl dX12_nextToPut_32 (fun c8 => ?_)
          refine aw_aload_n X 0 dX12_nextToPut_33 rfl rfl ?_
          refine aw_getR X s_758 fX12_82 rfl dX12_nextToPut_34 ?_
          refine aw_iload_n X 1 dX12_nextToPut_37 rfl rfl ?_
          obtain ⟨g9, hf⟩ := z_gd hf
          refine aw_iald X (j := v1.toNat) s_781 c_v1 g9.1 g9.2 rfl dX12_nextToPut_38 (fun c10 => ?_)
          refine aw_icmp_le X (tgt := 44) c8 c10 dX12_nextToPut_39 (by decide) (fun h11 => ?_) (fun h11 => ?_)
          · simp only [if_pos h11] at hf
            refine aw_iinc X 2 [(2, z_i (z_w (v2 + 1))), (0, .ref (ad 758)), (1, z_i v1)] dX12_nextToPut_44 rfl (by decide) rfl ?_
            refine aw_goto X (tgt := 4) dX12_nextToPut_47 (by decide) ?_
            refine aw_sub [1, 2, 0] rfl ?_
            exact ih v1 c_v1 (z_w (v2 + 1)) (z_w_in _) hf
          · simp only [if_neg h11] at hf
            refine aw_iload_n X 2 dX12_nextToPut_42 rfl rfl ?_
            refine aw_istore_n X [(1, z_i v2), (0, .ref (ad 758)), (2, z_i v2)] dX12_nextToPut_43 rfl (by decide) rfl ?_
            refine aw_iinc X 2 [(2, z_i (z_w (v2 + 1))), (1, z_i v2), (0, .ref (ad 758))] dX12_nextToPut_44 rfl (by decide) rfl ?_
            refine aw_goto X (tgt := 4) dX12_nextToPut_47 (by decide) ?_
            refine aw_sub [2, 1, 0] rfl ?_
            exact ih v2 c_v2 (z_w (v2 + 1)) (z_w_in _) hf
end S_X12_nextToPut
set_option maxHeartbeats 4000000 in
set_option maxRecDepth 100000 in
theorem C_X12_nextToPut (l : Launch) (D : va_G) (cA : Nat → ClassId) (sa ad : Nat → Nat) (bs : Nat)  (σ : Nat → Nat → Int) (q : Int) (hf : f_X12_nextToPut σ = some q) : AM l D cA sa ad bs 788 SHp yX12_nextToPut cX12_nextToPut 3 (some .int) 0 [.ref (ad 758)] σ (some (z_i q)) (Z_I q) σ := by
  refine am_of (by decide +kernel) (Nat.le_of_ble_eq_true rfl) (fun p e s m args below meth c X hr => ?_)
  refine aw_lv (lv' := [(0, .ref (ad 758))]) rfl ?_
  unfold f_X12_nextToPut at hf
  refine aw_iconst X dX12_nextToPut_0 ?_
  refine aw_istore_n X [(1, z_i (-1)), (0, .ref (ad 758))] dX12_nextToPut_1 rfl (by decide) rfl ?_
  refine aw_iconst X dX12_nextToPut_2 ?_
  refine aw_istore_n X [(2, z_i 0), (1, z_i (-1)), (0, .ref (ad 758))] dX12_nextToPut_3 rfl (by decide) rfl ?_
  refine aw_sub [2, 1, 0] rfl ?_
  exact A_X12_nextToPut_4 X hr σ 100000 (-1) (z_lit (x := (-1)) (by decide)) 0 (z_lit (x := 0) (by decide)) hf
-- SpeedDeskModel.putsAll()Z
section S_X12_putsAll
variable {p : Program} {l : Launch} {e : Env} {s : State} {m : MethodId} {args : Array Value} {below : List Frame} {meth : Method} {c : Code} {D : va_G} {cA : Nat → ClassId} {sa ad : Nat → Nat} {bs : Nat} {q : (Int × (Nat → Nat → Int))}
set_option maxHeartbeats 4000000 in
set_option maxRecDepth 100000 in
theorem A_X12_putsAll_40 (X : AX p s m args meth c D cA sa bs cX12_putsAll 6 RX12) (hr : meth.sig.returnType = (some .boolean)) (K28 : Int → (Nat → Nat → Int) → Option (Int × (Nat → Nat → Int))) (hK28 : ∀ (v1 : Int) (c_v1 : Z_I v1) (σ : Nat → Nat → Int), K28 v1 σ = some q → AW p l e (ax_rm 4 0 0) s m args below meth c D cA ad bs 788 SHp 0 0 (ax_MQ below args s D cA ad bs 788 SHp 0 0 (some (z_i q.1)) (q.1 = 0 ∨ q.1 = 1) q.2) 6 28 [(0, .ref (ad 758)), (1, z_i v1)] [] σ) : ∀ (k : Nat) (v1 : Int) (c_v1 : Z_I v1) (v2 : Int) (c_v2 : Z_I v2) (v3 : Int) (c_v3 : Z_I v3) (v4 : Int) (c_v4 : Z_I v4) (σ : Nat → Nat → Int), f_X12_putsAll_40 K28 k v1 v2 v3 v4 σ = some q → AW p l e (ax_rm 4 0 0) s m args below meth c D cA ad bs 788 SHp 0 0 (ax_MQ below args s D cA ad bs 788 SHp 0 0 (some (z_i q.1)) (q.1 = 0 ∨ q.1 = 1) q.2) 6 40 [(0, .ref (ad 758)), (1, z_i v1), (2, z_i v2), (3, z_i v3), (4, z_i v4)] [] σ := by
  intro k
  induction k with
  | zero =>
    intro v1 c_v1 v2 c_v2 v3 c_v3 v4 c_v4 σ hf
    unfold f_X12_putsAll_40 at hf
    cases hf
  | succ k ih =>
    intro v1 c_v1 v2 c_v2 v3 c_v3 v4 c_v4 σ hf
    unfold f_X12_putsAll_40 at hf
    refine aw_iload X 4 dX12_putsAll_40 rfl ?_
    refine aw_aload_n X 0 dX12_putsAll_42 rfl rfl ?_
    refine aw_getI X s_758 fX12_240 rfl dX12_putsAll_43 (fun c8 => ?_)
    refine aw_icmp_ge X (tgt := 99) c_v4 c8 dX12_putsAll_46 (by decide) (fun h9 => ?_) (fun h9 => ?_)
    · rw [if_pos h9] at hf
      refine aw_iload_n X 2 dX12_putsAll_99 rfl rfl ?_
      refine aw_iconst X dX12_putsAll_100 ?_
      refine aw_icmp_ne X (tgt := 106) c_v2 (z_lit (x := (-1)) (by decide)) dX12_putsAll_101 (by decide) (fun h10 => ?_) (fun h10 => ?_)
      · rw [if_neg h10] at hf
        refine aw_aload_n X 0 dX12_putsAll_106 rfl rfl ?_
        refine aw_getR X s_758 fX12_89 rfl dX12_putsAll_107 ?_
        refine aw_iload_n X 1 dX12_putsAll_110 rfl rfl ?_
        refine aw_iload_n X 2 dX12_putsAll_111 rfl rfl ?_
        obtain ⟨g11, hf⟩ := z_gd hf
        refine aw_iast X (j := v1.toNat) s_783 c_v1 g11.1 g11.2 rfl c_v2 dX12_putsAll_112 ?_
        refine aw_aload_n X 0 dX12_putsAll_113 rfl rfl ?_
        obtain ⟨q12, e13, hf⟩ := z_bd hf
        refine aw_callV X [] [] [z_i q12] cX12_450 s_758 ciX12 (C_X12_nextToPut l D cA sa ad bs (u2 σ 783 v1.toNat v2) q12 e13) rfl ⟨(Nat.le_of_ble_eq_true rfl), (Nat.le_of_ble_eq_true rfl), (Nat.le_of_ble_eq_true rfl), (Nat.le_of_ble_eq_true rfl)⟩ rfl (Nat.le_of_ble_eq_true rfl) rfl dX12_putsAll_114 (fun p14 => ?_)
        refine aw_istore_n X [(1, z_i q12), (0, .ref (ad 758)), (2, z_i v2), (3, z_i v3), (4, z_i v4)] dX12_putsAll_117 rfl (by decide) rfl ?_
        refine aw_goto X (tgt := 28) dX12_putsAll_118 (by decide) ?_
        refine aw_sub [1, 0] rfl ?_
        exact hK28 q12 p14 (u2 σ 783 v1.toNat v2) hf
      · rw [if_pos h10] at hf
        refine aw_iconst X dX12_putsAll_104 ?_
        obtain rfl := Option.some.inj hf
        exact aw_zret X (Or.inl rfl) hr (Or.inl rfl) rfl dX12_putsAll_105
    · rw [if_neg h9] at hf
      refine aw_aload_n X 0 dX12_putsAll_49 rfl rfl ?_
      refine aw_getR X s_758 fX12_89 rfl dX12_putsAll_50 ?_
      refine aw_iload_n X 1 dX12_putsAll_53 rfl rfl ?_
      refine aw_iload X 4 dX12_putsAll_54 rfl ?_
      obtain ⟨g15, hf⟩ := z_gd hf
      refine aw_iast X (j := v1.toNat) s_783 c_v1 g15.1 g15.2 rfl c_v4 dX12_putsAll_56 ?_
      refine aw_aload_n X 0 dX12_putsAll_57 rfl rfl ?_
      refine aw_aload_n X 0 dX12_putsAll_58 rfl rfl ?_
      refine aw_getR X s_758 fX12_63 rfl dX12_putsAll_59 ?_
      obtain ⟨q16, e17, hf⟩ := z_bd hf
      refine aw_callV X [.ref (ad 776)] [] [z_i q16] cX12_441 s_758 ciX12 (C_X12_pricePut l D cA sa ad bs 776 s_776 (u2 σ 783 v1.toNat v4) q16 e17) rfl ⟨(Nat.le_of_ble_eq_true rfl), (Nat.le_of_ble_eq_true rfl), (Nat.le_of_ble_eq_true rfl), (Nat.le_of_ble_eq_true rfl)⟩ rfl (Nat.le_of_ble_eq_true rfl) rfl dX12_putsAll_62 (fun p18 => ?_)
      refine aw_istore X [(5, z_i q16), (0, .ref (ad 758)), (1, z_i v1), (2, z_i v2), (3, z_i v3), (4, z_i v4)] dX12_putsAll_65 (by decide) rfl ?_
      refine aw_iload X 0 dX12_putsAll_67 rfl ?_
      refine aw_iconst X dX12_putsAll_69 ?_
      refine aw_icmp_eq X (tgt := 93) p18 (z_lit (x := (-1)) (by decide)) dX12_putsAll_70 (by decide) (fun h19 => ?_) (fun h19 => ?_)
      · simp only [if_pos h19] at hf
        refine aw_iinc X 5 [(4, z_i (z_w (v4 + 1))), (5, z_i q16), (0, .ref (ad 758)), (1, z_i v1), (2, z_i v2), (3, z_i v3)] dX12_putsAll_93 rfl (by decide) rfl ?_
        refine aw_goto X (tgt := 40) dX12_putsAll_96 (by decide) ?_
        refine aw_sub [2, 3, 4, 5, 0] rfl ?_
        exact ih v1 c_v1 v2 c_v2 v3 c_v3 (z_w (v4 + 1)) (z_w_in _) (u2 σ 783 v1.toNat v4) hf
      · simp only [if_neg h19] at hf
        refine aw_iload_n X 3 dX12_putsAll_73 rfl rfl ?_
        refine aw_iconst X dX12_putsAll_74 ?_
        refine aw_icmp_eq X (tgt := 87) c_v2 (z_lit (x := (-1)) (by decide)) dX12_putsAll_75 (by decide) (fun h20 => ?_) (fun h20 => ?_)
        · simp only [if_pos h20] at hf
          refine aw_iload X 5 dX12_putsAll_87 rfl ?_
          refine aw_istore_n X [(2, z_i v4), (5, z_i q16), (0, .ref (ad 758)), (1, z_i v1), (3, z_i v3), (4, z_i v4)] dX12_putsAll_89 rfl (by decide) rfl ?_
          refine aw_iload X 1 dX12_putsAll_90 rfl ?_
          refine aw_istore_n X [(3, z_i q16), (2, z_i v4), (5, z_i q16), (0, .ref (ad 758)), (1, z_i v1), (4, z_i v4)] dX12_putsAll_92 rfl (by decide) rfl ?_
          refine aw_iinc X 5 [(4, z_i (z_w (v4 + 1))), (3, z_i q16), (2, z_i v4), (5, z_i q16), (0, .ref (ad 758)), (1, z_i v1)] dX12_putsAll_93 rfl (by decide) rfl ?_
          refine aw_goto X (tgt := 40) dX12_putsAll_96 (by decide) ?_
          refine aw_sub [4, 5, 2, 1, 0] rfl ?_
          exact ih v1 c_v1 v4 c_v4 q16 p18 (z_w (v4 + 1)) (z_w_in _) (u2 σ 783 v1.toNat v4) hf
        · simp only [if_neg h20] at hf
          refine aw_iload X 0 dX12_putsAll_78 rfl ?_
          refine aw_iload_n X 4 dX12_putsAll_80 rfl rfl ?_
          refine aw_icmp_lt X (tgt := 87) p18 c_v3 dX12_putsAll_81 (by decide) (fun h21 => ?_) (fun h21 => ?_)
          · simp only [if_pos h21] at hf
            refine aw_iload X 5 dX12_putsAll_87 rfl ?_
            refine aw_istore_n X [(2, z_i v4), (5, z_i q16), (0, .ref (ad 758)), (1, z_i v1), (3, z_i v3), (4, z_i v4)] dX12_putsAll_89 rfl (by decide) rfl ?_
            refine aw_iload X 1 dX12_putsAll_90 rfl ?_
            refine aw_istore_n X [(3, z_i q16), (2, z_i v4), (5, z_i q16), (0, .ref (ad 758)), (1, z_i v1), (4, z_i v4)] dX12_putsAll_92 rfl (by decide) rfl ?_
            refine aw_iinc X 5 [(4, z_i (z_w (v4 + 1))), (3, z_i q16), (2, z_i v4), (5, z_i q16), (0, .ref (ad 758)), (1, z_i v1)] dX12_putsAll_93 rfl (by decide) rfl ?_
            refine aw_goto X (tgt := 40) dX12_putsAll_96 (by decide) ?_
            refine aw_sub [4, 5, 2, 1, 0] rfl ?_
            exact ih v1 c_v1 v4 c_v4 q16 p18 (z_w (v4 + 1)) (z_w_in _) (u2 σ 783 v1.toNat v4) hf
          · simp only [if_neg h21] at hf
            refine aw_goto X (tgt := 93) dX12_putsAll_84 (by decide) ?_
            refine aw_iinc X 5 [(4, z_i (z_w (v4 + 1))), (5, z_i q16), (0, .ref (ad 758)), (1, z_i v1), (2, z_i v2), (3, z_i v3)] dX12_putsAll_93 rfl (by decide) rfl ?_
            refine aw_goto X (tgt := 40) dX12_putsAll_96 (by decide) ?_
            refine aw_sub [2, 3, 4, 5, 0] rfl ?_
            exact ih v1 c_v1 v2 c_v2 v3 c_v3 (z_w (v4 + 1)) (z_w_in _) (u2 σ 783 v1.toNat v4) hf
set_option maxHeartbeats 4000000 in
set_option maxRecDepth 100000 in
theorem A_X12_putsAll_28 (X : AX p s m args meth c D cA sa bs cX12_putsAll 6 RX12) (hr : meth.sig.returnType = (some .boolean)) : ∀ (k : Nat) (v1 : Int) (c_v1 : Z_I v1) (σ : Nat → Nat → Int), f_X12_putsAll_28 k v1 σ = some q → AW p l e (ax_rm 4 0 0) s m args below meth c D cA ad bs 788 SHp 0 0 (ax_MQ below args s D cA ad bs 788 SHp 0 0 (some (z_i q.1)) (q.1 = 0 ∨ q.1 = 1) q.2) 6 28 [(0, .ref (ad 758)), (1, z_i v1)] [] σ := by
  intro k
  induction k with
  | zero =>
    intro v1 c_v1 σ hf
    unfold f_X12_putsAll_28 at hf
    cases hf
  | succ k ih =>
    intro v1 c_v1 σ hf
    unfold f_X12_putsAll_28 at hf
    refine aw_iload_n X 1 dX12_putsAll_28 rfl rfl ?_
    refine aw_iconst X dX12_putsAll_29 ?_
    refine aw_icmp_eq X (tgt := 121) c_v1 (z_lit (x := (-1)) (by decide)) dX12_putsAll_30 (by decide) (fun h7 => ?_) (fun h7 => ?_)
    · rw [if_pos h7] at hf
      refine aw_iconst X dX12_putsAll_121 ?_
      obtain rfl := Option.some.inj hf
      exact aw_zret X (Or.inr rfl) hr (Or.inr rfl) rfl dX12_putsAll_122
    · rw [if_neg h7] at hf
      refine aw_iconst X dX12_putsAll_33 ?_
      refine aw_istore_n X [(2, z_i (-1)), (0, .ref (ad 758)), (1, z_i v1)] dX12_putsAll_34 rfl (by decide) rfl ?_
      refine aw_iconst X dX12_putsAll_35 ?_
      refine aw_istore_n X [(3, z_i 0), (2, z_i (-1)), (0, .ref (ad 758)), (1, z_i v1)] dX12_putsAll_36 rfl (by decide) rfl ?_
      refine aw_iconst X dX12_putsAll_37 ?_
      refine aw_istore X [(4, z_i 0), (3, z_i 0), (2, z_i (-1)), (0, .ref (ad 758)), (1, z_i v1)] dX12_putsAll_38 (by decide) rfl ?_
      refine aw_sub [3, 4, 2, 1, 0] rfl ?_
      exact A_X12_putsAll_40 X hr (f_X12_putsAll_28 k) ih 100000 v1 c_v1 (-1) (z_lit (x := (-1)) (by decide)) 0 (z_lit (x := 0) (by decide)) 0 (z_lit (x := 0) (by decide)) σ hf
set_option maxHeartbeats 4000000 in
set_option maxRecDepth 100000 in
theorem A_X12_putsAll_2 (X : AX p s m args meth c D cA sa bs cX12_putsAll 6 RX12) (hr : meth.sig.returnType = (some .boolean)) : ∀ (k : Nat) (v1 : Int) (c_v1 : Z_I v1) (σ : Nat → Nat → Int), f_X12_putsAll_2 k v1 σ = some q → AW p l e (ax_rm 4 0 0) s m args below meth c D cA ad bs 788 SHp 0 0 (ax_MQ below args s D cA ad bs 788 SHp 0 0 (some (z_i q.1)) (q.1 = 0 ∨ q.1 = 1) q.2) 6 2 [(0, .ref (ad 758)), (1, z_i v1)] [] σ := by
  intro k
  induction k with
  | zero =>
    intro v1 c_v1 σ hf
    unfold f_X12_putsAll_2 at hf
    cases hf
  | succ k ih =>
    intro v1 c_v1 σ hf
    unfold f_X12_putsAll_2 at hf
    refine aw_iload_n X 1 dX12_putsAll_2 rfl rfl ?_
    refine aw_aload_n X 0 dX12_putsAll_3 rfl rfl ?_
    refine aw_getI X s_758 fX12_237 rfl dX12_putsAll_4 (fun c1 => ?_)
    refine aw_icmp_ge X (tgt := 23) c_v1 c1 dX12_putsAll_7 (by decide) (fun h2 => ?_) (fun h2 => ?_)
    · rw [if_pos h2] at hf
      refine aw_aload_n X 0 dX12_putsAll_23 rfl rfl ?_
      obtain ⟨q3, e4, hf⟩ := z_bd hf
      refine aw_callV X [] [] [z_i q3] cX12_450 s_758 ciX12 (C_X12_nextToPut l D cA sa ad bs σ q3 e4) rfl ⟨(Nat.le_of_ble_eq_true rfl), (Nat.le_of_ble_eq_true rfl), (Nat.le_of_ble_eq_true rfl), (Nat.le_of_ble_eq_true rfl)⟩ rfl (Nat.le_of_ble_eq_true rfl) rfl dX12_putsAll_24 (fun p5 => ?_)
      refine aw_istore_n X [(1, z_i q3), (0, .ref (ad 758))] dX12_putsAll_27 rfl (by decide) rfl ?_
      refine aw_sub [1, 0] rfl ?_
      exact A_X12_putsAll_28 X hr 100000 q3 p5 σ hf
    · rw [if_neg h2] at hf
      refine aw_aload_n X 0 dX12_putsAll_10 rfl rfl ?_
      refine aw_getR X s_758 fX12_89 rfl dX12_putsAll_11 ?_
      refine aw_iload_n X 1 dX12_putsAll_14 rfl rfl ?_
      refine aw_iconst X dX12_putsAll_15 ?_
      obtain ⟨g6, hf⟩ := z_gd hf
      refine aw_iast X (j := v1.toNat) s_783 c_v1 g6.1 g6.2 rfl (z_lit (x := (-1)) (by decide)) dX12_putsAll_16 ?_
      refine aw_iinc X 1 [(1, z_i (z_w (v1 + 1))), (0, .ref (ad 758))] dX12_putsAll_17 rfl (by decide) rfl ?_
      refine aw_goto X (tgt := 2) dX12_putsAll_20 (by decide) ?_
      refine aw_sub [1, 0] rfl ?_
      exact ih (z_w (v1 + 1)) (z_w_in _) (u2 σ 783 v1.toNat (-1)) hf
end S_X12_putsAll
set_option maxHeartbeats 4000000 in
set_option maxRecDepth 100000 in
theorem C_X12_putsAll (l : Launch) (D : va_G) (cA : Nat → ClassId) (sa ad : Nat → Nat) (bs : Nat)  (σ : Nat → Nat → Int) (q : (Int × (Nat → Nat → Int))) (hf : f_X12_putsAll σ = some q) : AM l D cA sa ad bs 788 SHp yX12_putsAll cX12_putsAll 6 (some .boolean) 4 [.ref (ad 758)] σ (some (z_i q.1)) (q.1 = 0 ∨ q.1 = 1) q.2 := by
  refine am_of (by decide +kernel) (Nat.le_of_ble_eq_true rfl) (fun p e s m args below meth c X hr => ?_)
  refine aw_lv (lv' := [(0, .ref (ad 758))]) rfl ?_
  unfold f_X12_putsAll at hf
  refine aw_iconst X dX12_putsAll_0 ?_
  refine aw_istore_n X [(1, z_i 0), (0, .ref (ad 758))] dX12_putsAll_1 rfl (by decide) rfl ?_
  refine aw_sub [1, 0] rfl ?_
  exact A_X12_putsAll_2 X hr 100000 0 (z_lit (x := 0) (by decide)) σ hf
