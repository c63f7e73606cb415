-- SpeedDeskModel.readScript()V
section S_X12_readScript
variable {p : Program} {l : Launch} {e : Env} {s : State} {m : MethodId} {args : Array Value} {below : List Frame} {meth : Method} {c : Code} {D : va_G} {cA : Nat → ClassId} {sa ad : Nat → Nat} {bs : Nat} {q : (Nat → Nat → Int)}
set_option maxHeartbeats 4000000 in
set_option maxRecDepth 100000 in
theorem A_X12_readScript_49 (X : AX p s m args meth c D cA sa bs cX12_readScript 3 RX12) (hr : meth.sig.returnType = none) (K4 : Int → Int → (Nat → Nat → Int) → Option (Nat → Nat → Int)) (hK4 : ∀ (v1 : Int) (c_v1 : Z_I v1) (v2 : Int) (c_v2 : Z_I v2) (σ : Nat → Nat → Int), K4 v1 v2 σ = some q → AW p l e (ax_rm 8 0 0) s m args below meth c D cA ad bs 788 SHp 0 0 (ax_MQ below args s D cA ad bs 788 SHp 0 0 none True q) 3 4 [(0, .ref (ad 758)), (1, z_i v1), (2, z_i v2)] [] σ) (v1 : Int) (c_v1 : Z_I v1) (σ : Nat → Nat → Int) (hf : f_X12_readScript_49 K4 v1 σ = some q) : AW p l e (ax_rm 8 0 0) s m args below meth c D cA ad bs 788 SHp 0 0 (ax_MQ below args s D cA ad bs 788 SHp 0 0 none True q) 3 49 [(0, .ref (ad 758)), (1, z_i v1)] [] σ := by
  unfold f_X12_readScript_49 at hf
  refine aw_aload_n X 0 dX12_readScript_49 rfl rfl ?_
  obtain ⟨q16, e17, hf⟩ := z_bd hf
  refine aw_callV X [] [] [z_i q16.1] cX12_213 s_758 ciX12 (C_X12_goesOn l D cA sa ad bs σ q16 e17) rfl ⟨(Nat.le_of_ble_eq_true rfl), (Nat.le_of_ble_eq_true rfl), (Nat.le_of_ble_eq_true rfl), (Nat.le_of_ble_eq_true rfl)⟩ rfl (Nat.le_of_ble_eq_true rfl) rfl dX12_readScript_50 (fun p18 => ?_)
  refine aw_istore_n X [(2, z_i q16.1), (0, .ref (ad 758)), (1, z_i v1)] dX12_readScript_53 rfl (by decide) rfl ?_
  refine aw_goto X (tgt := 4) dX12_readScript_54 (by decide) ?_
  refine aw_sub [1, 2, 0] rfl ?_
  exact hK4 v1 c_v1 q16.1 (z_zI p18) q16.2 hf
set_option maxHeartbeats 4000000 in
set_option maxRecDepth 100000 in
theorem A_X12_readScript_4 (X : AX p s m args meth c D cA sa bs cX12_readScript 3 RX12) (hr : meth.sig.returnType = none) : ∀ (k : Nat) (v1 : Int) (c_v1 : Z_I v1) (v2 : Int) (c_v2 : Z_I v2) (σ : Nat → Nat → Int), f_X12_readScript_4 k v1 v2 σ = some q → AW p l e (ax_rm 8 0 0) s m args below meth c D cA ad bs 788 SHp 0 0 (ax_MQ below args s D cA ad bs 788 SHp 0 0 none True q) 3 4 [(0, .ref (ad 758)), (1, z_i v1), (2, z_i v2)] [] σ := by
  intro k
  induction k with
  | zero =>
    intro v1 c_v1 v2 c_v2 σ hf
    unfold f_X12_readScript_4 at hf
    cases hf
  | succ k ih =>
    intro v1 c_v1 v2 c_v2 σ hf
    unfold f_X12_readScript_4 at hf
    refine aw_iload_n X 2 dX12_readScript_4 rfl rfl ?_
    refine aw_if_eq X (tgt := 57) c_v2 dX12_readScript_5 (by decide) (fun h1 => ?_) (fun h1 => ?_)
    · rw [if_pos h1] at hf
      refine aw_aload_n X 0 dX12_readScript_57 rfl rfl ?_
      refine aw_getR X s_758 fX12_57 rfl dX12_readScript_58 ?_
      refine aw_iconst X dX12_readScript_61 ?_
      refine aw_iload_n X 1 dX12_readScript_62 rfl rfl ?_
      refine aw_iast X (j := 4) s_774 (z_lit (x := 4) (by decide)) (by decide) (by decide) rfl c_v1 dX12_readScript_63 ?_
      obtain rfl := Option.some.inj hf
      exact aw_vret X trivial hr rfl dX12_readScript_64
    · rw [if_neg h1] at hf
      refine aw_aload_n X 0 dX12_readScript_8 rfl rfl ?_
      refine aw_iload_n X 1 dX12_readScript_9 rfl rfl ?_
      obtain ⟨q2, e3, hf⟩ := z_bd hf
      refine aw_callV X [z_i v1] [] [] cX12_216 s_758 ciX12 (C_X12_readStep l D cA sa ad bs v1 c_v1 σ q2 e3) rfl ⟨(Nat.le_of_ble_eq_true rfl), (Nat.le_of_ble_eq_true rfl), (Nat.le_of_ble_eq_true rfl), (Nat.le_of_ble_eq_true rfl)⟩ rfl (Nat.le_of_ble_eq_true rfl) rfl dX12_readScript_10 (fun p4 => ?_)
      refine aw_aload_n X 0 dX12_readScript_13 rfl rfl ?_
      refine aw_getI X s_758 fX12_122 rfl dX12_readScript_14 (fun c5 => ?_)
      refine aw_iconst X dX12_readScript_17 ?_
      refine aw_icmp_eq X (tgt := 22) c5 (z_lit (x := (-1)) (by decide)) dX12_readScript_18 (by decide) (fun h6 => ?_) (fun h6 => ?_)
      · rw [if_pos h6] at hf
        refine aw_iinc X 1 [(1, z_i (z_w (v1 + 1))), (0, .ref (ad 758)), (2, z_i v2)] dX12_readScript_22 rfl (by decide) rfl ?_
        refine aw_aload_n X 1 dX12_readScript_25 rfl rfl ?_
        obtain ⟨q7, e8, hf⟩ := z_bd hf
        refine aw_callV X [] [] [z_i q7.1] cX12_133 s_758 ciX12 (C_X12_look l D cA sa ad bs q2 q7 e8) rfl ⟨(Nat.le_of_ble_eq_true rfl), (Nat.le_of_ble_eq_true rfl), (Nat.le_of_ble_eq_true rfl), (Nat.le_of_ble_eq_true rfl)⟩ rfl (Nat.le_of_ble_eq_true rfl) rfl dX12_readScript_26 (fun p9 => ?_)
        refine aw_bipush X dX12_readScript_29 (by decide) ?_
        refine aw_icmp_ne X (tgt := 49) p9 (z_lit (x := 59) (by decide)) dX12_readScript_31 (by decide) (fun h10 => ?_) (fun h10 => ?_)
        · rw [if_neg h10] at hf
          refine aw_sub [1, 0] rfl ?_
          exact A_X12_readScript_49 X hr (f_X12_readScript_4 k) ih (z_w (v1 + 1)) (z_w_in _) q7.2 hf
        · rw [if_pos h10] at hf
          refine aw_iload_n X 0 dX12_readScript_34 rfl rfl ?_
          refine aw_bipush X dX12_readScript_35 (by decide) ?_
          refine aw_icmp_ne X (tgt := 49) (z_w_in _) (z_lit (x := 12) (by decide)) dX12_readScript_37 (by decide) (fun h11 => ?_) (fun h11 => ?_)
          · rw [if_neg h11] at hf
            refine aw_sub [1, 0] rfl ?_
            exact A_X12_readScript_49 X hr (f_X12_readScript_4 k) ih (z_w (v1 + 1)) (z_w_in _) q7.2 hf
          · rw [if_pos h11] at hf
            refine aw_aload_n X 1 dX12_readScript_40 rfl rfl ?_
            refine aw_aload_n X 1 dX12_readScript_41 rfl rfl ?_
            refine aw_getI X s_758 fX12_115 rfl dX12_readScript_42 (fun c12 => ?_)
            obtain ⟨q13, e14, hf⟩ := z_bd hf
            refine aw_callV X [z_i (q7.2 758 3)] [] [] cX12_147 s_758 ciX12 (C_X12_fails l D cA sa ad bs (q7.2 758 3) c12 q7.2 q13 e14) rfl ⟨(Nat.le_of_ble_eq_true rfl), (Nat.le_of_ble_eq_true rfl), (Nat.le_of_ble_eq_true rfl), (Nat.le_of_ble_eq_true rfl)⟩ rfl (Nat.le_of_ble_eq_true rfl) rfl dX12_readScript_45 (fun p15 => ?_)
            obtain rfl := Option.some.inj hf
            exact aw_vret X trivial hr rfl dX12_readScript_48
      · rw [if_neg h6] at hf
        obtain rfl := Option.some.inj hf
        exact aw_vret X trivial hr rfl dX12_readScript_21
end S_X12_readScript
set_option maxHeartbeats 4000000 in
set_option maxRecDepth 100000 in
theorem C_X12_readScript (l : Launch) (D : va_G) (cA : Nat → ClassId) (sa ad : Nat → Nat) (bs : Nat)  (σ : Nat → Nat → Int) (q : (Nat → Nat → Int)) (hf : f_X12_readScript σ = some q) : AM l D cA sa ad bs 788 SHp yX12_readScript cX12_readScript 3 none 8 [.ref (ad 758)] σ none True q := by
  refine am_of (by decide +kernel) (Nat.le_of_ble_eq_true rfl) (fun p e s m args below meth c X hr => ?_)
  refine aw_lv (lv' := [(0, .ref (ad 758))]) rfl ?_
  unfold f_X12_readScript at hf
  refine aw_iconst X dX12_readScript_0 ?_
  refine aw_istore_n X [(1, z_i 0), (0, .ref (ad 758))] dX12_readScript_1 rfl (by decide) rfl ?_
  refine aw_iconst X dX12_readScript_2 ?_
  refine aw_istore_n X [(2, z_i 1), (1, z_i 0), (0, .ref (ad 758))] dX12_readScript_3 rfl (by decide) rfl ?_
  refine aw_sub [2, 1, 0] rfl ?_
  exact A_X12_readScript_4 X hr 100000 0 (z_lit (x := 0) (by decide)) 1 (z_lit (x := 1) (by decide)) σ hf
-- SpeedDeskModel.readAsker()V
section S_X12_readAsker
variable {p : Program} {l : Launch} {e : Env} {s : State} {m : MethodId} {args : Array Value} {below : List Frame} {meth : Method} {c : Code} {D : va_G} {cA : Nat → ClassId} {sa ad : Nat → Nat} {bs : Nat} {q : (Nat → Nat → Int)}

end S_X12_readAsker
set_option maxHeartbeats 4000000 in
set_option maxRecDepth 100000 in
theorem C_X12_readAsker (l : Launch) (D : va_G) (cA : Nat → ClassId) (sa ad : Nat → Nat) (bs : Nat)  (σ : Nat → Nat → Int) (q : (Nat → Nat → Int)) (hf : f_X12_readAsker σ = some q) : AM l D cA sa ad bs 788 SHp yX12_readAsker cX12_readAsker 1 none 3 [.ref (ad 758)] σ none True q := by
  refine am_of (by decide +kernel) (Nat.le_of_ble_eq_true rfl) (fun p e s m args below meth c X hr => ?_)
  refine aw_lv (lv' := [(0, .ref (ad 758))]) rfl ?_
  unfold f_X12_readAsker at hf
  refine aw_aload_n X 0 dX12_readAsker_0 rfl rfl ?_
  obtain ⟨q1, e2, hf⟩ := z_bd hf
  refine aw_callV X [] [] [] cX12_160 s_758 ciX12 (C_X12_word l D cA sa ad bs σ q1 e2) rfl ⟨(Nat.le_of_ble_eq_true rfl), (Nat.le_of_ble_eq_true rfl), (Nat.le_of_ble_eq_true rfl), (Nat.le_of_ble_eq_true rfl)⟩ rfl (Nat.le_of_ble_eq_true rfl) rfl dX12_readAsker_1 (fun p3 => ?_)
  refine aw_aload_n X 0 dX12_readAsker_4 rfl rfl ?_
  refine aw_getI X s_758 fX12_122 rfl dX12_readAsker_5 (fun c4 => ?_)
  refine aw_iconst X dX12_readAsker_8 ?_
  refine aw_icmp_ne X (tgt := 28) c4 (z_lit (x := (-1)) (by decide)) dX12_readAsker_9 (by decide) (fun h5 => ?_) (fun h5 => ?_)
  · rw [if_neg h5] at hf
    obtain rfl := Option.some.inj hf
    exact aw_vret X trivial hr rfl dX12_readAsker_28
  · rw [if_pos h5] at hf
    refine aw_aload_n X 0 dX12_readAsker_12 rfl rfl ?_
    obtain ⟨q6, e7, hf⟩ := z_bd hf
    refine aw_callV X [] [] [z_i q6.1] cX12_133 s_758 ciX12 (C_X12_look l D cA sa ad bs q1 q6 e7) rfl ⟨(Nat.le_of_ble_eq_true rfl), (Nat.le_of_ble_eq_true rfl), (Nat.le_of_ble_eq_true rfl), (Nat.le_of_ble_eq_true rfl)⟩ rfl (Nat.le_of_ble_eq_true rfl) rfl dX12_readAsker_13 (fun p8 => ?_)
    refine aw_iconst X dX12_readAsker_16 ?_
    refine aw_icmp_eq X (tgt := 28) p8 (z_lit (x := (-1)) (by decide)) dX12_readAsker_17 (by decide) (fun h9 => ?_) (fun h9 => ?_)
    · rw [if_pos h9] at hf
      obtain rfl := Option.some.inj hf
      exact aw_vret X trivial hr rfl dX12_readAsker_28
    · rw [if_neg h9] at hf
      refine aw_aload_n X 0 dX12_readAsker_20 rfl rfl ?_
      refine aw_aload_n X 0 dX12_readAsker_21 rfl rfl ?_
      refine aw_getI X s_758 fX12_115 rfl dX12_readAsker_22 (fun c10 => ?_)
      obtain ⟨q11, e12, hf⟩ := z_bd hf
      refine aw_callV X [z_i (q6.2 758 3)] [] [] cX12_147 s_758 ciX12 (C_X12_fails l D cA sa ad bs (q6.2 758 3) c10 q6.2 q11 e12) rfl ⟨(Nat.le_of_ble_eq_true rfl), (Nat.le_of_ble_eq_true rfl), (Nat.le_of_ble_eq_true rfl), (Nat.le_of_ble_eq_true rfl)⟩ rfl (Nat.le_of_ble_eq_true rfl) rfl dX12_readAsker_25 (fun p13 => ?_)
      obtain rfl := Option.some.inj hf
      exact aw_vret X trivial hr rfl dX12_readAsker_28
-- SpeedDeskModel.fault(I)I
section S_X12_fault
variable {p : Program} {l : Launch} {e : Env} {s : State} {m : MethodId} {args : Array Value} {below : List Frame} {meth : Method} {c : Code} {D : va_G} {cA : Nat → ClassId} {sa ad : Nat → Nat} {bs : Nat} {q : (Int × (Nat → Nat → Int))}

end S_X12_fault
set_option maxHeartbeats 4000000 in
set_option maxRecDepth 100000 in
theorem C_X12_fault (l : Launch) (D : va_G) (cA : Nat → ClassId) (sa ad : Nat → Nat) (bs : Nat) (v1 : Int) (c_v1 : Z_I v1) (σ : Nat → Nat → Int) (q : (Int × (Nat → Nat → Int))) (hf : f_X12_fault v1 σ = some q) : AM l D cA sa ad bs 788 SHp yX12_fault cX12_fault 2 (some .int) 11 [.ref (ad 758), z_i v1] σ (some (z_i q.1)) (Z_I q.1) q.2 := by
  refine am_of (by decide +kernel) (Nat.le_of_ble_eq_true rfl) (fun p e s m args below meth c X hr => ?_)
  refine aw_lv (lv' := [(0, .ref (ad 758)), (1, z_i v1)]) rfl ?_
  unfold f_X12_fault at hf
  refine aw_aload_n X 0 dX12_fault_0 rfl rfl ?_
  refine aw_iconst X dX12_fault_1 ?_
  refine aw_putI X s_758 pX12_101 rfl (z_lit (x := 0) (by decide)) dX12_fault_2 ?_
  refine aw_iload_n X 1 dX12_fault_5 rfl rfl ?_
  refine aw_i2l X c_v1 dX12_fault_6 ?_
  refine aw_lconst X (x := 0) dX12_fault_7 (by decide) ?_
  refine aw_ldc2 X (x := 2) dX12_fault_8 kX12_219 (by decide) ?_
  obtain ⟨q1, e2, hf⟩ := z_bd hf
  refine aw_callS X [z_v v1, z_v 0, z_v 2] [] [z_i q1] cX12_156 (C_X12_isIn l D cA sa ad bs v1 (z_IL c_v1) 0 (z_litL (x := 0) (by decide)) 2 (z_litL (x := 2) (by decide)) (u2 σ 758 0 0) q1 e2) rfl ⟨(Nat.le_of_ble_eq_true rfl), (Nat.le_of_ble_eq_true rfl), (Nat.le_of_ble_eq_true rfl), (Nat.le_of_ble_eq_true rfl)⟩ rfl (Nat.le_of_ble_eq_true rfl) rfl dX12_fault_11 (fun p3 => ?_)
  refine aw_if_ne X (tgt := 20) (z_zI p3) dX12_fault_14 (by decide) (fun h4 => ?_) (fun h4 => ?_)
  · rw [if_neg h4] at hf
    refine aw_aload_n X 0 dX12_fault_20 rfl rfl ?_
    refine aw_iconst X dX12_fault_21 ?_
    refine aw_putI X s_758 pX12_115 rfl (z_lit (x := 0) (by decide)) dX12_fault_22 ?_
    refine aw_aload_n X 0 dX12_fault_25 rfl rfl ?_
    refine aw_iconst X dX12_fault_26 ?_
    refine aw_putI X s_758 pX12_122 rfl (z_lit (x := (-1)) (by decide)) dX12_fault_27 ?_
    refine aw_iload_n X 1 dX12_fault_30 rfl rfl ?_
    refine aw_if_ne X (tgt := 41) c_v1 dX12_fault_31 (by decide) (fun h5 => ?_) (fun h5 => ?_)
    · rw [if_neg h5] at hf
      refine aw_iload_n X 1 dX12_fault_41 rfl rfl ?_
      refine aw_iconst X dX12_fault_42 ?_
      refine aw_icmp_ne X (tgt := 53) c_v1 (z_lit (x := 1) (by decide)) dX12_fault_43 (by decide) (fun h6 => ?_) (fun h6 => ?_)
      · rw [if_neg h6] at hf
        refine aw_aload_n X 0 dX12_fault_53 rfl rfl ?_
        obtain ⟨q7, e8, hf⟩ := z_bd hf
        refine aw_callV X [] [] [] cX12_227 s_758 ciX12 (C_X12_readAsker l D cA sa ad bs (u2 (u2 (u2 σ 758 0 0) 758 3 0) 758 4 (-1)) q7 e8) rfl ⟨(Nat.le_of_ble_eq_true rfl), (Nat.le_of_ble_eq_true rfl), (Nat.le_of_ble_eq_true rfl), (Nat.le_of_ble_eq_true rfl)⟩ rfl (Nat.le_of_ble_eq_true rfl) rfl dX12_fault_54 (fun p9 => ?_)
        refine aw_aload_n X 0 dX12_fault_57 rfl rfl ?_
        refine aw_getI X s_758 fX12_122 rfl dX12_fault_58 (fun c10 => ?_)
        obtain rfl := Option.some.inj hf
        exact aw_iret X c10 hr rfl dX12_fault_61
      · rw [if_pos h6] at hf
        refine aw_aload_n X 0 dX12_fault_46 rfl rfl ?_
        obtain ⟨q11, e12, hf⟩ := z_bd hf
        refine aw_callV X [] [] [] cX12_224 s_758 ciX12 (C_X12_readScript l D cA sa ad bs (u2 (u2 (u2 σ 758 0 0) 758 3 0) 758 4 (-1)) q11 e12) rfl ⟨(Nat.le_of_ble_eq_true rfl), (Nat.le_of_ble_eq_true rfl), (Nat.le_of_ble_eq_true rfl), (Nat.le_of_ble_eq_true rfl)⟩ rfl (Nat.le_of_ble_eq_true rfl) rfl dX12_fault_47 (fun p13 => ?_)
        refine aw_goto X (tgt := 57) dX12_fault_50 (by decide) ?_
        refine aw_aload_n X 0 dX12_fault_57 rfl rfl ?_
        refine aw_getI X s_758 fX12_122 rfl dX12_fault_58 (fun c14 => ?_)
        obtain rfl := Option.some.inj hf
        exact aw_iret X c14 hr rfl dX12_fault_61
    · rw [if_pos h5] at hf
      refine aw_aload_n X 0 dX12_fault_34 rfl rfl ?_
      obtain ⟨q15, e16, hf⟩ := z_bd hf
      refine aw_callV X [] [] [] cX12_221 s_758 ciX12 (C_X12_readChip l D cA sa ad bs (u2 (u2 (u2 σ 758 0 0) 758 3 0) 758 4 (-1)) q15 e16) rfl ⟨(Nat.le_of_ble_eq_true rfl), (Nat.le_of_ble_eq_true rfl), (Nat.le_of_ble_eq_true rfl), (Nat.le_of_ble_eq_true rfl)⟩ rfl (Nat.le_of_ble_eq_true rfl) rfl dX12_fault_35 (fun p17 => ?_)
      refine aw_goto X (tgt := 57) dX12_fault_38 (by decide) ?_
      refine aw_aload_n X 0 dX12_fault_57 rfl rfl ?_
      refine aw_getI X s_758 fX12_122 rfl dX12_fault_58 (fun c18 => ?_)
      obtain rfl := Option.some.inj hf
      exact aw_iret X c18 hr rfl dX12_fault_61
  · rw [if_pos h4] at hf
    refine aw_bipush X dX12_fault_17 (by decide) ?_
    obtain rfl := Option.some.inj hf
    exact aw_iret X (z_lit (x := (-2)) (by decide)) hr rfl dX12_fault_19
-- SpeedDeskModel.copyAll([I[I)V
section S_X12_copyAll
variable {p : Program} {l : Launch} {e : Env} {s : State} {m : MethodId} {args : Array Value} {below : List Frame} {meth : Method} {c : Code} {D : va_G} {cA : Nat → ClassId} {sa ad : Nat → Nat} {bs : Nat} {q : (Nat → Nat → Int)}
set_option maxHeartbeats 4000000 in
set_option maxRecDepth 100000 in
theorem A_X12_copyAll_2 (X : AX p s m args meth c D cA sa bs cX12_copyAll 3 RX12) (hr : meth.sig.returnType = none) : ∀ (k : Nat) (a0 : Nat) (n_a0 : Nat) (h_a0 : a0 < 788 ∧ SHp a0 = .inr (0, n_a0, [])) (a1 : Nat) (n_a1 : Nat) (h_a1 : a1 < 788 ∧ SHp a1 = .inr (0, n_a1, [])) (v2 : Int) (c_v2 : Z_I v2) (σ : Nat → Nat → Int), f_X12_copyAll_2 k a0 n_a0 a1 n_a1 v2 σ = some q → AW p l e (ax_rm 0 0 0) s m args below meth c D cA ad bs 788 SHp 0 0 (ax_MQ below args s D cA ad bs 788 SHp 0 0 none True q) 3 2 [(0, .ref (ad a0)), (1, .ref (ad a1)), (2, z_i v2)] [] σ := by
  intro k
  induction k with
  | zero =>
    intro a0 n_a0 h_a0 a1 n_a1 h_a1 v2 c_v2 σ hf
    unfold f_X12_copyAll_2 at hf
    cases hf
  | succ k ih =>
    intro a0 n_a0 h_a0 a1 n_a1 h_a1 v2 c_v2 σ hf
    unfold f_X12_copyAll_2 at hf
    refine aw_iload_n X 2 dX12_copyAll_2 rfl rfl ?_
    refine aw_aload_n X 0 dX12_copyAll_3 rfl rfl ?_
    refine aw_alenI X (x := (n_a0 : Int)) h_a0 rfl dX12_copyAll_4 ?_
    refine aw_icmp_ge X (tgt := 20) c_v2 (z_len h_a0) dX12_copyAll_5 (by decide) (fun h1 => ?_) (fun h1 => ?_)
    · rw [if_pos h1] at hf
      obtain rfl := Option.some.inj hf
      exact aw_vret X trivial hr rfl dX12_copyAll_20
    · rw [if_neg h1] at hf
      refine aw_aload_n X 1 dX12_copyAll_8 rfl rfl ?_
      refine aw_iload_n X 2 dX12_copyAll_9 rfl rfl ?_
      refine aw_aload_n X 0 dX12_copyAll_10 rfl rfl ?_
      refine aw_iload_n X 2 dX12_copyAll_11 rfl rfl ?_
      obtain ⟨g2, hf⟩ := z_gd hf
      refine aw_iald X (j := v2.toNat) h_a0 c_v2 g2.1 g2.2 rfl dX12_copyAll_12 (fun c3 => ?_)
      obtain ⟨g4, hf⟩ := z_gd hf
      refine aw_iast X (j := v2.toNat) h_a1 c_v2 g4.1 g4.2 rfl c3 dX12_copyAll_13 ?_
      refine aw_iinc X 2 [(2, z_i (z_w (v2 + 1))), (0, .ref (ad a0)), (1, .ref (ad a1))] dX12_copyAll_14 rfl (by decide) rfl ?_
      refine aw_goto X (tgt := 2) dX12_copyAll_17 (by decide) ?_
      refine aw_sub [1, 2, 0] rfl ?_
      exact ih a0 n_a0 h_a0 a1 n_a1 h_a1 (z_w (v2 + 1)) (z_w_in _) (u2 σ a1 v2.toNat (σ a0 v2.toNat)) hf
end S_X12_copyAll
set_option maxHeartbeats 4000000 in
set_option maxRecDepth 100000 in
theorem C_X12_copyAll (l : Launch) (D : va_G) (cA : Nat → ClassId) (sa ad : Nat → Nat) (bs : Nat) (a0 : Nat) (n_a0 : Nat) (h_a0 : a0 < 788 ∧ SHp a0 = .inr (0, n_a0, [])) (a1 : Nat) (n_a1 : Nat) (h_a1 : a1 < 788 ∧ SHp a1 = .inr (0, n_a1, [])) (σ : Nat → Nat → Int) (q : (Nat → Nat → Int)) (hf : f_X12_copyAll a0 n_a0 a1 n_a1 σ = some q) : AM l D cA sa ad bs 788 SHp yX12_copyAll cX12_copyAll 3 none 0 [.ref (ad a0), .ref (ad a1)] σ none True q := by
  refine am_of (by decide +kernel) (Nat.le_of_ble_eq_true rfl) (fun p e s m args below meth c X hr => ?_)
  refine aw_lv (lv' := [(0, .ref (ad a0)), (1, .ref (ad a1))]) rfl ?_
  unfold f_X12_copyAll at hf
  refine aw_iconst X dX12_copyAll_0 ?_
  refine aw_istore_n X [(2, z_i 0), (0, .ref (ad a0)), (1, .ref (ad a1))] dX12_copyAll_1 rfl (by decide) rfl ?_
  refine aw_sub [1, 2, 0] rfl ?_
  exact A_X12_copyAll_2 X hr 100000 a0 n_a0 h_a0 a1 n_a1 h_a1 0 (z_lit (x := 0) (by decide)) σ hf
-- SpeedDeskModel.lastPoint(I)I
section S_X12_lastPoint
variable {p : Program} {l : Launch} {e : Env} {s : State} {m : MethodId} {args : Array Value} {below : List Frame} {meth : Method} {c : Code} {D : va_G} {cA : Nat → ClassId} {sa ad : Nat → Nat} {bs : Nat} {q : Int}

end S_X12_lastPoint
set_option maxHeartbeats 4000000 in
set_option maxRecDepth 100000 in
theorem C_X12_lastPoint (l : Launch) (D : va_G) (cA : Nat → ClassId) (sa ad : Nat → Nat) (bs : Nat) (v1 : Int) (c_v1 : Z_I v1) (σ : Nat → Nat → Int) (q : Int) (hf : f_X12_lastPoint v1 σ = some q) : AM l D cA sa ad bs 788 SHp yX12_lastPoint cX12_lastPoint 2 (some .int) 0 [.ref (ad 758), z_i v1] σ (some (z_i q)) (Z_I q) σ := by
  refine am_of (by decide +kernel) (Nat.le_of_ble_eq_true rfl) (fun p e s m args below meth c X hr => ?_)
  refine aw_lv (lv' := [(0, .ref (ad 758)), (1, z_i v1)]) rfl ?_
  unfold f_X12_lastPoint at hf
  refine aw_aload_n X 0 dX12_lastPoint_0 rfl rfl ?_
  refine aw_getR X s_758 fX12_23 rfl dX12_lastPoint_1 ?_
  refine aw_iconst X dX12_lastPoint_4 ?_
  refine aw_iload_n X 1 dX12_lastPoint_5 rfl rfl ?_
  refine aw_imul X dX12_lastPoint_6 ?_
  refine aw_iconst X dX12_lastPoint_7 ?_
  refine aw_iadd X dX12_lastPoint_8 ?_
  obtain ⟨g1, hf⟩ := z_gd hf
  refine aw_iald X (j := (z_w ((z_w (4 * v1)) + 3)).toNat) s_763 (z_w_in _) g1.1 g1.2 rfl dX12_lastPoint_9 (fun c2 => ?_)
  refine aw_iconst X dX12_lastPoint_10 ?_
  refine aw_isub X dX12_lastPoint_11 ?_
  obtain rfl := Option.some.inj hf
  exact aw_iret X (z_w_in _) hr rfl dX12_lastPoint_12
-- SpeedDeskModel.speed(II)I
section S_X12_speed
variable {p : Program} {l : Launch} {e : Env} {s : State} {m : MethodId} {args : Array Value} {below : List Frame} {meth : Method} {c : Code} {D : va_G} {cA : Nat → ClassId} {sa ad : Nat → Nat} {bs : Nat} {q : Int}

end S_X12_speed
set_option maxHeartbeats 4000000 in
set_option maxRecDepth 100000 in
theorem C_X12_speed (l : Launch) (D : va_G) (cA : Nat → ClassId) (sa ad : Nat → Nat) (bs : Nat) (v1 : Int) (c_v1 : Z_I v1) (v2 : Int) (c_v2 : Z_I v2) (σ : Nat → Nat → Int) (q : Int) (hf : f_X12_speed v1 v2 σ = some q) : AM l D cA sa ad bs 788 SHp yX12_speed cX12_speed 3 (some .int) 0 [.ref (ad 758), z_i v1, z_i v2] σ (some (z_i q)) (Z_I q) σ := by
  refine am_of (by decide +kernel) (Nat.le_of_ble_eq_true rfl) (fun p e s m args below meth c X hr => ?_)
  refine aw_lv (lv' := [(0, .ref (ad 758)), (1, z_i v1), (2, z_i v2)]) rfl ?_
  unfold f_X12_speed at hf
  refine aw_aload_n X 0 dX12_speed_0 rfl rfl ?_
  refine aw_getR X s_758 fX12_29 rfl dX12_speed_1 ?_
  refine aw_iconst X dX12_speed_4 ?_
  refine aw_iconst X dX12_speed_5 ?_
  refine aw_iload_n X 1 dX12_speed_6 rfl rfl ?_
  refine aw_imul X dX12_speed_7 ?_
  refine aw_iload_n X 2 dX12_speed_8 rfl rfl ?_
  refine aw_iadd X dX12_speed_9 ?_
  refine aw_imul X dX12_speed_10 ?_
  obtain ⟨g1, hf⟩ := z_gd hf
  refine aw_iald X (j := (z_w (2 * (z_w ((z_w (5 * v1)) + v2)))).toNat) s_765 (z_w_in _) g1.1 g1.2 rfl dX12_speed_11 (fun c2 => ?_)
  obtain rfl := Option.some.inj hf
  exact aw_iret X c2 hr rfl dX12_speed_12
-- SpeedDeskModel.tells()V
section S_X12_tells
variable {p : Program} {l : Launch} {e : Env} {s : State} {m : MethodId} {args : Array Value} {below : List Frame} {meth : Method} {c : Code} {D : va_G} {cA : Nat → ClassId} {sa ad : Nat → Nat} {bs : Nat} {q : (Nat → Nat → Int)}
set_option maxHeartbeats 4000000 in
set_option maxRecDepth 100000 in
theorem A_X12_tells_125 (X : AX p s m args meth c D cA sa bs cX12_tells 2 RX12) (hr : meth.sig.returnType = none) : ∀ (k : Nat) (v1 : Int) (c_v1 : Z_I v1) (σ : Nat → Nat → Int), f_X12_tells_125 k v1 σ = some q → AW p l e (ax_rm 1 0 0) s m args below meth c D cA ad bs 788 SHp 0 0 (ax_MQ below args s D cA ad bs 788 SHp 0 0 none True q) 2 125 [(0, .ref (ad 758)), (1, z_i v1)] [] σ := by
  intro k
  induction k with
  | zero =>
    intro v1 c_v1 σ hf
    unfold f_X12_tells_125 at hf
    cases hf
  | succ k ih =>
    intro v1 c_v1 σ hf
    unfold f_X12_tells_125 at hf
    refine aw_iload_n X 1 dX12_tells_125 rfl rfl ?_
    refine aw_aload_n X 0 dX12_tells_126 rfl rfl ?_
    refine aw_getI X s_758 fX12_234 rfl dX12_tells_127 (fun c24 => ?_)
    refine aw_icmp_ge X (tgt := 177) c_v1 c24 dX12_tells_130 (by decide) (fun h25 => ?_) (fun h25 => ?_)
    · rw [if_pos h25] at hf
      obtain rfl := Option.some.inj hf
      exact aw_vret X trivial hr rfl dX12_tells_177
    · rw [if_neg h25] at hf
      refine aw_aload_n X 0 dX12_tells_133 rfl rfl ?_
      refine aw_aload_n X 0 dX12_tells_134 rfl rfl ?_
      refine aw_iload_n X 1 dX12_tells_135 rfl rfl ?_
      refine aw_aload_n X 0 dX12_tells_136 rfl rfl ?_
      refine aw_iload_n X 1 dX12_tells_137 rfl rfl ?_
      obtain ⟨q26, e27, hf⟩ := z_bd hf
      refine aw_callV X [z_i v1] [z_i v1, .ref (ad 758), .ref (ad 758)] [z_i q26, z_i v1, .ref (ad 758), .ref (ad 758)] cX12_246 s_758 ciX12 (C_X12_lastPoint l D cA sa ad bs v1 c_v1 σ q26 e27) rfl ⟨(Nat.le_of_ble_eq_true rfl), (Nat.le_of_ble_eq_true rfl), (Nat.le_of_ble_eq_true rfl), (Nat.le_of_ble_eq_true rfl)⟩ rfl (Nat.le_of_ble_eq_true rfl) rfl dX12_tells_138 (fun p28 => ?_)
      obtain ⟨q29, e30, hf⟩ := z_bd hf
      refine aw_callV X [z_i v1, z_i q26] [.ref (ad 758)] [z_i q29, .ref (ad 758)] cX12_249 s_758 ciX12 (C_X12_speed l D cA sa ad bs v1 c_v1 q26 p28 σ q29 e30) rfl ⟨(Nat.le_of_ble_eq_true rfl), (Nat.le_of_ble_eq_true rfl), (Nat.le_of_ble_eq_true rfl), (Nat.le_of_ble_eq_true rfl)⟩ rfl (Nat.le_of_ble_eq_true rfl) rfl dX12_tells_141 (fun p31 => ?_)
      refine aw_aload_n X 0 dX12_tells_144 rfl rfl ?_
      refine aw_getI X s_758 fX12_243 rfl dX12_tells_145 (fun c32 => ?_)
      refine aw_icmp_le X (tgt := 164) p31 c32 dX12_tells_148 (by decide) (fun h33 => ?_) (fun h33 => ?_)
      · rw [if_pos h33] at hf
        refine aw_aload_n X 0 dX12_tells_164 rfl rfl ?_
        refine aw_getI X s_758 fX12_243 rfl dX12_tells_165 (fun c34 => ?_)
        refine aw_putI X s_758 pX12_243 rfl c34 dX12_tells_168 ?_
        refine aw_iinc X 1 [(1, z_i (z_w (v1 + 1))), (0, .ref (ad 758))] dX12_tells_171 rfl (by decide) rfl ?_
        refine aw_goto X (tgt := 125) dX12_tells_174 (by decide) ?_
        refine aw_sub [1, 0] rfl ?_
        exact ih (z_w (v1 + 1)) (z_w_in _) (u2 σ 758 26 (σ 758 26)) hf
      · rw [if_neg h33] at hf
        refine aw_aload_n X 0 dX12_tells_151 rfl rfl ?_
        refine aw_iload_n X 1 dX12_tells_152 rfl rfl ?_
        refine aw_aload_n X 0 dX12_tells_153 rfl rfl ?_
        refine aw_iload_n X 1 dX12_tells_154 rfl rfl ?_
        obtain ⟨q35, e36, hf⟩ := z_bd hf
        refine aw_callV X [z_i v1] [z_i v1, .ref (ad 758), .ref (ad 758)] [z_i q35, z_i v1, .ref (ad 758), .ref (ad 758)] cX12_246 s_758 ciX12 (C_X12_lastPoint l D cA sa ad bs v1 c_v1 σ q35 e36) rfl ⟨(Nat.le_of_ble_eq_true rfl), (Nat.le_of_ble_eq_true rfl), (Nat.le_of_ble_eq_true rfl), (Nat.le_of_ble_eq_true rfl)⟩ rfl (Nat.le_of_ble_eq_true rfl) rfl dX12_tells_155 (fun p37 => ?_)
        obtain ⟨q38, e39, hf⟩ := z_bd hf
        refine aw_callV X [z_i v1, z_i q35] [.ref (ad 758)] [z_i q38, .ref (ad 758)] cX12_249 s_758 ciX12 (C_X12_speed l D cA sa ad bs v1 c_v1 q35 p37 σ q38 e39) rfl ⟨(Nat.le_of_ble_eq_true rfl), (Nat.le_of_ble_eq_true rfl), (Nat.le_of_ble_eq_true rfl), (Nat.le_of_ble_eq_true rfl)⟩ rfl (Nat.le_of_ble_eq_true rfl) rfl dX12_tells_158 (fun p40 => ?_)
        refine aw_goto X (tgt := 168) dX12_tells_161 (by decide) ?_
        refine aw_putI X s_758 pX12_243 rfl p40 dX12_tells_168 ?_
        refine aw_iinc X 1 [(1, z_i (z_w (v1 + 1))), (0, .ref (ad 758))] dX12_tells_171 rfl (by decide) rfl ?_
        refine aw_goto X (tgt := 125) dX12_tells_174 (by decide) ?_
        refine aw_sub [1, 0] rfl ?_
        exact ih (z_w (v1 + 1)) (z_w_in _) (u2 σ 758 26 q38) hf
set_option maxHeartbeats 4000000 in
set_option maxRecDepth 100000 in
theorem A_X12_tells_71 (X : AX p s m args meth c D cA sa bs cX12_tells 2 RX12) (hr : meth.sig.returnType = none) : ∀ (k : Nat) (v1 : Int) (c_v1 : Z_I v1) (σ : Nat → Nat → Int), f_X12_tells_71 k v1 σ = some q → AW p l e (ax_rm 1 0 0) s m args below meth c D cA ad bs 788 SHp 0 0 (ax_MQ below args s D cA ad bs 788 SHp 0 0 none True q) 2 71 [(0, .ref (ad 758)), (1, z_i v1)] [] σ := by
  intro k
  induction k with
  | zero =>
    intro v1 c_v1 σ hf
    unfold f_X12_tells_71 at hf
    cases hf
  | succ k ih =>
    intro v1 c_v1 σ hf
    unfold f_X12_tells_71 at hf
    refine aw_iload_n X 1 dX12_tells_71 rfl rfl ?_
    refine aw_iconst X dX12_tells_72 ?_
    refine aw_icmp_ge X (tgt := 94) c_v1 (z_lit (x := 4) (by decide)) dX12_tells_73 (by decide) (fun h17 => ?_) (fun h17 => ?_)
    · rw [if_pos h17] at hf
      refine aw_aload_n X 0 dX12_tells_94 rfl rfl ?_
      refine aw_aload_n X 0 dX12_tells_95 rfl rfl ?_
      refine aw_getI X s_758 fX12_166 rfl dX12_tells_96 (fun c18 => ?_)
      refine aw_putI X s_758 pX12_234 rfl c18 dX12_tells_99 ?_
      refine aw_aload_n X 0 dX12_tells_102 rfl rfl ?_
      refine aw_aload_n X 0 dX12_tells_103 rfl rfl ?_
      refine aw_getI X s_758 fX12_173 rfl dX12_tells_104 (fun c19 => ?_)
      refine aw_putI X s_758 pX12_237 rfl c19 dX12_tells_107 ?_
      refine aw_aload_n X 0 dX12_tells_110 rfl rfl ?_
      refine aw_aload_n X 0 dX12_tells_111 rfl rfl ?_
      refine aw_getI X s_758 fX12_183 rfl dX12_tells_112 (fun c20 => ?_)
      refine aw_putI X s_758 pX12_240 rfl c20 dX12_tells_115 ?_
      refine aw_aload_n X 0 dX12_tells_118 rfl rfl ?_
      refine aw_iconst X dX12_tells_119 ?_
      refine aw_putI X s_758 pX12_243 rfl (z_lit (x := 0) (by decide)) dX12_tells_120 ?_
      refine aw_iconst X dX12_tells_123 ?_
      refine aw_istore_n X [(1, z_i 0), (0, .ref (ad 758))] dX12_tells_124 rfl (by decide) rfl ?_
      refine aw_sub [1, 0] rfl ?_
      exact A_X12_tells_125 X hr 100000 0 (z_lit (x := 0) (by decide)) (u2 (u2 (u2 (u2 σ 758 21 (σ 758 20)) 758 23 ((u2 σ 758 21 (σ 758 20)) 758 22)) 758 25 ((u2 (u2 σ 758 21 (σ 758 20)) 758 23 ((u2 σ 758 21 (σ 758 20)) 758 22)) 758 24)) 758 26 0) hf
    · rw [if_neg h17] at hf
      refine aw_aload_n X 0 dX12_tells_76 rfl rfl ?_
      refine aw_getR X s_758 fX12_51 rfl dX12_tells_77 ?_
      refine aw_iload_n X 1 dX12_tells_80 rfl rfl ?_
      refine aw_aload_n X 0 dX12_tells_81 rfl rfl ?_
      refine aw_getR X s_758 fX12_48 rfl dX12_tells_82 ?_
      refine aw_iload_n X 1 dX12_tells_85 rfl rfl ?_
      obtain ⟨g21, hf⟩ := z_gd hf
      refine aw_lald X (j := v1.toNat) s_771 c_v1 g21.1 g21.2 rfl dX12_tells_86 (fun c22 => ?_)
      obtain ⟨g23, hf⟩ := z_gd hf
      refine aw_last X (j := v1.toNat) s_772 c_v1 g23.1 g23.2 rfl c22 dX12_tells_87 ?_
      refine aw_iinc X 1 [(1, z_i (z_w (v1 + 1))), (0, .ref (ad 758))] dX12_tells_88 rfl (by decide) rfl ?_
      refine aw_goto X (tgt := 71) dX12_tells_91 (by decide) ?_
      refine aw_sub [1, 0] rfl ?_
      exact ih (z_w (v1 + 1)) (z_w_in _) (u2 σ 772 v1.toNat (σ 771 v1.toNat)) hf
set_option maxHeartbeats 4000000 in
set_option maxRecDepth 100000 in
theorem A_X12_tells_46 (X : AX p s m args meth c D cA sa bs cX12_tells 2 RX12) (hr : meth.sig.returnType = none) : ∀ (k : Nat) (v1 : Int) (c_v1 : Z_I v1) (σ : Nat → Nat → Int), f_X12_tells_46 k v1 σ = some q → AW p l e (ax_rm 1 0 0) s m args below meth c D cA ad bs 788 SHp 0 0 (ax_MQ below args s D cA ad bs 788 SHp 0 0 none True q) 2 46 [(0, .ref (ad 758)), (1, z_i v1)] [] σ := by
  intro k
  induction k with
  | zero =>
    intro v1 c_v1 σ hf
    unfold f_X12_tells_46 at hf
    cases hf
  | succ k ih =>
    intro v1 c_v1 σ hf
    unfold f_X12_tells_46 at hf
    refine aw_iload_n X 1 dX12_tells_46 rfl rfl ?_
    refine aw_iconst X dX12_tells_47 ?_
    refine aw_icmp_ge X (tgt := 69) c_v1 (z_lit (x := 3) (by decide)) dX12_tells_48 (by decide) (fun h13 => ?_) (fun h13 => ?_)
    · rw [if_pos h13] at hf
      refine aw_iconst X dX12_tells_69 ?_
      refine aw_istore_n X [(1, z_i 0), (0, .ref (ad 758))] dX12_tells_70 rfl (by decide) rfl ?_
      refine aw_sub [1, 0] rfl ?_
      exact A_X12_tells_71 X hr 100000 0 (z_lit (x := 0) (by decide)) σ hf
    · rw [if_neg h13] at hf
      refine aw_aload_n X 0 dX12_tells_51 rfl rfl ?_
      refine aw_getR X s_758 fX12_45 rfl dX12_tells_52 ?_
      refine aw_iload_n X 1 dX12_tells_55 rfl rfl ?_
      refine aw_aload_n X 0 dX12_tells_56 rfl rfl ?_
      refine aw_getR X s_758 fX12_41 rfl dX12_tells_57 ?_
      refine aw_iload_n X 1 dX12_tells_60 rfl rfl ?_
      obtain ⟨g14, hf⟩ := z_gd hf
      refine aw_lald X (j := v1.toNat) s_769 c_v1 g14.1 g14.2 rfl dX12_tells_61 (fun c15 => ?_)
      obtain ⟨g16, hf⟩ := z_gd hf
      refine aw_last X (j := v1.toNat) s_770 c_v1 g16.1 g16.2 rfl c15 dX12_tells_62 ?_
      refine aw_iinc X 1 [(1, z_i (z_w (v1 + 1))), (0, .ref (ad 758))] dX12_tells_63 rfl (by decide) rfl ?_
      refine aw_goto X (tgt := 46) dX12_tells_66 (by decide) ?_
      refine aw_sub [1, 0] rfl ?_
      exact ih (z_w (v1 + 1)) (z_w_in _) (u2 σ 770 v1.toNat (σ 769 v1.toNat)) hf
end S_X12_tells
set_option maxHeartbeats 4000000 in
set_option maxRecDepth 100000 in
theorem C_X12_tells (l : Launch) (D : va_G) (cA : Nat → ClassId) (sa ad : Nat → Nat) (bs : Nat)  (σ : Nat → Nat → Int) (q : (Nat → Nat → Int)) (hf : f_X12_tells σ = some q) : AM l D cA sa ad bs 788 SHp yX12_tells cX12_tells 2 none 1 [.ref (ad 758)] σ none True q := by
  refine am_of (by decide +kernel) (Nat.le_of_ble_eq_true rfl) (fun p e s m args below meth c X hr => ?_)
  refine aw_lv (lv' := [(0, .ref (ad 758))]) rfl ?_
  unfold f_X12_tells at hf
  refine aw_aload_n X 0 dX12_tells_0 rfl rfl ?_
  refine aw_getR X s_758 fX12_13 rfl dX12_tells_1 ?_
  refine aw_aload_n X 0 dX12_tells_4 rfl rfl ?_
  refine aw_getR X s_758 fX12_17 rfl dX12_tells_5 ?_
  obtain ⟨q1, e2, hf⟩ := z_bd hf
  refine aw_callS X [.ref (ad 760), .ref (ad 761)] [] [] cX12_230 (C_X12_copyAll l D cA sa ad bs 760 6 s_760 761 6 s_761 σ q1 e2) rfl ⟨(Nat.le_of_ble_eq_true rfl), (Nat.le_of_ble_eq_true rfl), (Nat.le_of_ble_eq_true rfl), (Nat.le_of_ble_eq_true rfl)⟩ rfl (Nat.le_of_ble_eq_true rfl) rfl dX12_tells_8 (fun p3 => ?_)
  refine aw_aload_n X 0 dX12_tells_11 rfl rfl ?_
  refine aw_getR X s_758 fX12_20 rfl dX12_tells_12 ?_
  refine aw_aload_n X 0 dX12_tells_15 rfl rfl ?_
  refine aw_getR X s_758 fX12_23 rfl dX12_tells_16 ?_
  obtain ⟨q4, e5, hf⟩ := z_bd hf
  refine aw_callS X [.ref (ad 762), .ref (ad 763)] [] [] cX12_230 (C_X12_copyAll l D cA sa ad bs 762 12 s_762 763 12 s_763 q1 q4 e5) rfl ⟨(Nat.le_of_ble_eq_true rfl), (Nat.le_of_ble_eq_true rfl), (Nat.le_of_ble_eq_true rfl), (Nat.le_of_ble_eq_true rfl)⟩ rfl (Nat.le_of_ble_eq_true rfl) rfl dX12_tells_19 (fun p6 => ?_)
  refine aw_aload_n X 0 dX12_tells_22 rfl rfl ?_
  refine aw_getR X s_758 fX12_26 rfl dX12_tells_23 ?_
  refine aw_aload_n X 0 dX12_tells_26 rfl rfl ?_
  refine aw_getR X s_758 fX12_29 rfl dX12_tells_27 ?_
  obtain ⟨q7, e8, hf⟩ := z_bd hf
  refine aw_callS X [.ref (ad 764), .ref (ad 765)] [] [] cX12_230 (C_X12_copyAll l D cA sa ad bs 764 30 s_764 765 30 s_765 q4 q7 e8) rfl ⟨(Nat.le_of_ble_eq_true rfl), (Nat.le_of_ble_eq_true rfl), (Nat.le_of_ble_eq_true rfl), (Nat.le_of_ble_eq_true rfl)⟩ rfl (Nat.le_of_ble_eq_true rfl) rfl dX12_tells_30 (fun p9 => ?_)
  refine aw_aload_n X 0 dX12_tells_33 rfl rfl ?_
  refine aw_getR X s_758 fX12_32 rfl dX12_tells_34 ?_
  refine aw_aload_n X 0 dX12_tells_37 rfl rfl ?_
  refine aw_getR X s_758 fX12_35 rfl dX12_tells_38 ?_
  obtain ⟨q10, e11, hf⟩ := z_bd hf
  refine aw_callS X [.ref (ad 766), .ref (ad 767)] [] [] cX12_230 (C_X12_copyAll l D cA sa ad bs 766 8 s_766 767 8 s_767 q7 q10 e11) rfl ⟨(Nat.le_of_ble_eq_true rfl), (Nat.le_of_ble_eq_true rfl), (Nat.le_of_ble_eq_true rfl), (Nat.le_of_ble_eq_true rfl)⟩ rfl (Nat.le_of_ble_eq_true rfl) rfl dX12_tells_41 (fun p12 => ?_)
  refine aw_iconst X dX12_tells_44 ?_
  refine aw_istore_n X [(1, z_i 0), (0, .ref (ad 758))] dX12_tells_45 rfl (by decide) rfl ?_
  refine aw_sub [1, 0] rfl ?_
  exact A_X12_tells_46 X hr 100000 0 (z_lit (x := 0) (by decide)) q10 hf
-- SpeedDeskModel.text(I)I
section S_X12_text
variable {p : Program} {l : Launch} {e : Env} {s : State} {m : MethodId} {args : Array Value} {below : List Frame} {meth : Method} {c : Code} {D : va_G} {cA : Nat → ClassId} {sa ad : Nat → Nat} {bs : Nat} {q : (Int × (Nat → Nat → Int))}
set_option maxHeartbeats 4000000 in
set_option maxRecDepth 100000 in
theorem A_X12_text_162 (X : AX p s m args meth c D cA sa bs cX12_text 3 RX12) (hr : meth.sig.returnType = (some .int)) : ∀ (k : Nat) (v2 : Int) (c_v2 : Z_I v2) (σ : Nat → Nat → Int), f_X12_text_162 k v2 σ = some q → AW p l e (ax_rm 12 0 0) s m args below meth c D cA ad bs 788 SHp 0 0 (ax_MQ below args s D cA ad bs 788 SHp 0 0 (some (z_i q.1)) (Z_I q.1) q.2) 3 162 [(0, .ref (ad 758)), (2, z_i v2)] [] σ := by
  intro k
  induction k with
  | zero =>
    intro v2 c_v2 σ hf
    unfold f_X12_text_162 at hf
    cases hf
  | succ k ih =>
    intro v2 c_v2 σ hf
    unfold f_X12_text_162 at hf
    refine aw_iload_n X 1 dX12_text_162 rfl rfl ?_
    refine aw_sipush X dX12_text_163 (by decide) ?_
    refine aw_icmp_ge X (tgt := 182) c_v2 (z_lit (x := 256) (by decide)) dX12_text_166 (by decide) (fun h16 => ?_) (fun h16 => ?_)
    · rw [if_pos h16] at hf
      refine aw_aload_n X 0 dX12_text_182 rfl rfl ?_
      refine aw_iconst X dX12_text_183 ?_
      refine aw_putI X s_758 pX12_260 rfl (z_lit (x := 0) (by decide)) dX12_text_184 ?_
      refine aw_aload_n X 0 dX12_text_187 rfl rfl ?_
      refine aw_iconst X dX12_text_188 ?_
      refine aw_putZ X s_758 pX12_263 rfl (Or.inl rfl) dX12_text_189 ?_
      refine aw_aload_n X 0 dX12_text_192 rfl rfl ?_
      refine aw_getI X s_758 fX12_234 rfl dX12_text_193 (fun c17 => ?_)
      obtain rfl := Option.some.inj hf
      exact aw_iret X c17 hr rfl dX12_text_196
    · rw [if_neg h16] at hf
      refine aw_aload_n X 0 dX12_text_169 rfl rfl ?_
      refine aw_getR X s_758 fX12_63 rfl dX12_text_170 ?_
      refine aw_iload_n X 1 dX12_text_173 rfl rfl ?_
      refine aw_iconst X dX12_text_174 ?_
      obtain ⟨g18, hf⟩ := z_gd hf
      refine aw_iast X (j := v2.toNat) s_776 c_v2 g18.1 g18.2 rfl (z_lit (x := 0) (by decide)) dX12_text_175 ?_
      refine aw_iinc X 1 [(2, z_i (z_w (v2 + 1))), (0, .ref (ad 758))] dX12_text_176 rfl (by decide) rfl ?_
      refine aw_goto X (tgt := 162) dX12_text_179 (by decide) ?_
      refine aw_sub [1, 0] rfl ?_
      exact ih (z_w (v2 + 1)) (z_w_in _) (u2 σ 776 v2.toNat 0) hf
set_option maxHeartbeats 4000000 in
set_option maxRecDepth 100000 in
theorem A_X12_text_89 (X : AX p s m args meth c D cA sa bs cX12_text 3 RX12) (hr : meth.sig.returnType = (some .int)) : ∀ (k : Nat) (v2 : Int) (c_v2 : Z_I v2) (σ : Nat → Nat → Int), f_X12_text_89 k v2 σ = some q → AW p l e (ax_rm 12 0 0) s m args below meth c D cA ad bs 788 SHp 0 0 (ax_MQ below args s D cA ad bs 788 SHp 0 0 (some (z_i q.1)) (Z_I q.1) q.2) 3 89 [(0, .ref (ad 758)), (2, z_i v2)] [] σ := by
  intro k
  induction k with
  | zero =>
    intro v2 c_v2 σ hf
    unfold f_X12_text_89 at hf
    cases hf
  | succ k ih =>
    intro v2 c_v2 σ hf
    unfold f_X12_text_89 at hf
    refine aw_iload_n X 1 dX12_text_89 rfl rfl ?_
    refine aw_bipush X dX12_text_90 (by decide) ?_
    refine aw_icmp_ge X (tgt := 124) c_v2 (z_lit (x := 12) (by decide)) dX12_text_92 (by decide) (fun h24 => ?_) (fun h24 => ?_)
    · rw [if_pos h24] at hf
      refine aw_aload_n X 0 dX12_text_124 rfl rfl ?_
      refine aw_getR X s_758 fX12_57 rfl dX12_text_125 ?_
      refine aw_aload_n X 0 dX12_text_128 rfl rfl ?_
      refine aw_getI X s_758 fX12_252 rfl dX12_text_129 (fun c25 => ?_)
      refine aw_aload_n X 0 dX12_text_132 rfl rfl ?_
      refine aw_getR X s_758 fX12_57 rfl dX12_text_133 ?_
      refine aw_iconst X dX12_text_136 ?_
      refine aw_iald X (j := 4) s_774 (z_lit (x := 4) (by decide)) (by decide) (by decide) rfl dX12_text_137 (fun c26 => ?_)
      obtain ⟨g27, hf⟩ := z_gd hf
      refine aw_iast X (j := (σ 758 30).toNat) s_774 c25 g27.1 g27.2 rfl c26 dX12_text_138 ?_
      refine aw_aload_n X 0 dX12_text_139 rfl rfl ?_
      refine aw_dup X dX12_text_140 rfl ?_
      refine aw_getI X s_758 fX12_252 rfl dX12_text_141 (fun c28 => ?_)
      refine aw_iconst X dX12_text_144 ?_
      refine aw_iadd X dX12_text_145 ?_
      refine aw_putI X s_758 pX12_252 rfl (z_w_in _) dX12_text_146 ?_
      refine aw_aload_n X 0 dX12_text_149 rfl rfl ?_
      refine aw_getI X s_758 fX12_252 rfl dX12_text_150 (fun c29 => ?_)
      refine aw_iconst X dX12_text_153 ?_
      refine aw_isub X dX12_text_154 ?_
      obtain rfl := Option.some.inj hf
      exact aw_iret X (z_w_in _) hr rfl dX12_text_155
    · rw [if_neg h24] at hf
      refine aw_aload_n X 0 dX12_text_95 rfl rfl ?_
      refine aw_getR X s_758 fX12_60 rfl dX12_text_96 ?_
      refine aw_bipush X dX12_text_99 (by decide) ?_
      refine aw_aload_n X 0 dX12_text_101 rfl rfl ?_
      refine aw_getI X s_758 fX12_252 rfl dX12_text_102 (fun c30 => ?_)
      refine aw_imul X dX12_text_105 ?_
      refine aw_iload_n X 1 dX12_text_106 rfl rfl ?_
      refine aw_iadd X dX12_text_107 ?_
      refine aw_aload_n X 0 dX12_text_108 rfl rfl ?_
      refine aw_getR X s_758 fX12_60 rfl dX12_text_109 ?_
      refine aw_bipush X dX12_text_112 (by decide) ?_
      refine aw_iload_n X 1 dX12_text_114 rfl rfl ?_
      refine aw_iadd X dX12_text_115 ?_
      obtain ⟨g31, hf⟩ := z_gd hf
      refine aw_lald X (j := (z_w (48 + v2)).toNat) s_775 (z_w_in _) g31.1 g31.2 rfl dX12_text_116 (fun c32 => ?_)
      obtain ⟨g33, hf⟩ := z_gd hf
      refine aw_last X (j := (z_w ((z_w (12 * (σ 758 30))) + v2)).toNat) s_775 (z_w_in _) g33.1 g33.2 rfl c32 dX12_text_117 ?_
      refine aw_iinc X 1 [(2, z_i (z_w (v2 + 1))), (0, .ref (ad 758))] dX12_text_118 rfl (by decide) rfl ?_
      refine aw_goto X (tgt := 89) dX12_text_121 (by decide) ?_
      refine aw_sub [1, 0] rfl ?_
      exact ih (z_w (v2 + 1)) (z_w_in _) (u2 σ 775 (z_w ((z_w (12 * (σ 758 30))) + v2)).toNat (σ 775 (z_w (48 + v2)).toNat)) hf
set_option maxHeartbeats 4000000 in
set_option maxRecDepth 100000 in
theorem A_X12_text_51 (X : AX p s m args meth c D cA sa bs cX12_text 3 RX12) (hr : meth.sig.returnType = (some .int)) : ∀ (k : Nat) (v2 : Int) (c_v2 : Z_I v2) (σ : Nat → Nat → Int), f_X12_text_51 k v2 σ = some q → AW p l e (ax_rm 12 0 0) s m args below meth c D cA ad bs 788 SHp 0 0 (ax_MQ below args s D cA ad bs 788 SHp 0 0 (some (z_i q.1)) (Z_I q.1) q.2) 3 51 [(0, .ref (ad 758)), (2, z_i v2)] [] σ := by
  intro k
  induction k with
  | zero =>
    intro v2 c_v2 σ hf
    unfold f_X12_text_51 at hf
    cases hf
  | succ k ih =>
    intro v2 c_v2 σ hf
    unfold f_X12_text_51 at hf
    refine aw_iload_n X 1 dX12_text_51 rfl rfl ?_
    refine aw_bipush X dX12_text_52 (by decide) ?_
    refine aw_icmp_ge X (tgt := 87) c_v2 (z_lit (x := 48) (by decide)) dX12_text_54 (by decide) (fun h19 => ?_) (fun h19 => ?_)
    · rw [if_pos h19] at hf
      refine aw_iconst X dX12_text_87 ?_
      refine aw_istore_n X [(2, z_i 0), (0, .ref (ad 758))] dX12_text_88 rfl (by decide) rfl ?_
      refine aw_sub [1, 0] rfl ?_
      exact A_X12_text_89 X hr 100000 0 (z_lit (x := 0) (by decide)) σ hf
    · rw [if_neg h19] at hf
      refine aw_aload_n X 0 dX12_text_57 rfl rfl ?_
      refine aw_getR X s_758 fX12_54 rfl dX12_text_58 ?_
      refine aw_bipush X dX12_text_61 (by decide) ?_
      refine aw_aload_n X 0 dX12_text_63 rfl rfl ?_
      refine aw_getI X s_758 fX12_252 rfl dX12_text_64 (fun c20 => ?_)
      refine aw_imul X dX12_text_67 ?_
      refine aw_iload_n X 1 dX12_text_68 rfl rfl ?_
      refine aw_iadd X dX12_text_69 ?_
      refine aw_aload_n X 0 dX12_text_70 rfl rfl ?_
      refine aw_getR X s_758 fX12_54 rfl dX12_text_71 ?_
      refine aw_sipush X dX12_text_74 (by decide) ?_
      refine aw_iload_n X 1 dX12_text_77 rfl rfl ?_
      refine aw_iadd X dX12_text_78 ?_
      obtain ⟨g21, hf⟩ := z_gd hf
      refine aw_iald X (j := (z_w (192 + v2)).toNat) s_773 (z_w_in _) g21.1 g21.2 rfl dX12_text_79 (fun c22 => ?_)
      obtain ⟨g23, hf⟩ := z_gd hf
      refine aw_iast X (j := (z_w ((z_w (48 * (σ 758 30))) + v2)).toNat) s_773 (z_w_in _) g23.1 g23.2 rfl c22 dX12_text_80 ?_
      refine aw_iinc X 1 [(2, z_i (z_w (v2 + 1))), (0, .ref (ad 758))] dX12_text_81 rfl (by decide) rfl ?_
      refine aw_goto X (tgt := 51) dX12_text_84 (by decide) ?_
      refine aw_sub [1, 0] rfl ?_
      exact ih (z_w (v2 + 1)) (z_w_in _) (u2 σ 773 (z_w ((z_w (48 * (σ 758 30))) + v2)).toNat (σ 773 (z_w (192 + v2)).toNat)) hf
set_option maxHeartbeats 4000000 in
set_option maxRecDepth 100000 in
theorem A_X12_text_28 (X : AX p s m args meth c D cA sa bs cX12_text 3 RX12) (hr : meth.sig.returnType = (some .int)) (v1 : Int) (c_v1 : Z_I v1) (σ : Nat → Nat → Int) (hf : f_X12_text_28 v1 σ = some q) : AW p l e (ax_rm 12 0 0) s m args below meth c D cA ad bs 788 SHp 0 0 (ax_MQ below args s D cA ad bs 788 SHp 0 0 (some (z_i q.1)) (Z_I q.1) q.2) 3 28 [(0, .ref (ad 758)), (1, z_i v1)] [] σ := by
  unfold f_X12_text_28 at hf
  refine aw_aload_n X 0 dX12_text_28 rfl rfl ?_
  refine aw_iload_n X 1 dX12_text_29 rfl rfl ?_
  obtain ⟨q8, e9, hf⟩ := z_bd hf
  refine aw_callV X [z_i v1] [] [z_i q8.1] cX12_255 s_758 ciX12 (C_X12_fault l D cA sa ad bs v1 c_v1 σ q8 e9) rfl ⟨(Nat.le_of_ble_eq_true rfl), (Nat.le_of_ble_eq_true rfl), (Nat.le_of_ble_eq_true rfl), (Nat.le_of_ble_eq_true rfl)⟩ rfl (Nat.le_of_ble_eq_true rfl) rfl dX12_text_30 (fun p10 => ?_)
  refine aw_iconst X dX12_text_33 ?_
  refine aw_icmp_eq X (tgt := 39) p10 (z_lit (x := (-1)) (by decide)) dX12_text_34 (by decide) (fun h11 => ?_) (fun h11 => ?_)
  · rw [if_pos h11] at hf
    refine aw_aload_n X 0 dX12_text_39 rfl rfl ?_
    refine aw_iconst X dX12_text_40 ?_
    refine aw_putI X s_758 pX12_104 rfl (z_lit (x := 0) (by decide)) dX12_text_41 ?_
    refine aw_iload_n X 1 dX12_text_44 rfl rfl ?_
    refine aw_iconst X dX12_text_45 ?_
    refine aw_icmp_ne X (tgt := 156) c_v1 (z_lit (x := 1) (by decide)) dX12_text_46 (by decide) (fun h12 => ?_) (fun h12 => ?_)
    · rw [if_neg h12] at hf
      refine aw_aload_n X 0 dX12_text_156 rfl rfl ?_
      obtain ⟨q13, e14, hf⟩ := z_bd hf
      refine aw_callV X [] [] [] cX12_257 s_758 ciX12 (C_X12_tells l D cA sa ad bs (u2 q8.2 758 2 0) q13 e14) rfl ⟨(Nat.le_of_ble_eq_true rfl), (Nat.le_of_ble_eq_true rfl), (Nat.le_of_ble_eq_true rfl), (Nat.le_of_ble_eq_true rfl)⟩ rfl (Nat.le_of_ble_eq_true rfl) rfl dX12_text_157 (fun p15 => ?_)
      refine aw_iconst X dX12_text_160 ?_
      refine aw_istore_n X [(2, z_i 0), (0, .ref (ad 758)), (1, z_i v1)] dX12_text_161 rfl (by decide) rfl ?_
      refine aw_sub [1, 0] rfl ?_
      exact A_X12_text_162 X hr 100000 0 (z_lit (x := 0) (by decide)) q13 hf
    · rw [if_pos h12] at hf
      refine aw_iconst X dX12_text_49 ?_
      refine aw_istore_n X [(2, z_i 0), (0, .ref (ad 758)), (1, z_i v1)] dX12_text_50 rfl (by decide) rfl ?_
      refine aw_sub [1, 0] rfl ?_
      exact A_X12_text_51 X hr 100000 0 (z_lit (x := 0) (by decide)) (u2 q8.2 758 2 0) hf
  · rw [if_neg h11] at hf
    refine aw_iconst X dX12_text_37 ?_
    obtain rfl := Option.some.inj hf
    exact aw_iret X (z_lit (x := (-1)) (by decide)) hr rfl dX12_text_38
end S_X12_text
set_option maxHeartbeats 4000000 in
set_option maxRecDepth 100000 in
theorem C_X12_text (l : Launch) (D : va_G) (cA : Nat → ClassId) (sa ad : Nat → Nat) (bs : Nat) (v1 : Int) (c_v1 : Z_I v1) (σ : Nat → Nat → Int) (q : (Int × (Nat → Nat → Int))) (hf : f_X12_text v1 σ = some q) : AM l D cA sa ad bs 788 SHp yX12_text cX12_text 3 (some .int) 12 [.ref (ad 758), z_i v1] σ (some (z_i q.1)) (Z_I q.1) q.2 := by
  refine am_of (by decide +kernel) (Nat.le_of_ble_eq_true rfl) (fun p e s m args below meth c X hr => ?_)
  refine aw_lv (lv' := [(0, .ref (ad 758)), (1, z_i v1)]) rfl ?_
  unfold f_X12_text at hf
  refine aw_aload_n X 0 dX12_text_0 rfl rfl ?_
  refine aw_iconst X dX12_text_1 ?_
  refine aw_putI X s_758 pX12_101 rfl (z_lit (x := 0) (by decide)) dX12_text_2 ?_
  refine aw_iload_n X 1 dX12_text_5 rfl rfl ?_
  refine aw_i2l X c_v1 dX12_text_6 ?_
  refine aw_lconst X (x := 0) dX12_text_7 (by decide) ?_
  refine aw_lconst X (x := 1) dX12_text_8 (by decide) ?_
  obtain ⟨q1, e2, hf⟩ := z_bd hf
  refine aw_callS X [z_v v1, z_v 0, z_v 1] [] [z_i q1] cX12_156 (C_X12_isIn l D cA sa ad bs v1 (z_IL c_v1) 0 (z_litL (x := 0) (by decide)) 1 (z_litL (x := 1) (by decide)) (u2 σ 758 0 0) q1 e2) rfl ⟨(Nat.le_of_ble_eq_true rfl), (Nat.le_of_ble_eq_true rfl), (Nat.le_of_ble_eq_true rfl), (Nat.le_of_ble_eq_true rfl)⟩ rfl (Nat.le_of_ble_eq_true rfl) rfl dX12_text_9 (fun p3 => ?_)
  refine aw_if_eq X (tgt := 37) (z_zI p3) dX12_text_12 (by decide) (fun h4 => ?_) (fun h4 => ?_)
  · rw [if_pos h4] at hf
    refine aw_iconst X dX12_text_37 ?_
    obtain rfl := Option.some.inj hf
    exact aw_iret X (z_lit (x := (-1)) (by decide)) hr rfl dX12_text_38
  · rw [if_neg h4] at hf
    refine aw_iload_n X 1 dX12_text_15 rfl rfl ?_
    refine aw_iconst X dX12_text_16 ?_
    refine aw_icmp_ne X (tgt := 28) c_v1 (z_lit (x := 1) (by decide)) dX12_text_17 (by decide) (fun h5 => ?_) (fun h5 => ?_)
    · rw [if_neg h5] at hf
      exact A_X12_text_28 X hr v1 c_v1 (u2 σ 758 0 0) hf
    · rw [if_pos h5] at hf
      refine aw_aload_n X 0 dX12_text_20 rfl rfl ?_
      refine aw_getI X s_758 fX12_252 rfl dX12_text_21 (fun c6 => ?_)
      refine aw_iconst X dX12_text_24 ?_
      refine aw_icmp_eq X (tgt := 37) c6 (z_lit (x := 4) (by decide)) dX12_text_25 (by decide) (fun h7 => ?_) (fun h7 => ?_)
      · rw [if_pos h7] at hf
        refine aw_iconst X dX12_text_37 ?_
        obtain rfl := Option.some.inj hf
        exact aw_iret X (z_lit (x := (-1)) (by decide)) hr rfl dX12_text_38
      · rw [if_neg h7] at hf
        exact A_X12_text_28 X hr v1 c_v1 (u2 σ 758 0 0) hf
-- SpeedDeskModel.copyRow([II[II)V
section S_X12_copyRow
variable {p : Program} {l : Launch} {e : Env} {s : State} {m : MethodId} {args : Array Value} {below : List Frame} {meth : Method} {c : Code} {D : va_G} {cA : Nat → ClassId} {sa ad : Nat → Nat} {bs : Nat} {q : (Nat → Nat → Int)}
set_option maxHeartbeats 4000000 in
set_option maxRecDepth 100000 in
theorem A_X12_copyRow_3 (X : AX p s m args meth c D cA sa bs cX12_copyRow 5 RX12) (hr : meth.sig.returnType = none) : ∀ (k : Nat) (a0 : Nat) (n_a0 : Nat) (h_a0 : a0 < 788 ∧ SHp a0 = .inr (0, n_a0, [])) (v1 : Int) (c_v1 : Z_I v1) (a2 : Nat) (n_a2 : Nat) (h_a2 : a2 < 788 ∧ SHp a2 = .inr (0, n_a2, [])) (v3 : Int) (c_v3 : Z_I v3) (v4 : Int) (c_v4 : Z_I v4) (σ : Nat → Nat → Int), f_X12_copyRow_3 k a0 n_a0 v1 a2 n_a2 v3 v4 σ = some q → AW p l e (ax_rm 0 0 0) s m args below meth c D cA ad bs 788 SHp 0 0 (ax_MQ below args s D cA ad bs 788 SHp 0 0 none True q) 5 3 [(0, .ref (ad a0)), (1, z_i v1), (2, .ref (ad a2)), (3, z_i v3), (4, z_i v4)] [] σ := by
  intro k
  induction k with
  | zero =>
    intro a0 n_a0 h_a0 v1 c_v1 a2 n_a2 h_a2 v3 c_v3 v4 c_v4 σ hf
    unfold f_X12_copyRow_3 at hf
    cases hf
  | succ k ih =>
    intro a0 n_a0 h_a0 v1 c_v1 a2 n_a2 h_a2 v3 c_v3 v4 c_v4 σ hf
    unfold f_X12_copyRow_3 at hf
    refine aw_iload X 4 dX12_copyRow_3 rfl ?_
    refine aw_sipush X dX12_copyRow_5 (by decide) ?_
    refine aw_icmp_ge X (tgt := 29) c_v4 (z_lit (x := 256) (by decide)) dX12_copyRow_8 (by decide) (fun h1 => ?_) (fun h1 => ?_)
    · rw [if_pos h1] at hf
      obtain rfl := Option.some.inj hf
      exact aw_vret X trivial hr rfl dX12_copyRow_29
    · rw [if_neg h1] at hf
      refine aw_aload_n X 2 dX12_copyRow_11 rfl rfl ?_
      refine aw_iload_n X 3 dX12_copyRow_12 rfl rfl ?_
      refine aw_iload X 4 dX12_copyRow_13 rfl ?_
      refine aw_iadd X dX12_copyRow_15 ?_
      refine aw_aload_n X 0 dX12_copyRow_16 rfl rfl ?_
      refine aw_iload_n X 1 dX12_copyRow_17 rfl rfl ?_
      refine aw_iload X 4 dX12_copyRow_18 rfl ?_
      refine aw_iadd X dX12_copyRow_20 ?_
      obtain ⟨g2, hf⟩ := z_gd hf
      refine aw_iald X (j := (z_w (v1 + v4)).toNat) h_a0 (z_w_in _) g2.1 g2.2 rfl dX12_copyRow_21 (fun c3 => ?_)
      obtain ⟨g4, hf⟩ := z_gd hf
      refine aw_iast X (j := (z_w (v3 + v4)).toNat) h_a2 (z_w_in _) g4.1 g4.2 rfl c3 dX12_copyRow_22 ?_
      refine aw_iinc X 4 [(4, z_i (z_w (v4 + 1))), (0, .ref (ad a0)), (1, z_i v1), (2, .ref (ad a2)), (3, z_i v3)] dX12_copyRow_23 rfl (by decide) rfl ?_
      refine aw_goto X (tgt := 3) dX12_copyRow_26 (by decide) ?_
      refine aw_sub [1, 2, 3, 4, 0] rfl ?_
      exact ih a0 n_a0 h_a0 v1 c_v1 a2 n_a2 h_a2 v3 c_v3 (z_w (v4 + 1)) (z_w_in _) (u2 σ a2 (z_w (v3 + v4)).toNat (σ a0 (z_w (v1 + v4)).toNat)) hf
end S_X12_copyRow
set_option maxHeartbeats 4000000 in
set_option maxRecDepth 100000 in
theorem C_X12_copyRow (l : Launch) (D : va_G) (cA : Nat → ClassId) (sa ad : Nat → Nat) (bs : Nat) (a0 : Nat) (n_a0 : Nat) (h_a0 : a0 < 788 ∧ SHp a0 = .inr (0, n_a0, [])) (v1 : Int) (c_v1 : Z_I v1) (a2 : Nat) (n_a2 : Nat) (h_a2 : a2 < 788 ∧ SHp a2 = .inr (0, n_a2, [])) (v3 : Int) (c_v3 : Z_I v3) (σ : Nat → Nat → Int) (q : (Nat → Nat → Int)) (hf : f_X12_copyRow a0 n_a0 v1 a2 n_a2 v3 σ = some q) : AM l D cA sa ad bs 788 SHp yX12_copyRow cX12_copyRow 5 none 0 [.ref (ad a0), z_i v1, .ref (ad a2), z_i v3] σ none True q := by
  refine am_of (by decide +kernel) (Nat.le_of_ble_eq_true rfl) (fun p e s m args below meth c X hr => ?_)
  refine aw_lv (lv' := [(0, .ref (ad a0)), (1, z_i v1), (2, .ref (ad a2)), (3, z_i v3)]) rfl ?_
  unfold f_X12_copyRow at hf
  refine aw_iconst X dX12_copyRow_0 ?_
  refine aw_istore X [(4, z_i 0), (0, .ref (ad a0)), (1, z_i v1), (2, .ref (ad a2)), (3, z_i v3)] dX12_copyRow_1 (by decide) rfl ?_
  refine aw_sub [1, 2, 3, 4, 0] rfl ?_
  exact A_X12_copyRow_3 X hr 100000 a0 n_a0 h_a0 v1 c_v1 a2 n_a2 h_a2 v3 c_v3 0 (z_lit (x := 0) (by decide)) σ hf
