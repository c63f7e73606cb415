-- SpeedDeskModel.perform(I)I
def f_X12_perform_112 (K26 : Int → Int → Int → (Nat → Nat → Int) → Option (Int × (Nat → Nat → Int))) (v1 : Int) (v2 : Int) (t0 : Int) (σ : Nat → Nat → Int) : Option (Int × (Nat → Nat → Int)) := K26 v1 (if t0 = 0 then v2 else (z_w (v2 + 1))) t0 σ
def f_X12_perform_26 : Nat → Int → Int → Int → (Nat → Nat → Int) → Option (Int × (Nat → Nat → Int))
  | 0, _, _, _, _ => none
  | k + 1, v1, v2, v3, σ => if v3 = 0 then (some (v2, σ)) else (if 0 ≤ v1 ∧ v1 < 5 then if (σ 774 v1.toNat) ≤ v2 then (some (v2, σ)) else (if 0 ≤ (z_w ((z_w (12 * v1)) + v2)) ∧ (z_w ((z_w (12 * v1)) + v2)) < 60 then if 0 ≤ (z_w (4 * (z_w ((z_w (12 * v1)) + v2)))) ∧ (z_w (4 * (z_w ((z_w (12 * v1)) + v2)))) < 240 then if 0 ≤ (z_w ((z_w (4 * (z_w ((z_w (12 * v1)) + v2)))) + 1)) ∧ (z_w ((z_w (4 * (z_w ((z_w (12 * v1)) + v2)))) + 1)) < 240 then if 0 ≤ (z_w ((z_w (4 * (z_w ((z_w (12 * v1)) + v2)))) + 2)) ∧ (z_w ((z_w (4 * (z_w ((z_w (12 * v1)) + v2)))) + 2)) < 240 then if 0 ≤ (z_w ((z_w (4 * (z_w ((z_w (12 * v1)) + v2)))) + 3)) ∧ (z_w ((z_w (4 * (z_w ((z_w (12 * v1)) + v2)))) + 3)) < 240 then (f_X12_tries ((u2 σ 758 41 (σ 775 (z_w ((z_w (12 * v1)) + v2)).toNat)) 773 (z_w (4 * (z_w ((z_w (12 * v1)) + v2)))).toNat) ((u2 σ 758 41 (σ 775 (z_w ((z_w (12 * v1)) + v2)).toNat)) 773 (z_w ((z_w (4 * (z_w ((z_w (12 * v1)) + v2)))) + 1)).toNat) ((u2 σ 758 41 (σ 775 (z_w ((z_w (12 * v1)) + v2)).toNat)) 773 (z_w ((z_w (4 * (z_w ((z_w (12 * v1)) + v2)))) + 2)).toNat) ((u2 σ 758 41 (σ 775 (z_w ((z_w (12 * v1)) + v2)).toNat)) 773 (z_w ((z_w (4 * (z_w ((z_w (12 * v1)) + v2)))) + 3)).toNat) (u2 σ 758 41 (σ 775 (z_w ((z_w (12 * v1)) + v2)).toNat))).bind fun q21 => f_X12_perform_112 (f_X12_perform_26 k) v1 v2 (if q21.1 = (-1) then 1 else 0) q21.2 else none else none else none else none else none) else none)
def f_X12_perform (v1 : Int) (σ : Nat → Nat → Int) : Option (Int × (Nat → Nat → Int)) := (f_X12_isScript v1 (u2 σ 758 0 0)).bind fun q1 => if q1 = 0 then (some ((-1), u2 σ 758 0 0)) else (if ((u2 σ 758 0 0) 758 21) = 0 then (some ((-1), u2 σ 758 0 0)) else (f_X12_perform_26 100000 v1 0 1 (u2 σ 758 0 0)))
section S_X12_perform
variable {p : Program} {l : Launch} {e : Env} {s : State} {m : MethodId} {args : Array Value} {below : List Frame} {meth : Method} {c : Code} {D : va_G} {cA : Nat → ClassId} {sa : Nat → Nat} {bs : Nat} {q : (Int × (Nat → Nat → Int))}
set_option maxHeartbeats 4000000 in
set_option maxRecDepth 100000 in
theorem A_X12_perform_112 (X : AX p s m args meth c D cA sa bs cX12_perform 5 RX12) (hr : meth.sig.returnType = (some .int)) (K26 : Int → Int → Int → (Nat → Nat → Int) → Option (Int × (Nat → Nat → Int))) (hK26 : ∀ (v1 : Int) (c_v1 : Z_I v1) (v2 : Int) (c_v2 : Z_I v2) (v3 : Int) (c_v3 : Z_I v3) (σ : Nat → Nat → Int), K26 v1 v2 v3 σ = some q → AW p l e (ax_rm 9 0 0) s m args below meth c D cA bs 787 SH (ax_MQ below args s D cA bs 787 SH (some (z_i q.1)) (Z_I q.1) q.2) 5 26 [(0, .ref (bs + 758)), (1, z_i v1), (2, z_i v2), (3, z_i v3)] [] σ) (v1 : Int) (c_v1 : Z_I v1) (v2 : Int) (c_v2 : Z_I v2) (t0 : Int) (c_t0 : Z_I t0) (σ : Nat → Nat → Int) (hf : f_X12_perform_112 K26 v1 v2 t0 σ = some q) : AW p l e (ax_rm 9 0 0) s m args below meth c D cA bs 787 SH (ax_MQ below args s D cA bs 787 SH (some (z_i q.1)) (Z_I q.1) q.2) 5 112 [(0, .ref (bs + 758)), (1, z_i v1), (2, z_i v2)] [z_i t0] σ := by
  unfold f_X12_perform_112 at hf
  refine aw_istore_n X [(3, z_i t0), (0, .ref (bs + 758)), (1, z_i v1), (2, z_i v2)] dX12_perform_112 rfl (by decide) rfl ?_
  refine aw_iload_n X 0 dX12_perform_113 rfl rfl ?_
  refine aw_if_eq X (tgt := 120) c_t0 dX12_perform_114 (by decide) (fun h25 => ?_) (fun h25 => ?_)
  · simp only [if_pos h25] at hf
    refine aw_goto X (tgt := 26) dX12_perform_120 (by decide) ?_
    refine aw_sub [1, 2, 3, 0] rfl ?_
    exact hK26 v1 c_v1 v2 c_v2 t0 c_t0 σ hf
  · simp only [if_neg h25] at hf
    refine aw_iinc X 3 [(2, z_i (z_w (v2 + 1))), (3, z_i t0), (0, .ref (bs + 758)), (1, z_i v1)] dX12_perform_117 rfl (by decide) rfl ?_
    refine aw_goto X (tgt := 26) dX12_perform_120 (by decide) ?_
    refine aw_sub [2, 3, 0, 1] rfl ?_
    exact hK26 v1 c_v1 (z_w (v2 + 1)) (z_w_in _) t0 c_t0 σ hf
set_option maxHeartbeats 4000000 in
set_option maxRecDepth 100000 in
theorem A_X12_perform_26 (X : AX p s m args meth c D cA sa bs cX12_perform 5 RX12) (hr : meth.sig.returnType = (some .int)) : ∀ (k : Nat) (v1 : Int) (c_v1 : Z_I v1) (v2 : Int) (c_v2 : Z_I v2) (v3 : Int) (c_v3 : Z_I v3) (σ : Nat → Nat → Int), f_X12_perform_26 k v1 v2 v3 σ = some q → AW p l e (ax_rm 9 0 0) s m args below meth c D cA bs 787 SH (ax_MQ below args s D cA bs 787 SH (some (z_i q.1)) (Z_I q.1) q.2) 5 26 [(0, .ref (bs + 758)), (1, z_i v1), (2, z_i v2), (3, z_i v3)] [] σ := by
  intro k
  induction k with
  | zero =>
    intro v1 c_v1 v2 c_v2 v3 c_v3 σ hf
    unfold f_X12_perform_26 at hf
    cases hf
  | succ k ih =>
    intro v1 c_v1 v2 c_v2 v3 c_v3 σ hf
    unfold f_X12_perform_26 at hf
    refine aw_iload_n X 3 dX12_perform_26 rfl rfl ?_
    refine aw_if_eq X (tgt := 123) c_v3 dX12_perform_27 (by decide) (fun h7 => ?_) (fun h7 => ?_)
    · rw [if_pos h7] at hf
      refine aw_iload_n X 2 dX12_perform_123 rfl rfl ?_
      obtain rfl := Option.some.inj hf
      exact aw_iret X c_v2 hr rfl dX12_perform_124
    · rw [if_neg h7] at hf
      refine aw_iload_n X 2 dX12_perform_30 rfl rfl ?_
      refine aw_aload_n X 0 dX12_perform_31 rfl rfl ?_
      refine aw_getR X s_758 fX12_57 rfl dX12_perform_32 ?_
      refine aw_iload_n X 1 dX12_perform_35 rfl rfl ?_
      obtain ⟨g8, hf⟩ := z_gd hf
      refine aw_iald X (j := v1.toNat) s_774 c_v1 g8.1 g8.2 rfl dX12_perform_36 (fun c9 => ?_)
      refine aw_icmp_ge X (tgt := 123) c_v2 c9 dX12_perform_37 (by decide) (fun h10 => ?_) (fun h10 => ?_)
      · rw [if_pos h10] at hf
        refine aw_iload_n X 2 dX12_perform_123 rfl rfl ?_
        obtain rfl := Option.some.inj hf
        exact aw_iret X c_v2 hr rfl dX12_perform_124
      · rw [if_neg h10] at hf
        refine aw_iconst X dX12_perform_40 ?_
        refine aw_bipush X dX12_perform_41 (by decide) ?_
        refine aw_iload_n X 1 dX12_perform_43 rfl rfl ?_
        refine aw_imul X dX12_perform_44 ?_
        refine aw_iload_n X 2 dX12_perform_45 rfl rfl ?_
        refine aw_iadd X dX12_perform_46 ?_
        refine aw_imul X dX12_perform_47 ?_
        refine aw_istore X [(4, z_i (z_w (4 * (z_w ((z_w (12 * v1)) + v2))))), (0, .ref (bs + 758)), (1, z_i v1), (2, z_i v2), (3, z_i v3)] dX12_perform_48 (by decide) rfl ?_
        refine aw_aload_n X 1 dX12_perform_50 rfl rfl ?_
        refine aw_aload_n X 1 dX12_perform_51 rfl rfl ?_
        refine aw_getR X s_758 fX12_60 rfl dX12_perform_52 ?_
        refine aw_bipush X dX12_perform_55 (by decide) ?_
        refine aw_iload_n X 2 dX12_perform_57 rfl rfl ?_
        refine aw_imul X dX12_perform_58 ?_
        refine aw_iload_n X 3 dX12_perform_59 rfl rfl ?_
        refine aw_iadd X dX12_perform_60 ?_
        obtain ⟨g11, hf⟩ := z_gd hf
        refine aw_lald X (j := (z_w ((z_w (12 * v1)) + v2)).toNat) s_775 (z_w_in _) g11.1 g11.2 rfl dX12_perform_61 (fun c12 => ?_)
        refine aw_putL X s_758 pX12_353 rfl c12 dX12_perform_62 ?_
        refine aw_aload_n X 1 dX12_perform_65 rfl rfl ?_
        refine aw_aload_n X 1 dX12_perform_66 rfl rfl ?_
        refine aw_getR X s_758 fX12_54 rfl dX12_perform_67 ?_
        refine aw_iload X 0 dX12_perform_70 rfl ?_
        obtain ⟨g13, hf⟩ := z_gd hf
        refine aw_iald X (j := (z_w (4 * (z_w ((z_w (12 * v1)) + v2)))).toNat) s_773 (z_w_in _) g13.1 g13.2 rfl dX12_perform_72 (fun c14 => ?_)
        refine aw_aload_n X 1 dX12_perform_73 rfl rfl ?_
        refine aw_getR X s_758 fX12_54 rfl dX12_perform_74 ?_
        refine aw_iload X 0 dX12_perform_77 rfl ?_
        refine aw_iconst X dX12_perform_79 ?_
        refine aw_iadd X dX12_perform_80 ?_
        obtain ⟨g15, hf⟩ := z_gd hf
        refine aw_iald X (j := (z_w ((z_w (4 * (z_w ((z_w (12 * v1)) + v2)))) + 1)).toNat) s_773 (z_w_in _) g15.1 g15.2 rfl dX12_perform_81 (fun c16 => ?_)
        refine aw_aload_n X 1 dX12_perform_82 rfl rfl ?_
        refine aw_getR X s_758 fX12_54 rfl dX12_perform_83 ?_
        refine aw_iload X 0 dX12_perform_86 rfl ?_
        refine aw_iconst X dX12_perform_88 ?_
        refine aw_iadd X dX12_perform_89 ?_
        obtain ⟨g17, hf⟩ := z_gd hf
        refine aw_iald X (j := (z_w ((z_w (4 * (z_w ((z_w (12 * v1)) + v2)))) + 2)).toNat) s_773 (z_w_in _) g17.1 g17.2 rfl dX12_perform_90 (fun c18 => ?_)
        refine aw_aload_n X 1 dX12_perform_91 rfl rfl ?_
        refine aw_getR X s_758 fX12_54 rfl dX12_perform_92 ?_
        refine aw_iload X 0 dX12_perform_95 rfl ?_
        refine aw_iconst X dX12_perform_97 ?_
        refine aw_iadd X dX12_perform_98 ?_
        obtain ⟨g19, hf⟩ := z_gd hf
        refine aw_iald X (j := (z_w ((z_w (4 * (z_w ((z_w (12 * v1)) + v2)))) + 3)).toNat) s_773 (z_w_in _) g19.1 g19.2 rfl dX12_perform_99 (fun c20 => ?_)
        obtain ⟨q21, e22, hf⟩ := z_bd hf
        refine aw_callV X [z_i ((u2 σ 758 41 (σ 775 (z_w ((z_w (12 * v1)) + v2)).toNat)) 773 (z_w (4 * (z_w ((z_w (12 * v1)) + v2)))).toNat), z_i ((u2 σ 758 41 (σ 775 (z_w ((z_w (12 * v1)) + v2)).toNat)) 773 (z_w ((z_w (4 * (z_w ((z_w (12 * v1)) + v2)))) + 1)).toNat), z_i ((u2 σ 758 41 (σ 775 (z_w ((z_w (12 * v1)) + v2)).toNat)) 773 (z_w ((z_w (4 * (z_w ((z_w (12 * v1)) + v2)))) + 2)).toNat), z_i ((u2 σ 758 41 (σ 775 (z_w ((z_w (12 * v1)) + v2)).toNat)) 773 (z_w ((z_w (4 * (z_w ((z_w (12 * v1)) + v2)))) + 3)).toNat)] [] [z_i q21.1] cX12_404 s_758 ciX12 (C_X12_tries l D cA sa bs ((u2 σ 758 41 (σ 775 (z_w ((z_w (12 * v1)) + v2)).toNat)) 773 (z_w (4 * (z_w ((z_w (12 * v1)) + v2)))).toNat) c14 ((u2 σ 758 41 (σ 775 (z_w ((z_w (12 * v1)) + v2)).toNat)) 773 (z_w ((z_w (4 * (z_w ((z_w (12 * v1)) + v2)))) + 1)).toNat) c16 ((u2 σ 758 41 (σ 775 (z_w ((z_w (12 * v1)) + v2)).toNat)) 773 (z_w ((z_w (4 * (z_w ((z_w (12 * v1)) + v2)))) + 2)).toNat) c18 ((u2 σ 758 41 (σ 775 (z_w ((z_w (12 * v1)) + v2)).toNat)) 773 (z_w ((z_w (4 * (z_w ((z_w (12 * v1)) + v2)))) + 3)).toNat) c20 (u2 σ 758 41 (σ 775 (z_w ((z_w (12 * v1)) + v2)).toNat)) q21 e22) rfl ⟨(Nat.le_of_ble_eq_true rfl), (Nat.le_of_ble_eq_true rfl)⟩ rfl (Nat.le_of_ble_eq_true rfl) rfl dX12_perform_100 (fun p23 => ?_)
        refine aw_iconst X dX12_perform_103 ?_
        refine aw_icmp_ne X (tgt := 111) p23 (z_lit (x := (-1)) (by decide)) dX12_perform_104 (by decide) (fun h24 => ?_) (fun h24 => ?_)
        · simp only [if_neg h24] at hf
          refine aw_iconst X dX12_perform_111 ?_
          refine aw_sub [1, 2, 3] rfl ?_
          exact A_X12_perform_112 X hr (f_X12_perform_26 k) ih v1 c_v1 v2 c_v2 0 (z_lit (x := 0) (by decide)) q21.2 hf
        · simp only [if_pos h24] at hf
          refine aw_iconst X dX12_perform_107 ?_
          refine aw_goto X (tgt := 112) dX12_perform_108 (by decide) ?_
          refine aw_sub [1, 2, 3] rfl ?_
          exact A_X12_perform_112 X hr (f_X12_perform_26 k) ih v1 c_v1 v2 c_v2 1 (z_lit (x := 1) (by decide)) q21.2 hf
end S_X12_perform
set_option maxHeartbeats 4000000 in
set_option maxRecDepth 100000 in
theorem C_X12_perform (l : Launch) (D : va_G) (cA : Nat → ClassId) (sa : Nat → Nat) (bs : Nat) (v1 : Int) (c_v1 : Z_I v1) (σ : Nat → Nat → Int) (q : (Int × (Nat → Nat → Int))) (hf : f_X12_perform v1 σ = some q) : AM l D cA sa bs 787 SH yX12_perform cX12_perform 5 (some .int) 9 [.ref (bs + 758), z_i v1] σ (some (z_i q.1)) (Z_I q.1) q.2 := by
  refine am_of (by decide +kernel) (Nat.le_of_ble_eq_true rfl) (fun p e s m args below meth c X hr => ?_)
  refine aw_lv (lv' := [(0, .ref (bs + 758)), (1, z_i v1)]) rfl ?_
  unfold f_X12_perform at hf
  refine aw_aload_n X 0 dX12_perform_0 rfl rfl ?_
  refine aw_iconst X dX12_perform_1 ?_
  refine aw_putI X s_758 pX12_101 rfl (z_lit (x := 0) (by decide)) dX12_perform_2 ?_
  refine aw_aload_n X 0 dX12_perform_5 rfl rfl ?_
  refine aw_iload_n X 1 dX12_perform_6 rfl rfl ?_
  obtain ⟨q1, e2, hf⟩ := z_bd hf
  refine aw_callV X [z_i v1] [] [z_i q1] cX12_493 s_758 ciX12 (C_X12_isScript l D cA sa bs v1 c_v1 (u2 σ 758 0 0) q1 e2) rfl ⟨(Nat.le_of_ble_eq_true rfl), (Nat.le_of_ble_eq_true rfl)⟩ rfl (Nat.le_of_ble_eq_true rfl) rfl dX12_perform_7 (fun p3 => ?_)
  refine aw_if_eq X (tgt := 20) (z_zI p3) dX12_perform_10 (by decide) (fun h4 => ?_) (fun h4 => ?_)
  · rw [if_pos h4] at hf
    refine aw_iconst X dX12_perform_20 ?_
    obtain rfl := Option.some.inj hf
    exact aw_iret X (z_lit (x := (-1)) (by decide)) hr rfl dX12_perform_21
  · rw [if_neg h4] at hf
    refine aw_aload_n X 0 dX12_perform_13 rfl rfl ?_
    refine aw_getI X s_758 fX12_234 rfl dX12_perform_14 (fun c5 => ?_)
    refine aw_if_ne X (tgt := 22) c5 dX12_perform_17 (by decide) (fun h6 => ?_) (fun h6 => ?_)
    · rw [if_neg h6] at hf
      refine aw_iconst X dX12_perform_22 ?_
      refine aw_istore_n X [(2, z_i 0), (0, .ref (bs + 758)), (1, z_i v1)] dX12_perform_23 rfl (by decide) rfl ?_
      refine aw_iconst X dX12_perform_24 ?_
      refine aw_istore_n X [(3, z_i 1), (2, z_i 0), (0, .ref (bs + 758)), (1, z_i v1)] dX12_perform_25 rfl (by decide) rfl ?_
      refine aw_sub [2, 3, 1, 0] rfl ?_
      exact A_X12_perform_26 X hr 100000 v1 c_v1 0 (z_lit (x := 0) (by decide)) 1 (z_lit (x := 1) (by decide)) (u2 σ 758 0 0) hf
    · rw [if_pos h6] at hf
      refine aw_iconst X dX12_perform_20 ?_
      obtain rfl := Option.some.inj hf
      exact aw_iret X (z_lit (x := (-1)) (by decide)) hr rfl dX12_perform_21
-- SpeedDeskModel.bitsOf(II)I
def f_X12_bitsOf_5 : Nat → Int → Int → Int → Int → (Nat → Nat → Int) → Option Int
  | 0, _, _, _, _, _ => none
  | k + 1, v1, v2, v3, v4, σ => if v2 ≤ v4 then (some v3) else (if 0 ≤ (z_w (v1 + v4)) ∧ (z_w (v1 + v4)) < 256 then (f_X12_bitsOf_5 k) v1 v2 (if (σ 776 (z_w (v1 + v4)).toNat) ≤ 0 then (z_or v3 0) else (z_or v3 (z_shl 1 v4))) (z_w (v4 + 1)) σ else none)
def f_X12_bitsOf (v1 : Int) (v2 : Int) (σ : Nat → Nat → Int) : Option Int := f_X12_bitsOf_5 100000 v1 v2 0 0 σ
section S_X12_bitsOf
variable {p : Program} {l : Launch} {e : Env} {s : State} {m : MethodId} {args : Array Value} {below : List Frame} {meth : Method} {c : Code} {D : va_G} {cA : Nat → ClassId} {sa : Nat → Nat} {bs : Nat} {q : Int}
set_option maxHeartbeats 4000000 in
set_option maxRecDepth 100000 in
theorem A_X12_bitsOf_5 (X : AX p s m args meth c D cA sa bs cX12_bitsOf 5 RX12) (hr : meth.sig.returnType = (some .int)) (σ : Nat → Nat → Int) : ∀ (k : Nat) (v1 : Int) (c_v1 : Z_I v1) (v2 : Int) (c_v2 : Z_I v2) (v3 : Int) (c_v3 : Z_I v3) (v4 : Int) (c_v4 : Z_I v4), f_X12_bitsOf_5 k v1 v2 v3 v4 σ = some q → AW p l e (ax_rm 0 0 0) s m args below meth c D cA bs 787 SH (ax_MQ below args s D cA bs 787 SH (some (z_i q)) (Z_I q) σ) 5 5 [(0, .ref (bs + 758)), (1, z_i v1), (2, z_i v2), (3, z_i v3), (4, z_i v4)] [] σ := by
  intro k
  induction k with
  | zero =>
    intro v1 c_v1 v2 c_v2 v3 c_v3 v4 c_v4 hf
    unfold f_X12_bitsOf_5 at hf
    cases hf
  | succ k ih =>
    intro v1 c_v1 v2 c_v2 v3 c_v3 v4 c_v4 hf
    unfold f_X12_bitsOf_5 at hf
    refine aw_iload X 4 dX12_bitsOf_5 rfl ?_
    refine aw_iload_n X 2 dX12_bitsOf_7 rfl rfl ?_
    refine aw_icmp_ge X (tgt := 40) c_v4 c_v2 dX12_bitsOf_8 (by decide) (fun h1 => ?_) (fun h1 => ?_)
    · rw [if_pos h1] at hf
      refine aw_iload_n X 3 dX12_bitsOf_40 rfl rfl ?_
      obtain rfl := Option.some.inj hf
      exact aw_iret X c_v3 hr rfl dX12_bitsOf_41
    · rw [if_neg h1] at hf
      refine aw_iload_n X 3 dX12_bitsOf_11 rfl rfl ?_
      refine aw_aload_n X 0 dX12_bitsOf_12 rfl rfl ?_
      refine aw_getR X s_758 fX12_63 rfl dX12_bitsOf_13 ?_
      refine aw_iload_n X 1 dX12_bitsOf_16 rfl rfl ?_
      refine aw_iload X 4 dX12_bitsOf_17 rfl ?_
      refine aw_iadd X dX12_bitsOf_19 ?_
      obtain ⟨g2, hf⟩ := z_gd hf
      refine aw_iald X (j := (z_w (v1 + v4)).toNat) s_776 (z_w_in _) g2.1 g2.2 rfl dX12_bitsOf_20 (fun c3 => ?_)
      refine aw_if_le X (tgt := 31) c3 dX12_bitsOf_21 (by decide) (fun h4 => ?_) (fun h4 => ?_)
      · simp only [if_pos h4] at hf
        refine aw_iconst X dX12_bitsOf_31 ?_
        refine aw_ior X dX12_bitsOf_32 ?_
        refine aw_istore_n X [(3, z_i (z_or v3 0)), (0, .ref (bs + 758)), (1, z_i v1), (2, z_i v2), (4, z_i v4)] dX12_bitsOf_33 rfl (by decide) rfl ?_
        refine aw_iinc X 4 [(4, z_i (z_w (v4 + 1))), (3, z_i (z_or v3 0)), (0, .ref (bs + 758)), (1, z_i v1), (2, z_i v2)] dX12_bitsOf_34 rfl (by decide) rfl ?_
        refine aw_goto X (tgt := 5) dX12_bitsOf_37 (by decide) ?_
        refine aw_sub [2, 3, 4, 1, 0] rfl ?_
        exact ih v1 c_v1 v2 c_v2 (z_or v3 0) (z_or_in _ _) (z_w (v4 + 1)) (z_w_in _) hf
      · simp only [if_neg h4] at hf
        refine aw_iconst X dX12_bitsOf_24 ?_
        refine aw_iload X 4 dX12_bitsOf_25 rfl ?_
        refine aw_ishl X dX12_bitsOf_27 ?_
        refine aw_goto X (tgt := 32) dX12_bitsOf_28 (by decide) ?_
        refine aw_ior X dX12_bitsOf_32 ?_
        refine aw_istore_n X [(3, z_i (z_or v3 (z_shl 1 v4))), (0, .ref (bs + 758)), (1, z_i v1), (2, z_i v2), (4, z_i v4)] dX12_bitsOf_33 rfl (by decide) rfl ?_
        refine aw_iinc X 4 [(4, z_i (z_w (v4 + 1))), (3, z_i (z_or v3 (z_shl 1 v4))), (0, .ref (bs + 758)), (1, z_i v1), (2, z_i v2)] dX12_bitsOf_34 rfl (by decide) rfl ?_
        refine aw_goto X (tgt := 5) dX12_bitsOf_37 (by decide) ?_
        refine aw_sub [2, 3, 4, 1, 0] rfl ?_
        exact ih v1 c_v1 v2 c_v2 (z_or v3 (z_shl 1 v4)) (z_or_in _ _) (z_w (v4 + 1)) (z_w_in _) hf
end S_X12_bitsOf
set_option maxHeartbeats 4000000 in
set_option maxRecDepth 100000 in
theorem C_X12_bitsOf (l : Launch) (D : va_G) (cA : Nat → ClassId) (sa : Nat → Nat) (bs : Nat) (v1 : Int) (c_v1 : Z_I v1) (v2 : Int) (c_v2 : Z_I v2) (σ : Nat → Nat → Int) (q : Int) (hf : f_X12_bitsOf v1 v2 σ = some q) : AM l D cA sa bs 787 SH yX12_bitsOf cX12_bitsOf 5 (some .int) 0 [.ref (bs + 758), z_i v1, z_i v2] σ (some (z_i q)) (Z_I q) σ := by
  refine am_of (by decide +kernel) (Nat.le_of_ble_eq_true rfl) (fun p e s m args below meth c X hr => ?_)
  refine aw_lv (lv' := [(0, .ref (bs + 758)), (1, z_i v1), (2, z_i v2)]) rfl ?_
  unfold f_X12_bitsOf at hf
  refine aw_iconst X dX12_bitsOf_0 ?_
  refine aw_istore_n X [(3, z_i 0), (0, .ref (bs + 758)), (1, z_i v1), (2, z_i v2)] dX12_bitsOf_1 rfl (by decide) rfl ?_
  refine aw_iconst X dX12_bitsOf_2 ?_
  refine aw_istore X [(4, z_i 0), (3, z_i 0), (0, .ref (bs + 758)), (1, z_i v1), (2, z_i v2)] dX12_bitsOf_3 (by decide) rfl ?_
  refine aw_sub [2, 3, 4, 1, 0] rfl ?_
  exact A_X12_bitsOf_5 X hr σ 100000 v1 c_v1 v2 c_v2 0 (z_lit (x := 0) (by decide)) 0 (z_lit (x := 0) (by decide)) hf
-- SpeedDeskModel.loadest()I
def f_X12_loadest_4 : Nat → Int → Int → (Nat → Nat → Int) → Option Int
  | 0, _, _, _ => none
  | k + 1, v1, v2, σ => if (σ 758 23) ≤ v2 then (some v1) else (if v1 = (-1) then ((f_X12_loadest_4 k) v2 (z_w (v2 + 1)) σ) else (if 0 ≤ (z_w (29 + v2)) ∧ (z_w (29 + v2)) < 256 then if 0 ≤ (z_w (29 + v1)) ∧ (z_w (29 + v1)) < 256 then (f_X12_loadest_4 k) (if (σ 776 (z_w (29 + v2)).toNat) ≤ (σ 776 (z_w (29 + v1)).toNat) then v1 else v2) (z_w (v2 + 1)) σ else none else none))
def f_X12_loadest  (σ : Nat → Nat → Int) : Option Int := f_X12_loadest_4 100000 (-1) 0 σ
section S_X12_loadest
variable {p : Program} {l : Launch} {e : Env} {s : State} {m : MethodId} {args : Array Value} {below : List Frame} {meth : Method} {c : Code} {D : va_G} {cA : Nat → ClassId} {sa : Nat → Nat} {bs : Nat} {q : Int}
set_option maxHeartbeats 4000000 in
set_option maxRecDepth 100000 in
theorem A_X12_loadest_4 (X : AX p s m args meth c D cA sa bs cX12_loadest 3 RX12) (hr : meth.sig.returnType = (some .int)) (σ : Nat → Nat → Int) : ∀ (k : Nat) (v1 : Int) (c_v1 : Z_I v1) (v2 : Int) (c_v2 : Z_I v2), f_X12_loadest_4 k v1 v2 σ = some q → AW p l e (ax_rm 0 0 0) s m args below meth c D cA bs 787 SH (ax_MQ below args s D cA bs 787 SH (some (z_i q)) (Z_I q) σ) 3 4 [(0, .ref (bs + 758)), (1, z_i v1), (2, z_i v2)] [] σ := by
  intro k
  induction k with
  | zero =>
    intro v1 c_v1 v2 c_v2 hf
    unfold f_X12_loadest_4 at hf
    cases hf
  | succ k ih =>
    intro v1 c_v1 v2 c_v2 hf
    unfold f_X12_loadest_4 at hf
    refine aw_iload_n X 2 dX12_loadest_4 rfl rfl ?_
    refine aw_aload_n X 0 dX12_loadest_5 rfl rfl ?_
    refine aw_getI X s_758 fX12_237 rfl dX12_loadest_6 (fun c1 => ?_)
    refine aw_icmp_ge X (tgt := 46) c_v2 c1 dX12_loadest_9 (by decide) (fun h2 => ?_) (fun h2 => ?_)
    · rw [if_pos h2] at hf
      refine aw_iload_n X 1 dX12_loadest_46 rfl rfl ?_
      obtain rfl := Option.some.inj hf
      exact aw_iret X c_v1 hr rfl dX12_loadest_47
    · rw [if_neg h2] at hf
      refine aw_iload_n X 1 dX12_loadest_12 rfl rfl ?_
      refine aw_iconst X dX12_loadest_13 ?_
      refine aw_icmp_eq X (tgt := 38) c_v1 (z_lit (x := (-1)) (by decide)) dX12_loadest_14 (by decide) (fun h3 => ?_) (fun h3 => ?_)
      · rw [if_pos h3] at hf
        refine aw_iload_n X 2 dX12_loadest_38 rfl rfl ?_
        refine aw_istore_n X [(1, z_i v2), (0, .ref (bs + 758)), (2, z_i v2)] dX12_loadest_39 rfl (by decide) rfl ?_
        refine aw_iinc X 2 [(2, z_i (z_w (v2 + 1))), (1, z_i v2), (0, .ref (bs + 758))] dX12_loadest_40 rfl (by decide) rfl ?_
        refine aw_goto X (tgt := 4) dX12_loadest_43 (by decide) ?_
        refine aw_sub [2, 1, 0] rfl ?_
        exact ih v2 c_v2 (z_w (v2 + 1)) (z_w_in _) hf
      · rw [if_neg h3] at hf
        refine aw_aload_n X 0 dX12_loadest_17 rfl rfl ?_
        refine aw_getR X s_758 fX12_63 rfl dX12_loadest_18 ?_
        refine aw_bipush X dX12_loadest_21 (by decide) ?_
        refine aw_iload_n X 2 dX12_loadest_23 rfl rfl ?_
        refine aw_iadd X dX12_loadest_24 ?_
        obtain ⟨g4, hf⟩ := z_gd hf
        refine aw_iald X (j := (z_w (29 + v2)).toNat) s_776 (z_w_in _) g4.1 g4.2 rfl dX12_loadest_25 (fun c5 => ?_)
        refine aw_aload_n X 0 dX12_loadest_26 rfl rfl ?_
        refine aw_getR X s_758 fX12_63 rfl dX12_loadest_27 ?_
        refine aw_bipush X dX12_loadest_30 (by decide) ?_
        refine aw_iload_n X 1 dX12_loadest_32 rfl rfl ?_
        refine aw_iadd X dX12_loadest_33 ?_
        obtain ⟨g6, hf⟩ := z_gd hf
        refine aw_iald X (j := (z_w (29 + v1)).toNat) s_776 (z_w_in _) g6.1 g6.2 rfl dX12_loadest_34 (fun c7 => ?_)
        refine aw_icmp_le X (tgt := 40) c5 c7 dX12_loadest_35 (by decide) (fun h8 => ?_) (fun h8 => ?_)
        · simp only [if_pos h8] at hf
          refine aw_iinc X 2 [(2, z_i (z_w (v2 + 1))), (0, .ref (bs + 758)), (1, z_i v1)] dX12_loadest_40 rfl (by decide) rfl ?_
          refine aw_goto X (tgt := 4) dX12_loadest_43 (by decide) ?_
          refine aw_sub [1, 2, 0] rfl ?_
          exact ih v1 c_v1 (z_w (v2 + 1)) (z_w_in _) hf
        · simp only [if_neg h8] at hf
          refine aw_iload_n X 2 dX12_loadest_38 rfl rfl ?_
          refine aw_istore_n X [(1, z_i v2), (0, .ref (bs + 758)), (2, z_i v2)] dX12_loadest_39 rfl (by decide) rfl ?_
          refine aw_iinc X 2 [(2, z_i (z_w (v2 + 1))), (1, z_i v2), (0, .ref (bs + 758))] dX12_loadest_40 rfl (by decide) rfl ?_
          refine aw_goto X (tgt := 4) dX12_loadest_43 (by decide) ?_
          refine aw_sub [2, 1, 0] rfl ?_
          exact ih v2 c_v2 (z_w (v2 + 1)) (z_w_in _) hf
end S_X12_loadest
set_option maxHeartbeats 4000000 in
set_option maxRecDepth 100000 in
theorem C_X12_loadest (l : Launch) (D : va_G) (cA : Nat → ClassId) (sa : Nat → Nat) (bs : Nat)  (σ : Nat → Nat → Int) (q : Int) (hf : f_X12_loadest σ = some q) : AM l D cA sa bs 787 SH yX12_loadest cX12_loadest 3 (some .int) 0 [.ref (bs + 758)] σ (some (z_i q)) (Z_I q) σ := by
  refine am_of (by decide +kernel) (Nat.le_of_ble_eq_true rfl) (fun p e s m args below meth c X hr => ?_)
  refine aw_lv (lv' := [(0, .ref (bs + 758))]) rfl ?_
  unfold f_X12_loadest at hf
  refine aw_iconst X dX12_loadest_0 ?_
  refine aw_istore_n X [(1, z_i (-1)), (0, .ref (bs + 758))] dX12_loadest_1 rfl (by decide) rfl ?_
  refine aw_iconst X dX12_loadest_2 ?_
  refine aw_istore_n X [(2, z_i 0), (1, z_i (-1)), (0, .ref (bs + 758))] dX12_loadest_3 rfl (by decide) rfl ?_
  refine aw_sub [2, 1, 0] rfl ?_
  exact A_X12_loadest_4 X hr σ 100000 (-1) (z_lit (x := (-1)) (by decide)) 0 (z_lit (x := 0) (by decide)) hf
-- SpeedDeskModel.fullest()I
def f_X12_fullest_4 : Nat → Int → Int → (Nat → Nat → Int) → Option Int
  | 0, _, _, _ => none
  | k + 1, v1, v2, σ => if (σ 758 25) ≤ v2 then (some v1) else ((f_X12_sharesOn v2 σ).bind fun q3 => (f_X12_sharesOn v1 σ).bind fun q6 => (f_X12_fullest_4 k) (if q3 ≤ q6 then v1 else v2) (z_w (v2 + 1)) σ)
def f_X12_fullest  (σ : Nat → Nat → Int) : Option Int := f_X12_fullest_4 100000 0 1 σ
section S_X12_fullest
variable {p : Program} {l : Launch} {e : Env} {s : State} {m : MethodId} {args : Array Value} {below : List Frame} {meth : Method} {c : Code} {D : va_G} {cA : Nat → ClassId} {sa : Nat → Nat} {bs : Nat} {q : Int}
set_option maxHeartbeats 4000000 in
set_option maxRecDepth 100000 in
theorem A_X12_fullest_4 (X : AX p s m args meth c D cA sa bs cX12_fullest 3 RX12) (hr : meth.sig.returnType = (some .int)) (σ : Nat → Nat → Int) : ∀ (k : Nat) (v1 : Int) (c_v1 : Z_I v1) (v2 : Int) (c_v2 : Z_I v2), f_X12_fullest_4 k v1 v2 σ = some q → AW p l e (ax_rm 3 0 0) s m args below meth c D cA bs 787 SH (ax_MQ below args s D cA bs 787 SH (some (z_i q)) (Z_I q) σ) 3 4 [(0, .ref (bs + 758)), (1, z_i v1), (2, z_i v2)] [] σ := by
  intro k
  induction k with
  | zero =>
    intro v1 c_v1 v2 c_v2 hf
    unfold f_X12_fullest_4 at hf
    cases hf
  | succ k ih =>
    intro v1 c_v1 v2 c_v2 hf
    unfold f_X12_fullest_4 at hf
    refine aw_iload_n X 2 dX12_fullest_4 rfl rfl ?_
    refine aw_aload_n X 0 dX12_fullest_5 rfl rfl ?_
    refine aw_getI X s_758 fX12_240 rfl dX12_fullest_6 (fun c1 => ?_)
    refine aw_icmp_ge X (tgt := 33) c_v2 c1 dX12_fullest_9 (by decide) (fun h2 => ?_) (fun h2 => ?_)
    · rw [if_pos h2] at hf
      refine aw_iload_n X 1 dX12_fullest_33 rfl rfl ?_
      obtain rfl := Option.some.inj hf
      exact aw_iret X c_v1 hr rfl dX12_fullest_34
    · rw [if_neg h2] at hf
      refine aw_aload_n X 0 dX12_fullest_12 rfl rfl ?_
      refine aw_iload_n X 2 dX12_fullest_13 rfl rfl ?_
      obtain ⟨q3, e4, hf⟩ := z_bd hf
      refine aw_callV X [z_i v2] [] [z_i q3] cX12_469 s_758 ciX12 (C_X12_sharesOn l D cA sa bs v2 c_v2 σ q3 e4) rfl ⟨(Nat.le_of_ble_eq_true rfl), (Nat.le_of_ble_eq_true rfl)⟩ rfl (Nat.le_of_ble_eq_true rfl) rfl dX12_fullest_14 (fun p5 => ?_)
      refine aw_aload_n X 0 dX12_fullest_17 rfl rfl ?_
      refine aw_iload_n X 1 dX12_fullest_18 rfl rfl ?_
      obtain ⟨q6, e7, hf⟩ := z_bd hf
      refine aw_callV X [z_i v1] [z_i q3] [z_i q6, z_i q3] cX12_469 s_758 ciX12 (C_X12_sharesOn l D cA sa bs v1 c_v1 σ q6 e7) rfl ⟨(Nat.le_of_ble_eq_true rfl), (Nat.le_of_ble_eq_true rfl)⟩ rfl (Nat.le_of_ble_eq_true rfl) rfl dX12_fullest_19 (fun p8 => ?_)
      refine aw_icmp_le X (tgt := 27) p5 p8 dX12_fullest_22 (by decide) (fun h9 => ?_) (fun h9 => ?_)
      · simp only [if_pos h9] at hf
        refine aw_iinc X 2 [(2, z_i (z_w (v2 + 1))), (0, .ref (bs + 758)), (1, z_i v1)] dX12_fullest_27 rfl (by decide) rfl ?_
        refine aw_goto X (tgt := 4) dX12_fullest_30 (by decide) ?_
        refine aw_sub [1, 2, 0] rfl ?_
        exact ih v1 c_v1 (z_w (v2 + 1)) (z_w_in _) hf
      · simp only [if_neg h9] at hf
        refine aw_iload_n X 2 dX12_fullest_25 rfl rfl ?_
        refine aw_istore_n X [(1, z_i v2), (0, .ref (bs + 758)), (2, z_i v2)] dX12_fullest_26 rfl (by decide) rfl ?_
        refine aw_iinc X 2 [(2, z_i (z_w (v2 + 1))), (1, z_i v2), (0, .ref (bs + 758))] dX12_fullest_27 rfl (by decide) rfl ?_
        refine aw_goto X (tgt := 4) dX12_fullest_30 (by decide) ?_
        refine aw_sub [2, 1, 0] rfl ?_
        exact ih v2 c_v2 (z_w (v2 + 1)) (z_w_in _) hf
end S_X12_fullest
set_option maxHeartbeats 4000000 in
set_option maxRecDepth 100000 in
theorem C_X12_fullest (l : Launch) (D : va_G) (cA : Nat → ClassId) (sa : Nat → Nat) (bs : Nat)  (σ : Nat → Nat → Int) (q : Int) (hf : f_X12_fullest σ = some q) : AM l D cA sa bs 787 SH yX12_fullest cX12_fullest 3 (some .int) 3 [.ref (bs + 758)] σ (some (z_i q)) (Z_I q) σ := by
  refine am_of (by decide +kernel) (Nat.le_of_ble_eq_true rfl) (fun p e s m args below meth c X hr => ?_)
  refine aw_lv (lv' := [(0, .ref (bs + 758))]) rfl ?_
  unfold f_X12_fullest at hf
  refine aw_iconst X dX12_fullest_0 ?_
  refine aw_istore_n X [(1, z_i 0), (0, .ref (bs + 758))] dX12_fullest_1 rfl (by decide) rfl ?_
  refine aw_iconst X dX12_fullest_2 ?_
  refine aw_istore_n X [(2, z_i 1), (1, z_i 0), (0, .ref (bs + 758))] dX12_fullest_3 rfl (by decide) rfl ?_
  refine aw_sub [2, 1, 0] rfl ?_
  exact A_X12_fullest_4 X hr σ 100000 0 (z_lit (x := 0) (by decide)) 1 (z_lit (x := 1) (by decide)) hf
-- SpeedDeskModel.shares()I
def f_X12_shares_4 : Nat → Int → Int → (Nat → Nat → Int) → Option Int
  | 0, _, _, _ => none
  | k + 1, v1, v2, σ => if (σ 758 23) ≤ v2 then (some v1) else ((f_X12_shareOf 776 v2 σ).bind fun q3 => (f_X12_shares_4 k) (z_w (v1 + q3)) (z_w (v2 + 1)) σ)
def f_X12_shares  (σ : Nat → Nat → Int) : Option Int := f_X12_shares_4 100000 0 0 σ
section S_X12_shares
variable {p : Program} {l : Launch} {e : Env} {s : State} {m : MethodId} {args : Array Value} {below : List Frame} {meth : Method} {c : Code} {D : va_G} {cA : Nat → ClassId} {sa : Nat → Nat} {bs : Nat} {q : Int}
set_option maxHeartbeats 4000000 in
set_option maxRecDepth 100000 in
theorem A_X12_shares_4 (X : AX p s m args meth c D cA sa bs cX12_shares 3 RX12) (hr : meth.sig.returnType = (some .int)) (σ : Nat → Nat → Int) : ∀ (k : Nat) (v1 : Int) (c_v1 : Z_I v1) (v2 : Int) (c_v2 : Z_I v2), f_X12_shares_4 k v1 v2 σ = some q → AW p l e (ax_rm 2 0 0) s m args below meth c D cA bs 787 SH (ax_MQ below args s D cA bs 787 SH (some (z_i q)) (Z_I q) σ) 3 4 [(0, .ref (bs + 758)), (1, z_i v1), (2, z_i v2)] [] σ := by
  intro k
  induction k with
  | zero =>
    intro v1 c_v1 v2 c_v2 hf
    unfold f_X12_shares_4 at hf
    cases hf
  | succ k ih =>
    intro v1 c_v1 v2 c_v2 hf
    unfold f_X12_shares_4 at hf
    refine aw_iload_n X 2 dX12_shares_4 rfl rfl ?_
    refine aw_aload_n X 0 dX12_shares_5 rfl rfl ?_
    refine aw_getI X s_758 fX12_237 rfl dX12_shares_6 (fun c1 => ?_)
    refine aw_icmp_ge X (tgt := 30) c_v2 c1 dX12_shares_9 (by decide) (fun h2 => ?_) (fun h2 => ?_)
    · rw [if_pos h2] at hf
      refine aw_iload_n X 1 dX12_shares_30 rfl rfl ?_
      obtain rfl := Option.some.inj hf
      exact aw_iret X c_v1 hr rfl dX12_shares_31
    · rw [if_neg h2] at hf
      refine aw_iload_n X 1 dX12_shares_12 rfl rfl ?_
      refine aw_aload_n X 0 dX12_shares_13 rfl rfl ?_
      refine aw_aload_n X 0 dX12_shares_14 rfl rfl ?_
      refine aw_getR X s_758 fX12_63 rfl dX12_shares_15 ?_
      refine aw_iload_n X 2 dX12_shares_18 rfl rfl ?_
      obtain ⟨q3, e4, hf⟩ := z_bd hf
      refine aw_callV X [.ref (bs + 776), z_i v2] [z_i v1] [z_i q3, z_i v1] cX12_435 s_758 ciX12 (C_X12_shareOf l D cA sa bs 776 s_776 v2 c_v2 σ q3 e4) rfl ⟨(Nat.le_of_ble_eq_true rfl), (Nat.le_of_ble_eq_true rfl)⟩ rfl (Nat.le_of_ble_eq_true rfl) rfl dX12_shares_19 (fun p5 => ?_)
      refine aw_iadd X dX12_shares_22 ?_
      refine aw_istore_n X [(1, z_i (z_w (v1 + q3))), (0, .ref (bs + 758)), (2, z_i v2)] dX12_shares_23 rfl (by decide) rfl ?_
      refine aw_iinc X 2 [(2, z_i (z_w (v2 + 1))), (1, z_i (z_w (v1 + q3))), (0, .ref (bs + 758))] dX12_shares_24 rfl (by decide) rfl ?_
      refine aw_goto X (tgt := 4) dX12_shares_27 (by decide) ?_
      refine aw_sub [2, 1, 0] rfl ?_
      exact ih (z_w (v1 + q3)) (z_w_in _) (z_w (v2 + 1)) (z_w_in _) hf
end S_X12_shares
set_option maxHeartbeats 4000000 in
set_option maxRecDepth 100000 in
theorem C_X12_shares (l : Launch) (D : va_G) (cA : Nat → ClassId) (sa : Nat → Nat) (bs : Nat)  (σ : Nat → Nat → Int) (q : Int) (hf : f_X12_shares σ = some q) : AM l D cA sa bs 787 SH yX12_shares cX12_shares 3 (some .int) 2 [.ref (bs + 758)] σ (some (z_i q)) (Z_I q) σ := by
  refine am_of (by decide +kernel) (Nat.le_of_ble_eq_true rfl) (fun p e s m args below meth c X hr => ?_)
  refine aw_lv (lv' := [(0, .ref (bs + 758))]) rfl ?_
  unfold f_X12_shares at hf
  refine aw_iconst X dX12_shares_0 ?_
  refine aw_istore_n X [(1, z_i 0), (0, .ref (bs + 758))] dX12_shares_1 rfl (by decide) rfl ?_
  refine aw_iconst X dX12_shares_2 ?_
  refine aw_istore_n X [(2, z_i 0), (1, z_i 0), (0, .ref (bs + 758))] dX12_shares_3 rfl (by decide) rfl ?_
  refine aw_sub [2, 1, 0] rfl ?_
  exact A_X12_shares_4 X hr σ 100000 0 (z_lit (x := 0) (by decide)) 0 (z_lit (x := 0) (by decide)) hf
-- SpeedDeskModel.all(I)I
def f_X12_all (v1 : Int) (σ : Nat → Nat → Int) : Option (Int × (Nat → Nat → Int)) := if ((u2 σ 758 0 0) 758 21) = 0 then (some ((-1000000), u2 σ 758 0 0)) else (if v1 = 0 then (some ((u2 σ 758 0 0) 776 41, u2 σ 758 0 0)) else if v1 = 1 then (some ((u2 σ 758 0 0) 776 42, u2 σ 758 0 0)) else if v1 = 2 then (some ((u2 σ 758 0 0) 776 43, u2 σ 758 0 0)) else if v1 = 3 then ((f_X12_lates 776 (u2 σ 758 0 0)).bind fun q10 => some (q10, u2 σ 758 0 0)) else if v1 = 4 then ((f_X12_bitsOf 9 ((u2 σ 758 0 0) 758 25) (u2 σ 758 0 0)).bind fun q15 => some (q15, u2 σ 758 0 0)) else if v1 = 5 then ((f_X12_bitsOf 37 ((u2 σ 758 0 0) 758 23) (u2 σ 758 0 0)).bind fun q20 => some (q20, u2 σ 758 0 0)) else if v1 = 6 then ((f_X12_bitsOf 25 ((u2 σ 758 0 0) 758 23) (u2 σ 758 0 0)).bind fun q25 => some (q25, u2 σ 758 0 0)) else if v1 = 7 then ((f_X12_loadest (u2 σ 758 0 0)).bind fun q29 => some (q29, u2 σ 758 0 0)) else if v1 = 8 then ((f_X12_fullest (u2 σ 758 0 0)).bind fun q33 => some (q33, u2 σ 758 0 0)) else if v1 = 9 then ((f_X12_shares (u2 σ 758 0 0)).bind fun q37 => some (q37, u2 σ 758 0 0)) else (some ((-1000000), u2 σ 758 0 0)))
section S_X12_all
variable {p : Program} {l : Launch} {e : Env} {s : State} {m : MethodId} {args : Array Value} {below : List Frame} {meth : Method} {c : Code} {D : va_G} {cA : Nat → ClassId} {sa : Nat → Nat} {bs : Nat} {q : (Int × (Nat → Nat → Int))}

end S_X12_all
set_option maxHeartbeats 4000000 in
set_option maxRecDepth 100000 in
theorem C_X12_all (l : Launch) (D : va_G) (cA : Nat → ClassId) (sa : Nat → Nat) (bs : Nat) (v1 : Int) (c_v1 : Z_I v1) (σ : Nat → Nat → Int) (q : (Int × (Nat → Nat → Int))) (hf : f_X12_all v1 σ = some q) : AM l D cA sa bs 787 SH yX12_all cX12_all 2 (some .int) 4 [.ref (bs + 758), z_i v1] σ (some (z_i q.1)) (Z_I q.1) q.2 := by
  refine am_of (by decide +kernel) (Nat.le_of_ble_eq_true rfl) (fun p e s m args below meth c X hr => ?_)
  refine aw_lv (lv' := [(0, .ref (bs + 758)), (1, z_i v1)]) rfl ?_
  unfold f_X12_all at hf
  refine aw_aload_n X 0 dX12_all_0 rfl rfl ?_
  refine aw_iconst X dX12_all_1 ?_
  refine aw_putI X s_758 pX12_101 rfl (z_lit (x := 0) (by decide)) dX12_all_2 ?_
  refine aw_aload_n X 0 dX12_all_5 rfl rfl ?_
  refine aw_getI X s_758 fX12_234 rfl dX12_all_6 (fun c1 => ?_)
  refine aw_if_ne X (tgt := 16) c1 dX12_all_9 (by decide) (fun h2 => ?_) (fun h2 => ?_)
  · rw [if_neg h2] at hf
    refine aw_iload_n X 1 dX12_all_16 rfl rfl ?_
    by_cases h3 : v1 = 0
    · rw [if_pos h3] at hf
      refine aw_tabIn X (tgt := 72) c_v1 dX12_all_17 (by omega) (by omega) (by rw [h3]; rfl) (by decide) ?_
      refine aw_aload_n X 0 dX12_all_72 rfl rfl ?_
      refine aw_getR X s_758 fX12_63 rfl dX12_all_73 ?_
      refine aw_bipush X dX12_all_76 (by decide) ?_
      refine aw_iald X (j := 41) s_776 (z_lit (x := 41) (by decide)) (by decide) (by decide) rfl dX12_all_78 (fun c4 => ?_)
      obtain rfl := Option.some.inj hf
      exact aw_iret X c4 hr rfl dX12_all_79
    rw [if_neg h3] at hf
    by_cases h5 : v1 = 1
    · rw [if_pos h5] at hf
      refine aw_tabIn X (tgt := 80) c_v1 dX12_all_17 (by omega) (by omega) (by rw [h5]; rfl) (by decide) ?_
      refine aw_aload_n X 0 dX12_all_80 rfl rfl ?_
      refine aw_getR X s_758 fX12_63 rfl dX12_all_81 ?_
      refine aw_bipush X dX12_all_84 (by decide) ?_
      refine aw_iald X (j := 42) s_776 (z_lit (x := 42) (by decide)) (by decide) (by decide) rfl dX12_all_86 (fun c6 => ?_)
      obtain rfl := Option.some.inj hf
      exact aw_iret X c6 hr rfl dX12_all_87
    rw [if_neg h5] at hf
    by_cases h7 : v1 = 2
    · rw [if_pos h7] at hf
      refine aw_tabIn X (tgt := 88) c_v1 dX12_all_17 (by omega) (by omega) (by rw [h7]; rfl) (by decide) ?_
      refine aw_aload_n X 0 dX12_all_88 rfl rfl ?_
      refine aw_getR X s_758 fX12_63 rfl dX12_all_89 ?_
      refine aw_bipush X dX12_all_92 (by decide) ?_
      refine aw_iald X (j := 43) s_776 (z_lit (x := 43) (by decide)) (by decide) (by decide) rfl dX12_all_94 (fun c8 => ?_)
      obtain rfl := Option.some.inj hf
      exact aw_iret X c8 hr rfl dX12_all_95
    rw [if_neg h7] at hf
    by_cases h9 : v1 = 3
    · rw [if_pos h9] at hf
      refine aw_tabIn X (tgt := 96) c_v1 dX12_all_17 (by omega) (by omega) (by rw [h9]; rfl) (by decide) ?_
      refine aw_aload_n X 0 dX12_all_96 rfl rfl ?_
      refine aw_getR X s_758 fX12_63 rfl dX12_all_97 ?_
      obtain ⟨q10, e11, hf⟩ := z_bd hf
      refine aw_callS X [.ref (bs + 776)] [] [z_i q10] cX12_490 (C_X12_lates l D cA sa bs 776 s_776 (u2 σ 758 0 0) q10 e11) rfl ⟨(Nat.le_of_ble_eq_true rfl), (Nat.le_of_ble_eq_true rfl)⟩ rfl (Nat.le_of_ble_eq_true rfl) rfl dX12_all_100 (fun p12 => ?_)
      obtain rfl := Option.some.inj hf
      exact aw_iret X p12 hr rfl dX12_all_103
    rw [if_neg h9] at hf
    by_cases h13 : v1 = 4
    · rw [if_pos h13] at hf
      refine aw_tabIn X (tgt := 104) c_v1 dX12_all_17 (by omega) (by omega) (by rw [h13]; rfl) (by decide) ?_
      refine aw_aload_n X 0 dX12_all_104 rfl rfl ?_
      refine aw_bipush X dX12_all_105 (by decide) ?_
      refine aw_aload_n X 0 dX12_all_107 rfl rfl ?_
      refine aw_getI X s_758 fX12_240 rfl dX12_all_108 (fun c14 => ?_)
      obtain ⟨q15, e16, hf⟩ := z_bd hf
      refine aw_callV X [z_i 9, z_i ((u2 σ 758 0 0) 758 25)] [] [z_i q15] cX12_496 s_758 ciX12 (C_X12_bitsOf l D cA sa bs 9 (z_lit (x := 9) (by decide)) ((u2 σ 758 0 0) 758 25) c14 (u2 σ 758 0 0) q15 e16) rfl ⟨(Nat.le_of_ble_eq_true rfl), (Nat.le_of_ble_eq_true rfl)⟩ rfl (Nat.le_of_ble_eq_true rfl) rfl dX12_all_111 (fun p17 => ?_)
      obtain rfl := Option.some.inj hf
      exact aw_iret X p17 hr rfl dX12_all_114
    rw [if_neg h13] at hf
    by_cases h18 : v1 = 5
    · rw [if_pos h18] at hf
      refine aw_tabIn X (tgt := 115) c_v1 dX12_all_17 (by omega) (by omega) (by rw [h18]; rfl) (by decide) ?_
      refine aw_aload_n X 0 dX12_all_115 rfl rfl ?_
      refine aw_bipush X dX12_all_116 (by decide) ?_
      refine aw_aload_n X 0 dX12_all_118 rfl rfl ?_
      refine aw_getI X s_758 fX12_237 rfl dX12_all_119 (fun c19 => ?_)
      obtain ⟨q20, e21, hf⟩ := z_bd hf
      refine aw_callV X [z_i 37, z_i ((u2 σ 758 0 0) 758 23)] [] [z_i q20] cX12_496 s_758 ciX12 (C_X12_bitsOf l D cA sa bs 37 (z_lit (x := 37) (by decide)) ((u2 σ 758 0 0) 758 23) c19 (u2 σ 758 0 0) q20 e21) rfl ⟨(Nat.le_of_ble_eq_true rfl), (Nat.le_of_ble_eq_true rfl)⟩ rfl (Nat.le_of_ble_eq_true rfl) rfl dX12_all_122 (fun p22 => ?_)
      obtain rfl := Option.some.inj hf
      exact aw_iret X p22 hr rfl dX12_all_125
    rw [if_neg h18] at hf
    by_cases h23 : v1 = 6
    · rw [if_pos h23] at hf
      refine aw_tabIn X (tgt := 126) c_v1 dX12_all_17 (by omega) (by omega) (by rw [h23]; rfl) (by decide) ?_
      refine aw_aload_n X 0 dX12_all_126 rfl rfl ?_
      refine aw_bipush X dX12_all_127 (by decide) ?_
      refine aw_aload_n X 0 dX12_all_129 rfl rfl ?_
      refine aw_getI X s_758 fX12_237 rfl dX12_all_130 (fun c24 => ?_)
      obtain ⟨q25, e26, hf⟩ := z_bd hf
      refine aw_callV X [z_i 25, z_i ((u2 σ 758 0 0) 758 23)] [] [z_i q25] cX12_496 s_758 ciX12 (C_X12_bitsOf l D cA sa bs 25 (z_lit (x := 25) (by decide)) ((u2 σ 758 0 0) 758 23) c24 (u2 σ 758 0 0) q25 e26) rfl ⟨(Nat.le_of_ble_eq_true rfl), (Nat.le_of_ble_eq_true rfl)⟩ rfl (Nat.le_of_ble_eq_true rfl) rfl dX12_all_133 (fun p27 => ?_)
      obtain rfl := Option.some.inj hf
      exact aw_iret X p27 hr rfl dX12_all_136
    rw [if_neg h23] at hf
    by_cases h28 : v1 = 7
    · rw [if_pos h28] at hf
      refine aw_tabIn X (tgt := 137) c_v1 dX12_all_17 (by omega) (by omega) (by rw [h28]; rfl) (by decide) ?_
      refine aw_aload_n X 0 dX12_all_137 rfl rfl ?_
      obtain ⟨q29, e30, hf⟩ := z_bd hf
      refine aw_callV X [] [] [z_i q29] cX12_499 s_758 ciX12 (C_X12_loadest l D cA sa bs (u2 σ 758 0 0) q29 e30) rfl ⟨(Nat.le_of_ble_eq_true rfl), (Nat.le_of_ble_eq_true rfl)⟩ rfl (Nat.le_of_ble_eq_true rfl) rfl dX12_all_138 (fun p31 => ?_)
      obtain rfl := Option.some.inj hf
      exact aw_iret X p31 hr rfl dX12_all_141
    rw [if_neg h28] at hf
    by_cases h32 : v1 = 8
    · rw [if_pos h32] at hf
      refine aw_tabIn X (tgt := 142) c_v1 dX12_all_17 (by omega) (by omega) (by rw [h32]; rfl) (by decide) ?_
      refine aw_aload_n X 0 dX12_all_142 rfl rfl ?_
      obtain ⟨q33, e34, hf⟩ := z_bd hf
      refine aw_callV X [] [] [z_i q33] cX12_502 s_758 ciX12 (C_X12_fullest l D cA sa bs (u2 σ 758 0 0) q33 e34) rfl ⟨(Nat.le_of_ble_eq_true rfl), (Nat.le_of_ble_eq_true rfl)⟩ rfl (Nat.le_of_ble_eq_true rfl) rfl dX12_all_143 (fun p35 => ?_)
      obtain rfl := Option.some.inj hf
      exact aw_iret X p35 hr rfl dX12_all_146
    rw [if_neg h32] at hf
    by_cases h36 : v1 = 9
    · rw [if_pos h36] at hf
      refine aw_tabIn X (tgt := 147) c_v1 dX12_all_17 (by omega) (by omega) (by rw [h36]; rfl) (by decide) ?_
      refine aw_aload_n X 0 dX12_all_147 rfl rfl ?_
      obtain ⟨q37, e38, hf⟩ := z_bd hf
      refine aw_callV X [] [] [z_i q37] cX12_505 s_758 ciX12 (C_X12_shares l D cA sa bs (u2 σ 758 0 0) q37 e38) rfl ⟨(Nat.le_of_ble_eq_true rfl), (Nat.le_of_ble_eq_true rfl)⟩ rfl (Nat.le_of_ble_eq_true rfl) rfl dX12_all_148 (fun p39 => ?_)
      obtain rfl := Option.some.inj hf
      exact aw_iret X p39 hr rfl dX12_all_151
    rw [if_neg h36] at hf
    refine aw_tabOut X (tgt := 152) c_v1 dX12_all_17 (by omega) (by decide) ?_
    refine aw_ldcw X (x := (-1000000)) dX12_all_152 kX12_431 (by decide) ?_
    obtain rfl := Option.some.inj hf
    exact aw_iret X (z_lit (x := (-1000000)) (by decide)) hr rfl dX12_all_155
  · rw [if_pos h2] at hf
    refine aw_ldcw X (x := (-1000000)) dX12_all_12 kX12_431 (by decide) ?_
    obtain rfl := Option.some.inj hf
    exact aw_iret X (z_lit (x := (-1000000)) (by decide)) hr rfl dX12_all_15
-- SpeedDeskModel.count(I)I
def f_X12_count (v1 : Int) (σ : Nat → Nat → Int) : Option (Int × (Nat → Nat → Int)) := if v1 = 0 then (some ((u2 σ 758 0 0) 758 21, u2 σ 758 0 0)) else if v1 = 1 then (some ((u2 σ 758 0 0) 758 30, u2 σ 758 0 0)) else if v1 = 2 then (some ((u2 σ 758 0 0) 758 2, u2 σ 758 0 0)) else if v1 = 3 then (some ((u2 σ 758 0 0) 776 75, u2 σ 758 0 0)) else if v1 = 4 then (some ((u2 σ 758 0 0) 758 36, u2 σ 758 0 0)) else if v1 = 5 then (some ((u2 σ 758 0 0) 758 23, u2 σ 758 0 0)) else if v1 = 6 then (some ((u2 σ 758 0 0) 776 44, u2 σ 758 0 0)) else (some ((-1000000), u2 σ 758 0 0))
section S_X12_count
variable {p : Program} {l : Launch} {e : Env} {s : State} {m : MethodId} {args : Array Value} {below : List Frame} {meth : Method} {c : Code} {D : va_G} {cA : Nat → ClassId} {sa : Nat → Nat} {bs : Nat} {q : (Int × (Nat → Nat → Int))}

end S_X12_count
set_option maxHeartbeats 4000000 in
set_option maxRecDepth 100000 in
theorem C_X12_count (l : Launch) (D : va_G) (cA : Nat → ClassId) (sa : Nat → Nat) (bs : Nat) (v1 : Int) (c_v1 : Z_I v1) (σ : Nat → Nat → Int) (q : (Int × (Nat → Nat → Int))) (hf : f_X12_count v1 σ = some q) : AM l D cA sa bs 787 SH yX12_count cX12_count 2 (some .int) 0 [.ref (bs + 758), z_i v1] σ (some (z_i q.1)) (Z_I q.1) q.2 := by
  refine am_of (by decide +kernel) (Nat.le_of_ble_eq_true rfl) (fun p e s m args below meth c X hr => ?_)
  refine aw_lv (lv' := [(0, .ref (bs + 758)), (1, z_i v1)]) rfl ?_
  unfold f_X12_count at hf
  refine aw_aload_n X 0 dX12_count_0 rfl rfl ?_
  refine aw_iconst X dX12_count_1 ?_
  refine aw_putI X s_758 pX12_101 rfl (z_lit (x := 0) (by decide)) dX12_count_2 ?_
  refine aw_iload_n X 1 dX12_count_5 rfl rfl ?_
  by_cases h1 : v1 = 0
  · rw [if_pos h1] at hf
    refine aw_tabIn X (tgt := 48) c_v1 dX12_count_6 (by omega) (by omega) (by rw [h1]; rfl) (by decide) ?_
    refine aw_aload_n X 0 dX12_count_48 rfl rfl ?_
    refine aw_getI X s_758 fX12_234 rfl dX12_count_49 (fun c2 => ?_)
    obtain rfl := Option.some.inj hf
    exact aw_iret X c2 hr rfl dX12_count_52
  rw [if_neg h1] at hf
  by_cases h3 : v1 = 1
  · rw [if_pos h3] at hf
    refine aw_tabIn X (tgt := 53) c_v1 dX12_count_6 (by omega) (by omega) (by rw [h3]; rfl) (by decide) ?_
    refine aw_aload_n X 0 dX12_count_53 rfl rfl ?_
    refine aw_getI X s_758 fX12_252 rfl dX12_count_54 (fun c4 => ?_)
    obtain rfl := Option.some.inj hf
    exact aw_iret X c4 hr rfl dX12_count_57
  rw [if_neg h3] at hf
  by_cases h5 : v1 = 2
  · rw [if_pos h5] at hf
    refine aw_tabIn X (tgt := 58) c_v1 dX12_count_6 (by omega) (by omega) (by rw [h5]; rfl) (by decide) ?_
    refine aw_aload_n X 0 dX12_count_58 rfl rfl ?_
    refine aw_getI X s_758 fX12_104 rfl dX12_count_59 (fun c6 => ?_)
    obtain rfl := Option.some.inj hf
    exact aw_iret X c6 hr rfl dX12_count_62
  rw [if_neg h5] at hf
  by_cases h7 : v1 = 3
  · rw [if_pos h7] at hf
    refine aw_tabIn X (tgt := 63) c_v1 dX12_count_6 (by omega) (by omega) (by rw [h7]; rfl) (by decide) ?_
    refine aw_aload_n X 0 dX12_count_63 rfl rfl ?_
    refine aw_getR X s_758 fX12_63 rfl dX12_count_64 ?_
    refine aw_bipush X dX12_count_67 (by decide) ?_
    refine aw_iald X (j := 75) s_776 (z_lit (x := 75) (by decide)) (by decide) (by decide) rfl dX12_count_69 (fun c8 => ?_)
    obtain rfl := Option.some.inj hf
    exact aw_iret X c8 hr rfl dX12_count_70
  rw [if_neg h7] at hf
  by_cases h9 : v1 = 4
  · rw [if_pos h9] at hf
    refine aw_tabIn X (tgt := 71) c_v1 dX12_count_6 (by omega) (by omega) (by rw [h9]; rfl) (by decide) ?_
    refine aw_aload_n X 0 dX12_count_71 rfl rfl ?_
    refine aw_getI X s_758 fX12_260 rfl dX12_count_72 (fun c10 => ?_)
    obtain rfl := Option.some.inj hf
    exact aw_iret X c10 hr rfl dX12_count_75
  rw [if_neg h9] at hf
  by_cases h11 : v1 = 5
  · rw [if_pos h11] at hf
    refine aw_tabIn X (tgt := 76) c_v1 dX12_count_6 (by omega) (by omega) (by rw [h11]; rfl) (by decide) ?_
    refine aw_aload_n X 0 dX12_count_76 rfl rfl ?_
    refine aw_getI X s_758 fX12_237 rfl dX12_count_77 (fun c12 => ?_)
    obtain rfl := Option.some.inj hf
    exact aw_iret X c12 hr rfl dX12_count_80
  rw [if_neg h11] at hf
  by_cases h13 : v1 = 6
  · rw [if_pos h13] at hf
    refine aw_tabIn X (tgt := 81) c_v1 dX12_count_6 (by omega) (by omega) (by rw [h13]; rfl) (by decide) ?_
    refine aw_aload_n X 0 dX12_count_81 rfl rfl ?_
    refine aw_getR X s_758 fX12_63 rfl dX12_count_82 ?_
    refine aw_bipush X dX12_count_85 (by decide) ?_
    refine aw_iald X (j := 44) s_776 (z_lit (x := 44) (by decide)) (by decide) (by decide) rfl dX12_count_87 (fun c14 => ?_)
    obtain rfl := Option.some.inj hf
    exact aw_iret X c14 hr rfl dX12_count_88
  rw [if_neg h13] at hf
  refine aw_tabOut X (tgt := 89) c_v1 dX12_count_6 (by omega) (by decide) ?_
  refine aw_ldcw X (x := (-1000000)) dX12_count_89 kX12_431 (by decide) ?_
  obtain rfl := Option.some.inj hf
  exact aw_iret X (z_lit (x := (-1000000)) (by decide)) hr rfl dX12_count_92
