-- SpeedDesk.step(III)I
def f_X11_step (v1 : Int) (v2 : Int) (v3 : Int) (σ : Nat → Nat → Int) : Option Int := if v1 < 0 then (some (-1000000)) else (if (σ 0 5) ≤ v1 then (some (-1000000)) else (if v2 < 0 then (some (-1000000)) else (if 0 ≤ v1 ∧ v1 < 5 then if v2 < (σ (43 + 26 * v1.toNat) 1) then (if 0 ≤ v1 ∧ v1 < 5 then if 0 ≤ v2 ∧ v2 < 12 then if v3 = 0 then (some (σ (43 + 26 * v1.toNat + 2 + 2 * v2.toNat) 1)) else (if v3 < 1 then (some (-1000000)) else (if v3 ≤ 3 then ((f_X8_numbersTold (43 + 26 * v1.toNat + 2 + 2 * v2.toNat) σ).bind fun q13 => if q13 < v3 then (some (-1)) else (if 0 ≤ (z_w (v3 - 1)) ∧ (z_w (v3 - 1)) < 3 then some (σ ((43 + 26 * v1.toNat + 2 + 2 * v2.toNat) + 1) (z_w (v3 - 1)).toNat) else none)) else (some (-1000000)))) else none else none) else (some (-1000000)) else none)))
section S_X11_step
variable {p : Program} {l : Launch} {e : Env} {s : State} {m : MethodId} {args : Array Value} {below : List Frame} {meth : Method} {c : Code} {D : va_G} {cA : Nat → ClassId} {sa : Nat → Nat} {bs : Nat} {q : Int}

end S_X11_step
set_option maxHeartbeats 4000000 in
set_option maxRecDepth 100000 in
theorem C_X11_step (l : Launch) (D : va_G) (cA : Nat → ClassId) (sa : Nat → Nat) (bs : Nat) (v1 : Int) (c_v1 : Z_I v1) (v2 : Int) (c_v2 : Z_I v2) (v3 : Int) (c_v3 : Z_I v3) (σ : Nat → Nat → Int) (q : Int) (hf : f_X11_step v1 v2 v3 σ = some q) : AM l D cA sa bs 787 SH yX11_step cX11_step 5 (some .int) 1 [.ref (bs + 0), z_i v1, z_i v2, z_i v3] σ (some (z_i q)) (Z_I q) σ := by
  refine am_of (by decide +kernel) (Nat.le_of_ble_eq_true rfl) (fun p e s m args below meth c X hr => ?_)
  refine aw_lv (lv' := [(0, .ref (bs + 0)), (1, z_i v1), (2, z_i v2), (3, z_i v3)]) rfl ?_
  unfold f_X11_step at hf
  refine aw_iload_n X 1 dX11_step_0 rfl rfl ?_
  refine aw_if_lt X (tgt := 29) c_v1 dX11_step_1 (by decide) (fun h1 => ?_) (fun h1 => ?_)
  · rw [if_pos h1] at hf
    refine aw_ldc X (x := (-1000000)) dX11_step_29 kX11_178 (by decide) ?_
    obtain rfl := Option.some.inj hf
    exact aw_iret X (z_lit (x := (-1000000)) (by decide)) hr rfl dX11_step_31
  · rw [if_neg h1] at hf
    refine aw_iload_n X 1 dX11_step_4 rfl rfl ?_
    refine aw_aload_n X 0 dX11_step_5 rfl rfl ?_
    refine aw_getI X s_0 fX11_360 rfl dX11_step_6 (fun c2 => ?_)
    refine aw_icmp_ge X (tgt := 29) c_v1 c2 dX11_step_9 (by decide) (fun h3 => ?_) (fun h3 => ?_)
    · rw [if_pos h3] at hf
      refine aw_ldc X (x := (-1000000)) dX11_step_29 kX11_178 (by decide) ?_
      obtain rfl := Option.some.inj hf
      exact aw_iret X (z_lit (x := (-1000000)) (by decide)) hr rfl dX11_step_31
    · rw [if_neg h3] at hf
      refine aw_iload_n X 2 dX11_step_12 rfl rfl ?_
      refine aw_if_lt X (tgt := 29) c_v2 dX11_step_13 (by decide) (fun h4 => ?_) (fun h4 => ?_)
      · rw [if_pos h4] at hf
        refine aw_ldc X (x := (-1000000)) dX11_step_29 kX11_178 (by decide) ?_
        obtain rfl := Option.some.inj hf
        exact aw_iret X (z_lit (x := (-1000000)) (by decide)) hr rfl dX11_step_31
      · rw [if_neg h4] at hf
        refine aw_iload_n X 2 dX11_step_16 rfl rfl ?_
        refine aw_aload_n X 0 dX11_step_17 rfl rfl ?_
        refine aw_getR X s_0 fX11_35 rfl dX11_step_18 ?_
        refine aw_iload_n X 1 dX11_step_21 rfl rfl ?_
        obtain ⟨g5, hf⟩ := z_gd hf
        refine aw_aald X (kd := 0) s_42 (by decide) c_v1 g5.1 g5.2 (tg_script _ (by omega)) dX11_step_22 ?_
        refine aw_getI X (sX6_0 (43 + 26 * v1.toNat) (s_script v1.toNat (by omega))) fX11_363 rfl dX11_step_23 (fun c6 => ?_)
        refine aw_icmp_lt X (tgt := 32) c_v2 c6 dX11_step_26 (by decide) (fun h7 => ?_) (fun h7 => ?_)
        · rw [if_pos h7] at hf
          refine aw_aload_n X 0 dX11_step_32 rfl rfl ?_
          refine aw_getR X s_0 fX11_35 rfl dX11_step_33 ?_
          refine aw_iload_n X 1 dX11_step_36 rfl rfl ?_
          obtain ⟨g8, hf⟩ := z_gd hf
          refine aw_aald X (kd := 0) s_42 (by decide) c_v1 g8.1 g8.2 (tg_script _ (by omega)) dX11_step_37 ?_
          refine aw_getR X (sX6_0 (43 + 26 * v1.toNat) (s_script v1.toNat (by omega))) fX11_366 rfl dX11_step_38 ?_
          refine aw_iload_n X 2 dX11_step_41 rfl rfl ?_
          obtain ⟨g9, hf⟩ := z_gd hf
          refine aw_aald X (kd := 2) (sX6_1 (43 + 26 * v1.toNat) (s_script v1.toNat (by omega))) (by decide) c_v2 g9.1 g9.2 (tg_steps (43 + 26 * v1.toNat) _ (by omega)) dX11_step_42 ?_
          refine aw_astore X [(4, .ref (bs + (43 + 26 * v1.toNat + 2 + 2 * v2.toNat))), (0, .ref (bs + 0)), (1, z_i v1), (2, z_i v2), (3, z_i v3)] dX11_step_43 (by decide) rfl ?_
          refine aw_iload_n X 4 dX11_step_45 rfl rfl ?_
          refine aw_if_ne X (tgt := 55) c_v3 dX11_step_46 (by decide) (fun h10 => ?_) (fun h10 => ?_)
          · rw [if_neg h10] at hf
            refine aw_iload_n X 4 dX11_step_55 rfl rfl ?_
            refine aw_iconst X dX11_step_56 ?_
            refine aw_icmp_lt X (tgt := 70) c_v3 (z_lit (x := 1) (by decide)) dX11_step_57 (by decide) (fun h11 => ?_) (fun h11 => ?_)
            · rw [if_pos h11] at hf
              refine aw_ldc X (x := (-1000000)) dX11_step_70 kX11_178 (by decide) ?_
              obtain rfl := Option.some.inj hf
              exact aw_iret X (z_lit (x := (-1000000)) (by decide)) hr rfl dX11_step_72
            · rw [if_neg h11] at hf
              refine aw_iload_n X 4 dX11_step_60 rfl rfl ?_
              refine aw_aload X 0 dX11_step_61 rfl ?_
              refine aw_getR X (sX8_0 (43 + 26 * v1.toNat + 2 + 2 * v2.toNat) (sX6_step (43 + 26 * v1.toNat) (s_script v1.toNat (by omega)) v2.toNat (by omega))) fX11_373 rfl dX11_step_63 ?_
              refine aw_alenI X (x := 3) (sX8_1 (43 + 26 * v1.toNat + 2 + 2 * v2.toNat) (sX6_step (43 + 26 * v1.toNat) (s_script v1.toNat (by omega)) v2.toNat (by omega))) rfl dX11_step_66 ?_
              refine aw_icmp_le X (tgt := 73) c_v3 (z_lit (x := 3) (by decide)) dX11_step_67 (by decide) (fun h12 => ?_) (fun h12 => ?_)
              · rw [if_pos h12] at hf
                refine aw_iload_n X 4 dX11_step_73 rfl rfl ?_
                refine aw_aload X 0 dX11_step_74 rfl ?_
                obtain ⟨q13, e14, hf⟩ := z_bd hf
                refine aw_callV X [] [z_i v3] [z_i q13, z_i v3] cX11_376 (sX8_0 (43 + 26 * v1.toNat + 2 + 2 * v2.toNat) (sX6_step (43 + 26 * v1.toNat) (s_script v1.toNat (by omega)) v2.toNat (by omega))) ciX8 (C_X8_numbersTold l D cA sa bs (43 + 26 * v1.toNat + 2 + 2 * v2.toNat) (sX6_step (43 + 26 * v1.toNat) (s_script v1.toNat (by omega)) v2.toNat (by omega)) σ q13 e14) rfl ⟨(Nat.le_of_ble_eq_true rfl), (Nat.le_of_ble_eq_true rfl)⟩ rfl (Nat.le_of_ble_eq_true rfl) rfl dX11_step_76 (fun p15 => ?_)
                refine aw_icmp_gt X (tgt := 94) c_v3 p15 dX11_step_79 (by decide) (fun h16 => ?_) (fun h16 => ?_)
                · rw [if_pos h16] at hf
                  refine aw_iconst X dX11_step_94 ?_
                  obtain rfl := Option.some.inj hf
                  exact aw_iret X (z_lit (x := (-1)) (by decide)) hr rfl dX11_step_95
                · rw [if_neg h16] at hf
                  refine aw_aload X 0 dX11_step_82 rfl ?_
                  refine aw_getR X (sX8_0 (43 + 26 * v1.toNat + 2 + 2 * v2.toNat) (sX6_step (43 + 26 * v1.toNat) (s_script v1.toNat (by omega)) v2.toNat (by omega))) fX11_373 rfl dX11_step_84 ?_
                  refine aw_iload_n X 4 dX11_step_87 rfl rfl ?_
                  refine aw_iconst X dX11_step_88 ?_
                  refine aw_isub X dX11_step_89 ?_
                  obtain ⟨g17, hf⟩ := z_gd hf
                  refine aw_iald X (j := (z_w (v3 - 1)).toNat) (sX8_1 (43 + 26 * v1.toNat + 2 + 2 * v2.toNat) (sX6_step (43 + 26 * v1.toNat) (s_script v1.toNat (by omega)) v2.toNat (by omega))) (z_w_in _) g17.1 g17.2 rfl dX11_step_90 (fun c18 => ?_)
                  refine aw_goto X (tgt := 95) dX11_step_91 (by decide) ?_
                  obtain rfl := Option.some.inj hf
                  exact aw_iret X c18 hr rfl dX11_step_95
              · rw [if_neg h12] at hf
                refine aw_ldc X (x := (-1000000)) dX11_step_70 kX11_178 (by decide) ?_
                obtain rfl := Option.some.inj hf
                exact aw_iret X (z_lit (x := (-1000000)) (by decide)) hr rfl dX11_step_72
          · rw [if_pos h10] at hf
            refine aw_aload X 0 dX11_step_49 rfl ?_
            refine aw_getI X (sX8_0 (43 + 26 * v1.toNat + 2 + 2 * v2.toNat) (sX6_step (43 + 26 * v1.toNat) (s_script v1.toNat (by omega)) v2.toNat (by omega))) fX11_370 rfl dX11_step_51 (fun c19 => ?_)
            obtain rfl := Option.some.inj hf
            exact aw_iret X c19 hr rfl dX11_step_54
        · rw [if_neg h7] at hf
          refine aw_ldc X (x := (-1000000)) dX11_step_29 kX11_178 (by decide) ?_
          obtain rfl := Option.some.inj hf
          exact aw_iret X (z_lit (x := (-1000000)) (by decide)) hr rfl dX11_step_31
-- SpeedDesk.runOnTrial(LSpeedDesk$Script;)I
def f_X11_runOnTrial_2 : Nat → Nat → Int → (Nat → Nat → Int) → Option (Int × (Nat → Nat → Int))
  | 0, _, _, _ => none
  | k + 1, a1, v2, σ => if (σ a1 1) ≤ v2 then (some (σ a1 1, σ)) else (if (σ 0 2).toNat ∈ ax_iX1 then if 0 ≤ v2 ∧ v2 < 12 then (f_X0_refusalOf ((σ 0 2).toNat) 186 (a1 + 2 + 2 * v2.toNat) σ).bind fun q6 => if q6.1 = (-1) then (if (q6.2 0 2).toNat ∈ ax_iX1 then if 0 ≤ v2 ∧ v2 < 12 then (f_X0_carryOut ((q6.2 0 2).toNat) 186 (a1 + 2 + 2 * v2.toNat) q6.2).bind fun q12 => (f_X11_runOnTrial_2 k) a1 (z_w (v2 + 1)) q12.2 else none else none) else (some (v2, q6.2)) else none else none)
def f_X11_runOnTrial (a1 : Nat) (σ : Nat → Nat → Int) : Option (Int × (Nat → Nat → Int)) := f_X11_runOnTrial_2 100000 a1 0 σ
section S_X11_runOnTrial
variable {p : Program} {l : Launch} {e : Env} {s : State} {m : MethodId} {args : Array Value} {below : List Frame} {meth : Method} {c : Code} {D : va_G} {cA : Nat → ClassId} {sa : Nat → Nat} {bs : Nat} {q : (Int × (Nat → Nat → Int))}
set_option maxHeartbeats 4000000 in
set_option maxRecDepth 100000 in
theorem A_X11_runOnTrial_2 (X : AX p s m args meth c D cA sa bs cX11_runOnTrial 3 RX11) (hr : meth.sig.returnType = (some .int)) : ∀ (k : Nat) (a1 : Nat) (h_a1 : a1 ∈ ax_iX6) (v2 : Int) (c_v2 : Z_I v2) (σ : Nat → Nat → Int), f_X11_runOnTrial_2 k a1 v2 σ = some q → AW p l e (ax_rm 7 0 0) s m args below meth c D cA bs 787 SH (ax_MQ below args s D cA bs 787 SH (some (z_i q.1)) (Z_I q.1) q.2) 3 2 [(0, .ref (bs + 0)), (1, .ref (bs + a1)), (2, z_i v2)] [] σ := by
  intro k
  induction k with
  | zero =>
    intro a1 h_a1 v2 c_v2 σ hf
    unfold f_X11_runOnTrial_2 at hf
    cases hf
  | succ k ih =>
    intro a1 h_a1 v2 c_v2 σ hf
    unfold f_X11_runOnTrial_2 at hf
    refine aw_iload_n X 2 dX11_runOnTrial_2 rfl rfl ?_
    refine aw_aload_n X 1 dX11_runOnTrial_3 rfl rfl ?_
    refine aw_getI X (sX6_0 a1 h_a1) fX11_363 rfl dX11_runOnTrial_4 (fun c1 => ?_)
    refine aw_icmp_ge X (tgt := 65) c_v2 c1 dX11_runOnTrial_7 (by decide) (fun h2 => ?_) (fun h2 => ?_)
    · rw [if_pos h2] at hf
      refine aw_aload_n X 1 dX11_runOnTrial_65 rfl rfl ?_
      refine aw_getI X (sX6_0 a1 h_a1) fX11_363 rfl dX11_runOnTrial_66 (fun c3 => ?_)
      obtain rfl := Option.some.inj hf
      exact aw_iret X c3 hr rfl dX11_runOnTrial_69
    · rw [if_neg h2] at hf
      refine aw_aload_n X 0 dX11_runOnTrial_10 rfl rfl ?_
      refine aw_getR X s_0 fX11_72 rfl dX11_runOnTrial_11 ?_
      refine aw_aload_n X 0 dX11_runOnTrial_14 rfl rfl ?_
      obtain ⟨g4, hf⟩ := z_gd hf
      refine aw_getV X s_0 fX11_24 rfl dX11_runOnTrial_15 ?_
      refine aw_aload_n X 0 dX11_runOnTrial_18 rfl rfl ?_
      refine aw_getR X s_0 fX11_46 rfl dX11_runOnTrial_19 ?_
      refine aw_aload_n X 1 dX11_runOnTrial_22 rfl rfl ?_
      refine aw_getR X (sX6_0 a1 h_a1) fX11_366 rfl dX11_runOnTrial_23 ?_
      refine aw_iload_n X 2 dX11_runOnTrial_26 rfl rfl ?_
      obtain ⟨g5, hf⟩ := z_gd hf
      refine aw_aald X (kd := 2) (sX6_1 a1 h_a1) (by decide) c_v2 g5.1 g5.2 (tg_steps a1 _ (by omega)) dX11_runOnTrial_27 ?_
      obtain ⟨q6, e7, hf⟩ := z_bd hf
      refine aw_callV X [.ref (bs + ((σ 0 2).toNat)), .ref (bs + 186), .ref (bs + (a1 + 2 + 2 * v2.toNat))] [] [z_i q6.1] cX11_382 s_742 ciX0 (C_X0_refusalOf l D cA sa bs ((σ 0 2).toNat) g4 186 (by decide) (a1 + 2 + 2 * v2.toNat) (sX6_step a1 h_a1 v2.toNat (by omega)) σ q6 e7) rfl ⟨(Nat.le_of_ble_eq_true rfl), (Nat.le_of_ble_eq_true rfl)⟩ rfl (Nat.le_of_ble_eq_true rfl) rfl dX11_runOnTrial_28 (fun p8 => ?_)
      refine aw_iconst X dX11_runOnTrial_31 ?_
      refine aw_icmp_eq X (tgt := 37) p8 (z_lit (x := (-1)) (by decide)) dX11_runOnTrial_32 (by decide) (fun h9 => ?_) (fun h9 => ?_)
      · rw [if_pos h9] at hf
        refine aw_aload_n X 0 dX11_runOnTrial_37 rfl rfl ?_
        refine aw_getR X s_0 fX11_72 rfl dX11_runOnTrial_38 ?_
        refine aw_aload_n X 0 dX11_runOnTrial_41 rfl rfl ?_
        obtain ⟨g10, hf⟩ := z_gd hf
        refine aw_getV X s_0 fX11_24 rfl dX11_runOnTrial_42 ?_
        refine aw_aload_n X 0 dX11_runOnTrial_45 rfl rfl ?_
        refine aw_getR X s_0 fX11_46 rfl dX11_runOnTrial_46 ?_
        refine aw_aload_n X 1 dX11_runOnTrial_49 rfl rfl ?_
        refine aw_getR X (sX6_0 a1 h_a1) fX11_366 rfl dX11_runOnTrial_50 ?_
        refine aw_iload_n X 2 dX11_runOnTrial_53 rfl rfl ?_
        obtain ⟨g11, hf⟩ := z_gd hf
        refine aw_aald X (kd := 2) (sX6_1 a1 h_a1) (by decide) c_v2 g11.1 g11.2 (tg_steps a1 _ (by omega)) dX11_runOnTrial_54 ?_
        obtain ⟨q12, e13, hf⟩ := z_bd hf
        refine aw_callV X [.ref (bs + ((q6.2 0 2).toNat)), .ref (bs + 186), .ref (bs + (a1 + 2 + 2 * v2.toNat))] [] [z_i q12.1] cX11_458 s_742 ciX0 (C_X0_carryOut l D cA sa bs ((q6.2 0 2).toNat) g10 186 (by decide) (a1 + 2 + 2 * v2.toNat) (sX6_step a1 h_a1 v2.toNat (by omega)) q6.2 q12 e13) rfl ⟨(Nat.le_of_ble_eq_true rfl), (Nat.le_of_ble_eq_true rfl)⟩ rfl (Nat.le_of_ble_eq_true rfl) rfl dX11_runOnTrial_55 (fun p14 => ?_)
        refine aw_pop X dX11_runOnTrial_58 rfl ?_
        refine aw_iinc X 2 [(2, z_i (z_w (v2 + 1))), (0, .ref (bs + 0)), (1, .ref (bs + a1))] dX11_runOnTrial_59 rfl (by decide) rfl ?_
        refine aw_goto X (tgt := 2) dX11_runOnTrial_62 (by decide) ?_
        refine aw_sub [1, 2, 0] rfl ?_
        exact ih a1 h_a1 (z_w (v2 + 1)) (z_w_in _) q12.2 hf
      · rw [if_neg h9] at hf
        refine aw_iload_n X 2 dX11_runOnTrial_35 rfl rfl ?_
        obtain rfl := Option.some.inj hf
        exact aw_iret X c_v2 hr rfl dX11_runOnTrial_36
end S_X11_runOnTrial
set_option maxHeartbeats 4000000 in
set_option maxRecDepth 100000 in
theorem C_X11_runOnTrial (l : Launch) (D : va_G) (cA : Nat → ClassId) (sa : Nat → Nat) (bs : Nat) (a1 : Nat) (h_a1 : a1 ∈ ax_iX6) (σ : Nat → Nat → Int) (q : (Int × (Nat → Nat → Int))) (hf : f_X11_runOnTrial a1 σ = some q) : AM l D cA sa bs 787 SH yX11_runOnTrial cX11_runOnTrial 3 (some .int) 7 [.ref (bs + 0), .ref (bs + a1)] σ (some (z_i q.1)) (Z_I q.1) q.2 := by
  refine am_of (by decide +kernel) (Nat.le_of_ble_eq_true rfl) (fun p e s m args below meth c X hr => ?_)
  refine aw_lv (lv' := [(0, .ref (bs + 0)), (1, .ref (bs + a1))]) rfl ?_
  unfold f_X11_runOnTrial at hf
  refine aw_iconst X dX11_runOnTrial_0 ?_
  refine aw_istore_n X [(2, z_i 0), (0, .ref (bs + 0)), (1, .ref (bs + a1))] dX11_runOnTrial_1 rfl (by decide) rfl ?_
  refine aw_sub [1, 2, 0] rfl ?_
  exact A_X11_runOnTrial_2 X hr 100000 a1 h_a1 0 (z_lit (x := 0) (by decide)) σ hf
-- SpeedDesk.run(II)I
def f_X11_run (v1 : Int) (v2 : Int) (σ : Nat → Nat → Int) : Option (Int × (Nat → Nat → Int)) := if (σ 0 2).toNat ∈ ax_iX1 then (f_X1_isTold ((σ 0 2).toNat) σ).bind fun q2 => if q2 = 0 then (some ((-1000000), σ)) else (if v1 < 0 then (some ((-1000000), σ)) else (if (σ 0 5) ≤ v1 then (some ((-1000000), σ)) else (if v2 < 0 then (some ((-1000000), σ)) else (if v2 ≤ 1 then ((f_X7_copyFrom 186 173 σ).bind fun q11 => if 0 ≤ v1 ∧ v1 < 5 then (f_X11_runOnTrial (43 + 26 * v1.toNat) q11).bind fun q15 => if v2 = 1 then (some (q15.2 186 2, q15.2)) else (if 0 ≤ v1 ∧ v1 < 5 then if q15.1 = (q15.2 (43 + 26 * v1.toNat) 1) then (some ((-1), q15.2)) else (some (q15.1, q15.2)) else none) else none) else (some ((-1000000), σ)))))) else none
section S_X11_run
variable {p : Program} {l : Launch} {e : Env} {s : State} {m : MethodId} {args : Array Value} {below : List Frame} {meth : Method} {c : Code} {D : va_G} {cA : Nat → ClassId} {sa : Nat → Nat} {bs : Nat} {q : (Int × (Nat → Nat → Int))}

end S_X11_run
set_option maxHeartbeats 4000000 in
set_option maxRecDepth 100000 in
theorem C_X11_run (l : Launch) (D : va_G) (cA : Nat → ClassId) (sa : Nat → Nat) (bs : Nat) (v1 : Int) (c_v1 : Z_I v1) (v2 : Int) (c_v2 : Z_I v2) (σ : Nat → Nat → Int) (q : (Int × (Nat → Nat → Int))) (hf : f_X11_run v1 v2 σ = some q) : AM l D cA sa bs 787 SH yX11_run cX11_run 4 (some .int) 8 [.ref (bs + 0), z_i v1, z_i v2] σ (some (z_i q.1)) (Z_I q.1) q.2 := by
  refine am_of (by decide +kernel) (Nat.le_of_ble_eq_true rfl) (fun p e s m args below meth c X hr => ?_)
  refine aw_lv (lv' := [(0, .ref (bs + 0)), (1, z_i v1), (2, z_i v2)]) rfl ?_
  unfold f_X11_run at hf
  refine aw_aload_n X 0 dX11_run_0 rfl rfl ?_
  obtain ⟨g1, hf⟩ := z_gd hf
  refine aw_getV X s_0 fX11_24 rfl dX11_run_1 ?_
  obtain ⟨q2, e3, hf⟩ := z_bd hf
  refine aw_callV X [] [] [z_i q2] cX11_137 (sX1_0 ((σ 0 2).toNat) g1) ciX1 (C_X1_isTold l D cA sa bs ((σ 0 2).toNat) g1 σ q2 e3) rfl ⟨(Nat.le_of_ble_eq_true rfl), (Nat.le_of_ble_eq_true rfl)⟩ rfl (Nat.le_of_ble_eq_true rfl) rfl dX11_run_4 (fun p4 => ?_)
  refine aw_if_eq X (tgt := 31) (z_zI p4) dX11_run_7 (by decide) (fun h5 => ?_) (fun h5 => ?_)
  · rw [if_pos h5] at hf
    refine aw_ldc X (x := (-1000000)) dX11_run_31 kX11_178 (by decide) ?_
    obtain rfl := Option.some.inj hf
    exact aw_iret X (z_lit (x := (-1000000)) (by decide)) hr rfl dX11_run_33
  · rw [if_neg h5] at hf
    refine aw_iload_n X 1 dX11_run_10 rfl rfl ?_
    refine aw_if_lt X (tgt := 31) c_v1 dX11_run_11 (by decide) (fun h6 => ?_) (fun h6 => ?_)
    · rw [if_pos h6] at hf
      refine aw_ldc X (x := (-1000000)) dX11_run_31 kX11_178 (by decide) ?_
      obtain rfl := Option.some.inj hf
      exact aw_iret X (z_lit (x := (-1000000)) (by decide)) hr rfl dX11_run_33
    · rw [if_neg h6] at hf
      refine aw_iload_n X 1 dX11_run_14 rfl rfl ?_
      refine aw_aload_n X 0 dX11_run_15 rfl rfl ?_
      refine aw_getI X s_0 fX11_360 rfl dX11_run_16 (fun c7 => ?_)
      refine aw_icmp_ge X (tgt := 31) c_v1 c7 dX11_run_19 (by decide) (fun h8 => ?_) (fun h8 => ?_)
      · rw [if_pos h8] at hf
        refine aw_ldc X (x := (-1000000)) dX11_run_31 kX11_178 (by decide) ?_
        obtain rfl := Option.some.inj hf
        exact aw_iret X (z_lit (x := (-1000000)) (by decide)) hr rfl dX11_run_33
      · rw [if_neg h8] at hf
        refine aw_iload_n X 2 dX11_run_22 rfl rfl ?_
        refine aw_if_lt X (tgt := 31) c_v2 dX11_run_23 (by decide) (fun h9 => ?_) (fun h9 => ?_)
        · rw [if_pos h9] at hf
          refine aw_ldc X (x := (-1000000)) dX11_run_31 kX11_178 (by decide) ?_
          obtain rfl := Option.some.inj hf
          exact aw_iret X (z_lit (x := (-1000000)) (by decide)) hr rfl dX11_run_33
        · rw [if_neg h9] at hf
          refine aw_iload_n X 2 dX11_run_26 rfl rfl ?_
          refine aw_iconst X dX11_run_27 ?_
          refine aw_icmp_le X (tgt := 34) c_v2 (z_lit (x := 1) (by decide)) dX11_run_28 (by decide) (fun h10 => ?_) (fun h10 => ?_)
          · rw [if_pos h10] at hf
            refine aw_aload_n X 0 dX11_run_34 rfl rfl ?_
            refine aw_getR X s_0 fX11_46 rfl dX11_run_35 ?_
            refine aw_aload_n X 0 dX11_run_38 rfl rfl ?_
            refine aw_getR X s_0 fX11_42 rfl dX11_run_39 ?_
            obtain ⟨q11, e12, hf⟩ := z_bd hf
            refine aw_callV X [.ref (bs + 173)] [] [] cX11_328 (sX7_0 186 (by decide)) ciX7 (C_X7_copyFrom l D cA sa bs 186 (by decide) 173 (by decide) σ q11 e12) rfl ⟨(Nat.le_of_ble_eq_true rfl), (Nat.le_of_ble_eq_true rfl)⟩ rfl (Nat.le_of_ble_eq_true rfl) rfl dX11_run_42 (fun p13 => ?_)
            refine aw_aload_n X 0 dX11_run_45 rfl rfl ?_
            refine aw_aload_n X 0 dX11_run_46 rfl rfl ?_
            refine aw_getR X s_0 fX11_35 rfl dX11_run_47 ?_
            refine aw_iload_n X 1 dX11_run_50 rfl rfl ?_
            obtain ⟨g14, hf⟩ := z_gd hf
            refine aw_aald X (kd := 0) s_42 (by decide) c_v1 g14.1 g14.2 (tg_script _ (by omega)) dX11_run_51 ?_
            obtain ⟨q15, e16, hf⟩ := z_bd hf
            refine aw_callV X [.ref (bs + (43 + 26 * v1.toNat))] [] [z_i q15.1] cX11_379 s_0 ciX11 (C_X11_runOnTrial l D cA sa bs (43 + 26 * v1.toNat) (s_script v1.toNat (by omega)) q11 q15 e16) rfl ⟨(Nat.le_of_ble_eq_true rfl), (Nat.le_of_ble_eq_true rfl)⟩ rfl (Nat.le_of_ble_eq_true rfl) rfl dX11_run_52 (fun p17 => ?_)
            refine aw_istore_n X [(3, z_i q15.1), (0, .ref (bs + 0)), (1, z_i v1), (2, z_i v2)] dX11_run_55 rfl (by decide) rfl ?_
            refine aw_iload_n X 3 dX11_run_56 rfl rfl ?_
            refine aw_iconst X dX11_run_57 ?_
            refine aw_icmp_ne X (tgt := 69) c_v2 (z_lit (x := 1) (by decide)) dX11_run_58 (by decide) (fun h18 => ?_) (fun h18 => ?_)
            · rw [if_neg h18] at hf
              refine aw_iload_n X 0 dX11_run_69 rfl rfl ?_
              refine aw_aload_n X 1 dX11_run_70 rfl rfl ?_
              refine aw_getR X s_0 fX11_35 rfl dX11_run_71 ?_
              refine aw_iload_n X 2 dX11_run_74 rfl rfl ?_
              obtain ⟨g19, hf⟩ := z_gd hf
              refine aw_aald X (kd := 0) s_42 (by decide) c_v1 g19.1 g19.2 (tg_script _ (by omega)) dX11_run_75 ?_
              refine aw_getI X (sX6_0 (43 + 26 * v1.toNat) (s_script v1.toNat (by omega))) fX11_363 rfl dX11_run_76 (fun c20 => ?_)
              refine aw_icmp_ne X (tgt := 86) p17 c20 dX11_run_79 (by decide) (fun h21 => ?_) (fun h21 => ?_)
              · rw [if_neg h21] at hf
                refine aw_iload_n X 0 dX11_run_86 rfl rfl ?_
                obtain rfl := Option.some.inj hf
                exact aw_iret X p17 hr rfl dX11_run_87
              · rw [if_pos h21] at hf
                refine aw_iconst X dX11_run_82 ?_
                refine aw_goto X (tgt := 87) dX11_run_83 (by decide) ?_
                obtain rfl := Option.some.inj hf
                exact aw_iret X (z_lit (x := (-1)) (by decide)) hr rfl dX11_run_87
            · rw [if_pos h18] at hf
              refine aw_aload_n X 1 dX11_run_61 rfl rfl ?_
              refine aw_getR X s_0 fX11_46 rfl dX11_run_62 ?_
              refine aw_getI X (sX7_0 186 (by decide)) fX11_335 rfl dX11_run_65 (fun c22 => ?_)
              obtain rfl := Option.some.inj hf
              exact aw_iret X c22 hr rfl dX11_run_68
          · rw [if_neg h10] at hf
            refine aw_ldc X (x := (-1000000)) dX11_run_31 kX11_178 (by decide) ?_
            obtain rfl := Option.some.inj hf
            exact aw_iret X (z_lit (x := (-1000000)) (by decide)) hr rfl dX11_run_33
-- SpeedDesk.perform(I)I
def f_X11_perform_33 : Nat → Nat → Int → (Nat → Nat → Int) → Option (Int × (Nat → Nat → Int))
  | 0, _, _, _ => none
  | k + 1, a2, v3, σ => if (σ a2 1) ≤ v3 then (some (σ a2 1, σ)) else (if (σ 0 2).toNat ∈ ax_iX1 then if 0 ≤ v3 ∧ v3 < 12 then (f_X0_refusalOf ((σ 0 2).toNat) 173 (a2 + 2 + 2 * v3.toNat) σ).bind fun q15 => if q15.1 = (-1) then (if 0 ≤ v3 ∧ v3 < 12 then (f_X11_doAct (a2 + 2 + 2 * v3.toNat) q15.2).bind fun q20 => (f_X11_perform_33 k) a2 (z_w (v3 + 1)) q20.2 else none) else (some (v3, q15.2)) else none else none)
def f_X11_perform (v1 : Int) (σ : Nat → Nat → Int) : Option (Int × (Nat → Nat → Int)) := if (σ 0 2).toNat ∈ ax_iX1 then (f_X1_isTold ((σ 0 2).toNat) σ).bind fun q2 => if q2 = 0 then (some ((-1), σ)) else (if v1 < 0 then (some ((-1), σ)) else (if v1 < (σ 0 5) then (if 0 ≤ v1 ∧ v1 < 5 then f_X11_perform_33 100000 (43 + 26 * v1.toNat) 0 σ else none) else (some ((-1), σ)))) else none
section S_X11_perform
variable {p : Program} {l : Launch} {e : Env} {s : State} {m : MethodId} {args : Array Value} {below : List Frame} {meth : Method} {c : Code} {D : va_G} {cA : Nat → ClassId} {sa : Nat → Nat} {bs : Nat} {q : (Int × (Nat → Nat → Int))}
set_option maxHeartbeats 4000000 in
set_option maxRecDepth 100000 in
theorem A_X11_perform_33 (X : AX p s m args meth c D cA sa bs cX11_perform 4 RX11) (hr : meth.sig.returnType = (some .int)) : ∀ (k : Nat) (a2 : Nat) (h_a2 : a2 ∈ ax_iX6) (v3 : Int) (c_v3 : Z_I v3) (σ : Nat → Nat → Int), f_X11_perform_33 k a2 v3 σ = some q → AW p l e (ax_rm 8 0 0) s m args below meth c D cA bs 787 SH (ax_MQ below args s D cA bs 787 SH (some (z_i q.1)) (Z_I q.1) q.2) 4 33 [(0, .ref (bs + 0)), (2, .ref (bs + a2)), (3, z_i v3)] [] σ := by
  intro k
  induction k with
  | zero =>
    intro a2 h_a2 v3 c_v3 σ hf
    unfold f_X11_perform_33 at hf
    cases hf
  | succ k ih =>
    intro a2 h_a2 v3 c_v3 σ hf
    unfold f_X11_perform_33 at hf
    refine aw_iload_n X 2 dX11_perform_33 rfl rfl ?_
    refine aw_aload_n X 1 dX11_perform_34 rfl rfl ?_
    refine aw_getI X (sX6_0 a2 h_a2) fX11_363 rfl dX11_perform_35 (fun c10 => ?_)
    refine aw_icmp_ge X (tgt := 85) c_v3 c10 dX11_perform_38 (by decide) (fun h11 => ?_) (fun h11 => ?_)
    · rw [if_pos h11] at hf
      refine aw_aload_n X 1 dX11_perform_85 rfl rfl ?_
      refine aw_getI X (sX6_0 a2 h_a2) fX11_363 rfl dX11_perform_86 (fun c12 => ?_)
      obtain rfl := Option.some.inj hf
      exact aw_iret X c12 hr rfl dX11_perform_89
    · rw [if_neg h11] at hf
      refine aw_aload_n X 0 dX11_perform_41 rfl rfl ?_
      refine aw_getR X s_0 fX11_72 rfl dX11_perform_42 ?_
      refine aw_aload_n X 0 dX11_perform_45 rfl rfl ?_
      obtain ⟨g13, hf⟩ := z_gd hf
      refine aw_getV X s_0 fX11_24 rfl dX11_perform_46 ?_
      refine aw_aload_n X 0 dX11_perform_49 rfl rfl ?_
      refine aw_getR X s_0 fX11_42 rfl dX11_perform_50 ?_
      refine aw_aload_n X 1 dX11_perform_53 rfl rfl ?_
      refine aw_getR X (sX6_0 a2 h_a2) fX11_366 rfl dX11_perform_54 ?_
      refine aw_iload_n X 2 dX11_perform_57 rfl rfl ?_
      obtain ⟨g14, hf⟩ := z_gd hf
      refine aw_aald X (kd := 2) (sX6_1 a2 h_a2) (by decide) c_v3 g14.1 g14.2 (tg_steps a2 _ (by omega)) dX11_perform_58 ?_
      obtain ⟨q15, e16, hf⟩ := z_bd hf
      refine aw_callV X [.ref (bs + ((σ 0 2).toNat)), .ref (bs + 173), .ref (bs + (a2 + 2 + 2 * v3.toNat))] [] [z_i q15.1] cX11_382 s_742 ciX0 (C_X0_refusalOf l D cA sa bs ((σ 0 2).toNat) g13 173 (by decide) (a2 + 2 + 2 * v3.toNat) (sX6_step a2 h_a2 v3.toNat (by omega)) σ q15 e16) rfl ⟨(Nat.le_of_ble_eq_true rfl), (Nat.le_of_ble_eq_true rfl)⟩ rfl (Nat.le_of_ble_eq_true rfl) rfl dX11_perform_59 (fun p17 => ?_)
      refine aw_iconst X dX11_perform_62 ?_
      refine aw_icmp_eq X (tgt := 68) p17 (z_lit (x := (-1)) (by decide)) dX11_perform_63 (by decide) (fun h18 => ?_) (fun h18 => ?_)
      · rw [if_pos h18] at hf
        refine aw_aload_n X 0 dX11_perform_68 rfl rfl ?_
        refine aw_aload_n X 1 dX11_perform_69 rfl rfl ?_
        refine aw_getR X (sX6_0 a2 h_a2) fX11_366 rfl dX11_perform_70 ?_
        refine aw_iload_n X 2 dX11_perform_73 rfl rfl ?_
        obtain ⟨g19, hf⟩ := z_gd hf
        refine aw_aald X (kd := 2) (sX6_1 a2 h_a2) (by decide) c_v3 g19.1 g19.2 (tg_steps a2 _ (by omega)) dX11_perform_74 ?_
        obtain ⟨q20, e21, hf⟩ := z_bd hf
        refine aw_callV X [.ref (bs + (a2 + 2 + 2 * v3.toNat))] [] [z_i q20.1] cX11_386 s_0 ciX11 (C_X11_doAct l D cA sa bs (a2 + 2 + 2 * v3.toNat) (sX6_step a2 h_a2 v3.toNat (by omega)) q15.2 q20 e21) rfl ⟨(Nat.le_of_ble_eq_true rfl), (Nat.le_of_ble_eq_true rfl)⟩ rfl (Nat.le_of_ble_eq_true rfl) rfl dX11_perform_75 (fun p22 => ?_)
        refine aw_pop X dX11_perform_78 rfl ?_
        refine aw_iinc X 2 [(3, z_i (z_w (v3 + 1))), (0, .ref (bs + 0)), (2, .ref (bs + a2))] dX11_perform_79 rfl (by decide) rfl ?_
        refine aw_goto X (tgt := 33) dX11_perform_82 (by decide) ?_
        refine aw_sub [1, 2, 0] rfl ?_
        exact ih a2 h_a2 (z_w (v3 + 1)) (z_w_in _) q20.2 hf
      · rw [if_neg h18] at hf
        refine aw_iload_n X 2 dX11_perform_66 rfl rfl ?_
        obtain rfl := Option.some.inj hf
        exact aw_iret X c_v3 hr rfl dX11_perform_67
end S_X11_perform
set_option maxHeartbeats 4000000 in
set_option maxRecDepth 100000 in
theorem C_X11_perform (l : Launch) (D : va_G) (cA : Nat → ClassId) (sa : Nat → Nat) (bs : Nat) (v1 : Int) (c_v1 : Z_I v1) (σ : Nat → Nat → Int) (q : (Int × (Nat → Nat → Int))) (hf : f_X11_perform v1 σ = some q) : AM l D cA sa bs 787 SH yX11_perform cX11_perform 4 (some .int) 8 [.ref (bs + 0), z_i v1] σ (some (z_i q.1)) (Z_I q.1) q.2 := by
  refine am_of (by decide +kernel) (Nat.le_of_ble_eq_true rfl) (fun p e s m args below meth c X hr => ?_)
  refine aw_lv (lv' := [(0, .ref (bs + 0)), (1, z_i v1)]) rfl ?_
  unfold f_X11_perform at hf
  refine aw_aload_n X 0 dX11_perform_0 rfl rfl ?_
  obtain ⟨g1, hf⟩ := z_gd hf
  refine aw_getV X s_0 fX11_24 rfl dX11_perform_1 ?_
  obtain ⟨q2, e3, hf⟩ := z_bd hf
  refine aw_callV X [] [] [z_i q2] cX11_137 (sX1_0 ((σ 0 2).toNat) g1) ciX1 (C_X1_isTold l D cA sa bs ((σ 0 2).toNat) g1 σ q2 e3) rfl ⟨(Nat.le_of_ble_eq_true rfl), (Nat.le_of_ble_eq_true rfl)⟩ rfl (Nat.le_of_ble_eq_true rfl) rfl dX11_perform_4 (fun p4 => ?_)
  refine aw_if_eq X (tgt := 22) (z_zI p4) dX11_perform_7 (by decide) (fun h5 => ?_) (fun h5 => ?_)
  · rw [if_pos h5] at hf
    refine aw_iconst X dX11_perform_22 ?_
    obtain rfl := Option.some.inj hf
    exact aw_iret X (z_lit (x := (-1)) (by decide)) hr rfl dX11_perform_23
  · rw [if_neg h5] at hf
    refine aw_iload_n X 1 dX11_perform_10 rfl rfl ?_
    refine aw_if_lt X (tgt := 22) c_v1 dX11_perform_11 (by decide) (fun h6 => ?_) (fun h6 => ?_)
    · rw [if_pos h6] at hf
      refine aw_iconst X dX11_perform_22 ?_
      obtain rfl := Option.some.inj hf
      exact aw_iret X (z_lit (x := (-1)) (by decide)) hr rfl dX11_perform_23
    · rw [if_neg h6] at hf
      refine aw_iload_n X 1 dX11_perform_14 rfl rfl ?_
      refine aw_aload_n X 0 dX11_perform_15 rfl rfl ?_
      refine aw_getI X s_0 fX11_360 rfl dX11_perform_16 (fun c7 => ?_)
      refine aw_icmp_lt X (tgt := 24) c_v1 c7 dX11_perform_19 (by decide) (fun h8 => ?_) (fun h8 => ?_)
      · rw [if_pos h8] at hf
        refine aw_aload_n X 0 dX11_perform_24 rfl rfl ?_
        refine aw_getR X s_0 fX11_35 rfl dX11_perform_25 ?_
        refine aw_iload_n X 1 dX11_perform_28 rfl rfl ?_
        obtain ⟨g9, hf⟩ := z_gd hf
        refine aw_aald X (kd := 0) s_42 (by decide) c_v1 g9.1 g9.2 (tg_script _ (by omega)) dX11_perform_29 ?_
        refine aw_astore_n X [(2, .ref (bs + (43 + 26 * v1.toNat))), (0, .ref (bs + 0)), (1, z_i v1)] dX11_perform_30 rfl (by decide) rfl ?_
        refine aw_iconst X dX11_perform_31 ?_
        refine aw_istore_n X [(3, z_i 0), (2, .ref (bs + (43 + 26 * v1.toNat))), (0, .ref (bs + 0)), (1, z_i v1)] dX11_perform_32 rfl (by decide) rfl ?_
        refine aw_sub [2, 1, 0] rfl ?_
        exact A_X11_perform_33 X hr 100000 (43 + 26 * v1.toNat) (s_script v1.toNat (by omega)) 0 (z_lit (x := 0) (by decide)) σ hf
      · rw [if_neg h8] at hf
        refine aw_iconst X dX11_perform_22 ?_
        obtain rfl := Option.some.inj hf
        exact aw_iret X (z_lit (x := (-1)) (by decide)) hr rfl dX11_perform_23
-- SpeedDesk.fullestCore()I
def f_X11_fullestCore_4 : Nat → Int → Int → (Nat → Nat → Int) → Option Int
  | 0, _, _, _ => none
  | k + 1, v1, v2, σ => if (σ 0 2).toNat ∈ ax_iX1 then if (σ ((σ 0 2).toNat) 2) ≤ v2 then (some v1) else ((f_X11_sharesOn v2 σ).bind fun q4 => (f_X11_sharesOn v1 σ).bind fun q7 => (f_X11_fullestCore_4 k) (if q4 ≤ q7 then v1 else v2) (z_w (v2 + 1)) σ) else none
def f_X11_fullestCore  (σ : Nat → Nat → Int) : Option Int := f_X11_fullestCore_4 100000 0 1 σ
section S_X11_fullestCore
variable {p : Program} {l : Launch} {e : Env} {s : State} {m : MethodId} {args : Array Value} {below : List Frame} {meth : Method} {c : Code} {D : va_G} {cA : Nat → ClassId} {sa : Nat → Nat} {bs : Nat} {q : Int}
set_option maxHeartbeats 4000000 in
set_option maxRecDepth 100000 in
theorem A_X11_fullestCore_4 (X : AX p s m args meth c D cA sa bs cX11_fullestCore 3 RX11) (hr : meth.sig.returnType = (some .int)) (σ : Nat → Nat → Int) : ∀ (k : Nat) (v1 : Int) (c_v1 : Z_I v1) (v2 : Int) (c_v2 : Z_I v2), f_X11_fullestCore_4 k v1 v2 σ = some q → AW p l e (ax_rm 4 0 0) s m args below meth c D cA bs 787 SH (ax_MQ below args s D cA bs 787 SH (some (z_i q)) (Z_I q) σ) 3 4 [(0, .ref (bs + 0)), (1, z_i v1), (2, z_i v2)] [] σ := by
  intro k
  induction k with
  | zero =>
    intro v1 c_v1 v2 c_v2 hf
    unfold f_X11_fullestCore_4 at hf
    cases hf
  | succ k ih =>
    intro v1 c_v1 v2 c_v2 hf
    unfold f_X11_fullestCore_4 at hf
    refine aw_iload_n X 2 dX11_fullestCore_4 rfl rfl ?_
    refine aw_aload_n X 0 dX11_fullestCore_5 rfl rfl ?_
    obtain ⟨g1, hf⟩ := z_gd hf
    refine aw_getV X s_0 fX11_24 rfl dX11_fullestCore_6 ?_
    refine aw_getI X (sX1_0 ((σ 0 2).toNat) g1) fX11_147 rfl dX11_fullestCore_9 (fun c2 => ?_)
    refine aw_icmp_ge X (tgt := 36) c_v2 c2 dX11_fullestCore_12 (by decide) (fun h3 => ?_) (fun h3 => ?_)
    · rw [if_pos h3] at hf
      refine aw_iload_n X 1 dX11_fullestCore_36 rfl rfl ?_
      obtain rfl := Option.some.inj hf
      exact aw_iret X c_v1 hr rfl dX11_fullestCore_37
    · rw [if_neg h3] at hf
      refine aw_aload_n X 0 dX11_fullestCore_15 rfl rfl ?_
      refine aw_iload_n X 2 dX11_fullestCore_16 rfl rfl ?_
      obtain ⟨q4, e5, hf⟩ := z_bd hf
      refine aw_callV X [z_i v2] [] [z_i q4] cX11_200 s_0 ciX11 (C_X11_sharesOn l D cA sa bs v2 c_v2 σ q4 e5) rfl ⟨(Nat.le_of_ble_eq_true rfl), (Nat.le_of_ble_eq_true rfl)⟩ rfl (Nat.le_of_ble_eq_true rfl) rfl dX11_fullestCore_17 (fun p6 => ?_)
      refine aw_aload_n X 0 dX11_fullestCore_20 rfl rfl ?_
      refine aw_iload_n X 1 dX11_fullestCore_21 rfl rfl ?_
      obtain ⟨q7, e8, hf⟩ := z_bd hf
      refine aw_callV X [z_i v1] [z_i q4] [z_i q7, z_i q4] cX11_200 s_0 ciX11 (C_X11_sharesOn l D cA sa bs v1 c_v1 σ q7 e8) rfl ⟨(Nat.le_of_ble_eq_true rfl), (Nat.le_of_ble_eq_true rfl)⟩ rfl (Nat.le_of_ble_eq_true rfl) rfl dX11_fullestCore_22 (fun p9 => ?_)
      refine aw_icmp_le X (tgt := 30) p6 p9 dX11_fullestCore_25 (by decide) (fun h10 => ?_) (fun h10 => ?_)
      · simp only [if_pos h10] at hf
        refine aw_iinc X 2 [(2, z_i (z_w (v2 + 1))), (0, .ref (bs + 0)), (1, z_i v1)] dX11_fullestCore_30 rfl (by decide) rfl ?_
        refine aw_goto X (tgt := 4) dX11_fullestCore_33 (by decide) ?_
        refine aw_sub [1, 2, 0] rfl ?_
        exact ih v1 c_v1 (z_w (v2 + 1)) (z_w_in _) hf
      · simp only [if_neg h10] at hf
        refine aw_iload_n X 2 dX11_fullestCore_28 rfl rfl ?_
        refine aw_istore_n X [(1, z_i v2), (0, .ref (bs + 0)), (2, z_i v2)] dX11_fullestCore_29 rfl (by decide) rfl ?_
        refine aw_iinc X 2 [(2, z_i (z_w (v2 + 1))), (1, z_i v2), (0, .ref (bs + 0))] dX11_fullestCore_30 rfl (by decide) rfl ?_
        refine aw_goto X (tgt := 4) dX11_fullestCore_33 (by decide) ?_
        refine aw_sub [2, 1, 0] rfl ?_
        exact ih v2 c_v2 (z_w (v2 + 1)) (z_w_in _) hf
end S_X11_fullestCore
set_option maxHeartbeats 4000000 in
set_option maxRecDepth 100000 in
theorem C_X11_fullestCore (l : Launch) (D : va_G) (cA : Nat → ClassId) (sa : Nat → Nat) (bs : Nat)  (σ : Nat → Nat → Int) (q : Int) (hf : f_X11_fullestCore σ = some q) : AM l D cA sa bs 787 SH yX11_fullestCore cX11_fullestCore 3 (some .int) 4 [.ref (bs + 0)] σ (some (z_i q)) (Z_I q) σ := by
  refine am_of (by decide +kernel) (Nat.le_of_ble_eq_true rfl) (fun p e s m args below meth c X hr => ?_)
  refine aw_lv (lv' := [(0, .ref (bs + 0))]) rfl ?_
  unfold f_X11_fullestCore at hf
  refine aw_iconst X dX11_fullestCore_0 ?_
  refine aw_istore_n X [(1, z_i 0), (0, .ref (bs + 0))] dX11_fullestCore_1 rfl (by decide) rfl ?_
  refine aw_iconst X dX11_fullestCore_2 ?_
  refine aw_istore_n X [(2, z_i 1), (1, z_i 0), (0, .ref (bs + 0))] dX11_fullestCore_3 rfl (by decide) rfl ?_
  refine aw_sub [2, 1, 0] rfl ?_
  exact A_X11_fullestCore_4 X hr σ 100000 0 (z_lit (x := 0) (by decide)) 1 (z_lit (x := 1) (by decide)) hf
-- SpeedDesk.sharesOfAll()I
def f_X11_sharesOfAll_4 : Nat → Int → Int → (Nat → Nat → Int) → Option Int
  | 0, _, _, _ => none
  | k + 1, v1, v2, σ => if (σ 0 2).toNat ∈ ax_iX1 then if (σ ((σ 0 2).toNat) 1) ≤ v2 then (some v1) else ((f_X11_shareOf v2 σ).bind fun q4 => (f_X11_sharesOfAll_4 k) (z_w (v1 + q4)) (z_w (v2 + 1)) σ) else none
def f_X11_sharesOfAll  (σ : Nat → Nat → Int) : Option Int := f_X11_sharesOfAll_4 100000 0 0 σ
section S_X11_sharesOfAll
variable {p : Program} {l : Launch} {e : Env} {s : State} {m : MethodId} {args : Array Value} {below : List Frame} {meth : Method} {c : Code} {D : va_G} {cA : Nat → ClassId} {sa : Nat → Nat} {bs : Nat} {q : Int}
set_option maxHeartbeats 4000000 in
set_option maxRecDepth 100000 in
theorem A_X11_sharesOfAll_4 (X : AX p s m args meth c D cA sa bs cX11_sharesOfAll 3 RX11) (hr : meth.sig.returnType = (some .int)) (σ : Nat → Nat → Int) : ∀ (k : Nat) (v1 : Int) (c_v1 : Z_I v1) (v2 : Int) (c_v2 : Z_I v2), f_X11_sharesOfAll_4 k v1 v2 σ = some q → AW p l e (ax_rm 3 0 0) s m args below meth c D cA bs 787 SH (ax_MQ below args s D cA bs 787 SH (some (z_i q)) (Z_I q) σ) 3 4 [(0, .ref (bs + 0)), (1, z_i v1), (2, z_i v2)] [] σ := by
  intro k
  induction k with
  | zero =>
    intro v1 c_v1 v2 c_v2 hf
    unfold f_X11_sharesOfAll_4 at hf
    cases hf
  | succ k ih =>
    intro v1 c_v1 v2 c_v2 hf
    unfold f_X11_sharesOfAll_4 at hf
    refine aw_iload_n X 2 dX11_sharesOfAll_4 rfl rfl ?_
    refine aw_aload_n X 0 dX11_sharesOfAll_5 rfl rfl ?_
    obtain ⟨g1, hf⟩ := z_gd hf
    refine aw_getV X s_0 fX11_24 rfl dX11_sharesOfAll_6 ?_
    refine aw_getI X (sX1_0 ((σ 0 2).toNat) g1) fX11_414 rfl dX11_sharesOfAll_9 (fun c2 => ?_)
    refine aw_icmp_ge X (tgt := 29) c_v2 c2 dX11_sharesOfAll_12 (by decide) (fun h3 => ?_) (fun h3 => ?_)
    · rw [if_pos h3] at hf
      refine aw_iload_n X 1 dX11_sharesOfAll_29 rfl rfl ?_
      obtain rfl := Option.some.inj hf
      exact aw_iret X c_v1 hr rfl dX11_sharesOfAll_30
    · rw [if_neg h3] at hf
      refine aw_iload_n X 1 dX11_sharesOfAll_15 rfl rfl ?_
      refine aw_aload_n X 0 dX11_sharesOfAll_16 rfl rfl ?_
      refine aw_iload_n X 2 dX11_sharesOfAll_17 rfl rfl ?_
      obtain ⟨q4, e5, hf⟩ := z_bd hf
      refine aw_callV X [z_i v2] [z_i v1] [z_i q4, z_i v1] cX11_227 s_0 ciX11 (C_X11_shareOf l D cA sa bs v2 c_v2 σ q4 e5) rfl ⟨(Nat.le_of_ble_eq_true rfl), (Nat.le_of_ble_eq_true rfl)⟩ rfl (Nat.le_of_ble_eq_true rfl) rfl dX11_sharesOfAll_18 (fun p6 => ?_)
      refine aw_iadd X dX11_sharesOfAll_21 ?_
      refine aw_istore_n X [(1, z_i (z_w (v1 + q4))), (0, .ref (bs + 0)), (2, z_i v2)] dX11_sharesOfAll_22 rfl (by decide) rfl ?_
      refine aw_iinc X 2 [(2, z_i (z_w (v2 + 1))), (1, z_i (z_w (v1 + q4))), (0, .ref (bs + 0))] dX11_sharesOfAll_23 rfl (by decide) rfl ?_
      refine aw_goto X (tgt := 4) dX11_sharesOfAll_26 (by decide) ?_
      refine aw_sub [2, 1, 0] rfl ?_
      exact ih (z_w (v1 + q4)) (z_w_in _) (z_w (v2 + 1)) (z_w_in _) hf
end S_X11_sharesOfAll
set_option maxHeartbeats 4000000 in
set_option maxRecDepth 100000 in
theorem C_X11_sharesOfAll (l : Launch) (D : va_G) (cA : Nat → ClassId) (sa : Nat → Nat) (bs : Nat)  (σ : Nat → Nat → Int) (q : Int) (hf : f_X11_sharesOfAll σ = some q) : AM l D cA sa bs 787 SH yX11_sharesOfAll cX11_sharesOfAll 3 (some .int) 3 [.ref (bs + 0)] σ (some (z_i q)) (Z_I q) σ := by
  refine am_of (by decide +kernel) (Nat.le_of_ble_eq_true rfl) (fun p e s m args below meth c X hr => ?_)
  refine aw_lv (lv' := [(0, .ref (bs + 0))]) rfl ?_
  unfold f_X11_sharesOfAll at hf
  refine aw_iconst X dX11_sharesOfAll_0 ?_
  refine aw_istore_n X [(1, z_i 0), (0, .ref (bs + 0))] dX11_sharesOfAll_1 rfl (by decide) rfl ?_
  refine aw_iconst X dX11_sharesOfAll_2 ?_
  refine aw_istore_n X [(2, z_i 0), (1, z_i 0), (0, .ref (bs + 0))] dX11_sharesOfAll_3 rfl (by decide) rfl ?_
  refine aw_sub [2, 1, 0] rfl ?_
  exact A_X11_sharesOfAll_4 X hr σ 100000 0 (z_lit (x := 0) (by decide)) 0 (z_lit (x := 0) (by decide)) hf
-- SpeedDesk.all(I)I
def f_X11_all (v1 : Int) (σ : Nat → Nat → Int) : Option Int := if (σ 0 2).toNat ∈ ax_iX1 then (f_X1_isTold ((σ 0 2).toNat) σ).bind fun q2 => if q2 = 0 then (some (-1000000)) else (if v1 = 0 then (some (σ 173 0)) else if v1 = 1 then (some (σ 173 1)) else if v1 = 2 then (some (σ 173 2)) else if v1 = 3 then (if (σ 0 2).toNat ∈ ax_iX1 then (f_X7_lateOfAll 173 ((σ 0 2).toNat) σ).bind fun q14 => some q14 else none) else if v1 = 4 then (some (σ 173 6)) else if v1 = 5 then (some (σ 173 5)) else if v1 = 6 then (if (σ 0 2).toNat ∈ ax_iX1 then (f_X7_tasksWithRest 173 ((σ 0 2).toNat) σ).bind fun q23 => some q23 else none) else if v1 = 7 then (if (σ 0 2).toNat ∈ ax_iX1 then (f_X7_mostLoaded 173 ((σ 0 2).toNat) σ).bind fun q28 => some q28 else none) else if v1 = 8 then ((f_X11_fullestCore σ).bind fun q32 => some q32) else if v1 = 9 then ((f_X11_sharesOfAll σ).bind fun q36 => some q36) else (some (-1000000))) else none
section S_X11_all
variable {p : Program} {l : Launch} {e : Env} {s : State} {m : MethodId} {args : Array Value} {below : List Frame} {meth : Method} {c : Code} {D : va_G} {cA : Nat → ClassId} {sa : Nat → Nat} {bs : Nat} {q : Int}

end S_X11_all
set_option maxHeartbeats 4000000 in
set_option maxRecDepth 100000 in
theorem C_X11_all (l : Launch) (D : va_G) (cA : Nat → ClassId) (sa : Nat → Nat) (bs : Nat) (v1 : Int) (c_v1 : Z_I v1) (σ : Nat → Nat → Int) (q : Int) (hf : f_X11_all v1 σ = some q) : AM l D cA sa bs 787 SH yX11_all cX11_all 2 (some .int) 5 [.ref (bs + 0), z_i v1] σ (some (z_i q)) (Z_I q) σ := by
  refine am_of (by decide +kernel) (Nat.le_of_ble_eq_true rfl) (fun p e s m args below meth c X hr => ?_)
  refine aw_lv (lv' := [(0, .ref (bs + 0)), (1, z_i v1)]) rfl ?_
  unfold f_X11_all at hf
  refine aw_aload_n X 0 dX11_all_0 rfl rfl ?_
  obtain ⟨g1, hf⟩ := z_gd hf
  refine aw_getV X s_0 fX11_24 rfl dX11_all_1 ?_
  obtain ⟨q2, e3, hf⟩ := z_bd hf
  refine aw_callV X [] [] [z_i q2] cX11_137 (sX1_0 ((σ 0 2).toNat) g1) ciX1 (C_X1_isTold l D cA sa bs ((σ 0 2).toNat) g1 σ q2 e3) rfl ⟨(Nat.le_of_ble_eq_true rfl), (Nat.le_of_ble_eq_true rfl)⟩ rfl (Nat.le_of_ble_eq_true rfl) rfl dX11_all_4 (fun p4 => ?_)
  refine aw_if_ne X (tgt := 13) (z_zI p4) dX11_all_7 (by decide) (fun h5 => ?_) (fun h5 => ?_)
  · rw [if_neg h5] at hf
    refine aw_iload_n X 1 dX11_all_13 rfl rfl ?_
    by_cases h6 : v1 = 0
    · rw [if_pos h6] at hf
      refine aw_tabIn X (tgt := 68) c_v1 dX11_all_14 (by omega) (by omega) (by rw [h6]; rfl) (by decide) ?_
      refine aw_aload_n X 0 dX11_all_68 rfl rfl ?_
      refine aw_getR X s_0 fX11_42 rfl dX11_all_69 ?_
      refine aw_getI X (sX7_0 173 (by decide)) fX11_274 rfl dX11_all_72 (fun c7 => ?_)
      obtain rfl := Option.some.inj hf
      exact aw_iret X c7 hr rfl dX11_all_75
    rw [if_neg h6] at hf
    by_cases h8 : v1 = 1
    · rw [if_pos h8] at hf
      refine aw_tabIn X (tgt := 76) c_v1 dX11_all_14 (by omega) (by omega) (by rw [h8]; rfl) (by decide) ?_
      refine aw_aload_n X 0 dX11_all_76 rfl rfl ?_
      refine aw_getR X s_0 fX11_42 rfl dX11_all_77 ?_
      refine aw_getI X (sX7_0 173 (by decide)) fX11_341 rfl dX11_all_80 (fun c9 => ?_)
      obtain rfl := Option.some.inj hf
      exact aw_iret X c9 hr rfl dX11_all_83
    rw [if_neg h8] at hf
    by_cases h10 : v1 = 2
    · rw [if_pos h10] at hf
      refine aw_tabIn X (tgt := 84) c_v1 dX11_all_14 (by omega) (by omega) (by rw [h10]; rfl) (by decide) ?_
      refine aw_aload_n X 0 dX11_all_84 rfl rfl ?_
      refine aw_getR X s_0 fX11_42 rfl dX11_all_85 ?_
      refine aw_getI X (sX7_0 173 (by decide)) fX11_335 rfl dX11_all_88 (fun c11 => ?_)
      obtain rfl := Option.some.inj hf
      exact aw_iret X c11 hr rfl dX11_all_91
    rw [if_neg h10] at hf
    by_cases h12 : v1 = 3
    · rw [if_pos h12] at hf
      refine aw_tabIn X (tgt := 92) c_v1 dX11_all_14 (by omega) (by omega) (by rw [h12]; rfl) (by decide) ?_
      refine aw_aload_n X 0 dX11_all_92 rfl rfl ?_
      refine aw_getR X s_0 fX11_42 rfl dX11_all_93 ?_
      refine aw_aload_n X 0 dX11_all_96 rfl rfl ?_
      obtain ⟨g13, hf⟩ := z_gd hf
      refine aw_getV X s_0 fX11_24 rfl dX11_all_97 ?_
      obtain ⟨q14, e15, hf⟩ := z_bd hf
      refine aw_callV X [.ref (bs + ((σ 0 2).toNat))] [] [z_i q14] cX11_338 (sX7_0 173 (by decide)) ciX7 (C_X7_lateOfAll l D cA sa bs 173 (by decide) ((σ 0 2).toNat) g13 σ q14 e15) rfl ⟨(Nat.le_of_ble_eq_true rfl), (Nat.le_of_ble_eq_true rfl)⟩ rfl (Nat.le_of_ble_eq_true rfl) rfl dX11_all_100 (fun p16 => ?_)
      obtain rfl := Option.some.inj hf
      exact aw_iret X p16 hr rfl dX11_all_103
    rw [if_neg h12] at hf
    by_cases h17 : v1 = 4
    · rw [if_pos h17] at hf
      refine aw_tabIn X (tgt := 104) c_v1 dX11_all_14 (by omega) (by omega) (by rw [h17]; rfl) (by decide) ?_
      refine aw_aload_n X 0 dX11_all_104 rfl rfl ?_
      refine aw_getR X s_0 fX11_42 rfl dX11_all_105 ?_
      refine aw_getI X (sX7_0 173 (by decide)) fX11_182 rfl dX11_all_108 (fun c18 => ?_)
      obtain rfl := Option.some.inj hf
      exact aw_iret X c18 hr rfl dX11_all_111
    rw [if_neg h17] at hf
    by_cases h19 : v1 = 5
    · rw [if_pos h19] at hf
      refine aw_tabIn X (tgt := 112) c_v1 dX11_all_14 (by omega) (by omega) (by rw [h19]; rfl) (by decide) ?_
      refine aw_aload_n X 0 dX11_all_112 rfl rfl ?_
      refine aw_getR X s_0 fX11_42 rfl dX11_all_113 ?_
      refine aw_getI X (sX7_0 173 (by decide)) fX11_224 rfl dX11_all_116 (fun c20 => ?_)
      obtain rfl := Option.some.inj hf
      exact aw_iret X c20 hr rfl dX11_all_119
    rw [if_neg h19] at hf
    by_cases h21 : v1 = 6
    · rw [if_pos h21] at hf
      refine aw_tabIn X (tgt := 120) c_v1 dX11_all_14 (by omega) (by omega) (by rw [h21]; rfl) (by decide) ?_
      refine aw_aload_n X 0 dX11_all_120 rfl rfl ?_
      refine aw_getR X s_0 fX11_42 rfl dX11_all_121 ?_
      refine aw_aload_n X 0 dX11_all_124 rfl rfl ?_
      obtain ⟨g22, hf⟩ := z_gd hf
      refine aw_getV X s_0 fX11_24 rfl dX11_all_125 ?_
      obtain ⟨q23, e24, hf⟩ := z_bd hf
      refine aw_callV X [.ref (bs + ((σ 0 2).toNat))] [] [z_i q23] cX11_389 (sX7_0 173 (by decide)) ciX7 (C_X7_tasksWithRest l D cA sa bs 173 (by decide) ((σ 0 2).toNat) g22 σ q23 e24) rfl ⟨(Nat.le_of_ble_eq_true rfl), (Nat.le_of_ble_eq_true rfl)⟩ rfl (Nat.le_of_ble_eq_true rfl) rfl dX11_all_128 (fun p25 => ?_)
      obtain rfl := Option.some.inj hf
      exact aw_iret X p25 hr rfl dX11_all_131
    rw [if_neg h21] at hf
    by_cases h26 : v1 = 7
    · rw [if_pos h26] at hf
      refine aw_tabIn X (tgt := 132) c_v1 dX11_all_14 (by omega) (by omega) (by rw [h26]; rfl) (by decide) ?_
      refine aw_aload_n X 0 dX11_all_132 rfl rfl ?_
      refine aw_getR X s_0 fX11_42 rfl dX11_all_133 ?_
      refine aw_aload_n X 0 dX11_all_136 rfl rfl ?_
      obtain ⟨g27, hf⟩ := z_gd hf
      refine aw_getV X s_0 fX11_24 rfl dX11_all_137 ?_
      obtain ⟨q28, e29, hf⟩ := z_bd hf
      refine aw_callV X [.ref (bs + ((σ 0 2).toNat))] [] [z_i q28] cX11_392 (sX7_0 173 (by decide)) ciX7 (C_X7_mostLoaded l D cA sa bs 173 (by decide) ((σ 0 2).toNat) g27 σ q28 e29) rfl ⟨(Nat.le_of_ble_eq_true rfl), (Nat.le_of_ble_eq_true rfl)⟩ rfl (Nat.le_of_ble_eq_true rfl) rfl dX11_all_140 (fun p30 => ?_)
      obtain rfl := Option.some.inj hf
      exact aw_iret X p30 hr rfl dX11_all_143
    rw [if_neg h26] at hf
    by_cases h31 : v1 = 8
    · rw [if_pos h31] at hf
      refine aw_tabIn X (tgt := 144) c_v1 dX11_all_14 (by omega) (by omega) (by rw [h31]; rfl) (by decide) ?_
      refine aw_aload_n X 0 dX11_all_144 rfl rfl ?_
      obtain ⟨q32, e33, hf⟩ := z_bd hf
      refine aw_callV X [] [] [z_i q32] cX11_395 s_0 ciX11 (C_X11_fullestCore l D cA sa bs σ q32 e33) rfl ⟨(Nat.le_of_ble_eq_true rfl), (Nat.le_of_ble_eq_true rfl)⟩ rfl (Nat.le_of_ble_eq_true rfl) rfl dX11_all_145 (fun p34 => ?_)
      obtain rfl := Option.some.inj hf
      exact aw_iret X p34 hr rfl dX11_all_148
    rw [if_neg h31] at hf
    by_cases h35 : v1 = 9
    · rw [if_pos h35] at hf
      refine aw_tabIn X (tgt := 149) c_v1 dX11_all_14 (by omega) (by omega) (by rw [h35]; rfl) (by decide) ?_
      refine aw_aload_n X 0 dX11_all_149 rfl rfl ?_
      obtain ⟨q36, e37, hf⟩ := z_bd hf
      refine aw_callV X [] [] [z_i q36] cX11_398 s_0 ciX11 (C_X11_sharesOfAll l D cA sa bs σ q36 e37) rfl ⟨(Nat.le_of_ble_eq_true rfl), (Nat.le_of_ble_eq_true rfl)⟩ rfl (Nat.le_of_ble_eq_true rfl) rfl dX11_all_150 (fun p38 => ?_)
      obtain rfl := Option.some.inj hf
      exact aw_iret X p38 hr rfl dX11_all_153
    rw [if_neg h35] at hf
    refine aw_tabOut X (tgt := 154) c_v1 dX11_all_14 (by omega) (by decide) ?_
    refine aw_ldc X (x := (-1000000)) dX11_all_154 kX11_178 (by decide) ?_
    obtain rfl := Option.some.inj hf
    exact aw_iret X (z_lit (x := (-1000000)) (by decide)) hr rfl dX11_all_156
  · rw [if_pos h5] at hf
    refine aw_ldc X (x := (-1000000)) dX11_all_10 kX11_178 (by decide) ?_
    obtain rfl := Option.some.inj hf
    exact aw_iret X (z_lit (x := (-1000000)) (by decide)) hr rfl dX11_all_12
-- SpeedDesk.image()I
def f_X11_image  (σ : Nat → Nat → Int) : Option (Int × (Nat → Nat → Int)) := if (σ 0 2).toNat ∈ ax_iX1 then (f_X1_isTold ((σ 0 2).toNat) σ).bind fun q2 => if q2 = 0 then (some ((-1), σ)) else ((f_X7_copyFrom 199 173 σ).bind fun q6 => (f_X4_copyFrom 216 212 q6).bind fun q9 => some ((u2 q9 0 9 1) 173 0, u2 q9 0 9 1)) else none
section S_X11_image
variable {p : Program} {l : Launch} {e : Env} {s : State} {m : MethodId} {args : Array Value} {below : List Frame} {meth : Method} {c : Code} {D : va_G} {cA : Nat → ClassId} {sa : Nat → Nat} {bs : Nat} {q : (Int × (Nat → Nat → Int))}

end S_X11_image
set_option maxHeartbeats 4000000 in
set_option maxRecDepth 100000 in
theorem C_X11_image (l : Launch) (D : va_G) (cA : Nat → ClassId) (sa : Nat → Nat) (bs : Nat)  (σ : Nat → Nat → Int) (q : (Int × (Nat → Nat → Int))) (hf : f_X11_image σ = some q) : AM l D cA sa bs 787 SH yX11_image cX11_image 1 (some .int) 2 [.ref (bs + 0)] σ (some (z_i q.1)) (Z_I q.1) q.2 := by
  refine am_of (by decide +kernel) (Nat.le_of_ble_eq_true rfl) (fun p e s m args below meth c X hr => ?_)
  refine aw_lv (lv' := [(0, .ref (bs + 0))]) rfl ?_
  unfold f_X11_image at hf
  refine aw_aload_n X 0 dX11_image_0 rfl rfl ?_
  obtain ⟨g1, hf⟩ := z_gd hf
  refine aw_getV X s_0 fX11_24 rfl dX11_image_1 ?_
  obtain ⟨q2, e3, hf⟩ := z_bd hf
  refine aw_callV X [] [] [z_i q2] cX11_137 (sX1_0 ((σ 0 2).toNat) g1) ciX1 (C_X1_isTold l D cA sa bs ((σ 0 2).toNat) g1 σ q2 e3) rfl ⟨(Nat.le_of_ble_eq_true rfl), (Nat.le_of_ble_eq_true rfl)⟩ rfl (Nat.le_of_ble_eq_true rfl) rfl dX11_image_4 (fun p4 => ?_)
  refine aw_if_ne X (tgt := 12) (z_zI p4) dX11_image_7 (by decide) (fun h5 => ?_) (fun h5 => ?_)
  · rw [if_neg h5] at hf
    refine aw_aload_n X 0 dX11_image_12 rfl rfl ?_
    refine aw_getR X s_0 fX11_49 rfl dX11_image_13 ?_
    refine aw_aload_n X 0 dX11_image_16 rfl rfl ?_
    refine aw_getR X s_0 fX11_42 rfl dX11_image_17 ?_
    obtain ⟨q6, e7, hf⟩ := z_bd hf
    refine aw_callV X [.ref (bs + 173)] [] [] cX11_328 (sX7_0 199 (by decide)) ciX7 (C_X7_copyFrom l D cA sa bs 199 (by decide) 173 (by decide) σ q6 e7) rfl ⟨(Nat.le_of_ble_eq_true rfl), (Nat.le_of_ble_eq_true rfl)⟩ rfl (Nat.le_of_ble_eq_true rfl) rfl dX11_image_20 (fun p8 => ?_)
    refine aw_aload_n X 0 dX11_image_23 rfl rfl ?_
    refine aw_getR X s_0 fX11_59 rfl dX11_image_24 ?_
    refine aw_aload_n X 0 dX11_image_27 rfl rfl ?_
    refine aw_getR X s_0 fX11_55 rfl dX11_image_28 ?_
    obtain ⟨q9, e10, hf⟩ := z_bd hf
    refine aw_callV X [.ref (bs + 212)] [] [] cX11_401 (sX4_0 216 (by decide)) ciX4 (C_X4_copyFrom l D cA sa bs 216 (by decide) 212 (by decide) q6 q9 e10) rfl ⟨(Nat.le_of_ble_eq_true rfl), (Nat.le_of_ble_eq_true rfl)⟩ rfl (Nat.le_of_ble_eq_true rfl) rfl dX11_image_31 (fun p11 => ?_)
    refine aw_aload_n X 0 dX11_image_34 rfl rfl ?_
    refine aw_iconst X dX11_image_35 ?_
    refine aw_putZ X s_0 pX11_404 rfl (Or.inr rfl) dX11_image_36 ?_
    refine aw_aload_n X 0 dX11_image_39 rfl rfl ?_
    refine aw_getR X s_0 fX11_42 rfl dX11_image_40 ?_
    refine aw_getI X (sX7_0 173 (by decide)) fX11_274 rfl dX11_image_43 (fun c12 => ?_)
    obtain rfl := Option.some.inj hf
    exact aw_iret X c12 hr rfl dX11_image_46
  · rw [if_pos h5] at hf
    refine aw_iconst X dX11_image_10 ?_
    obtain rfl := Option.some.inj hf
    exact aw_iret X (z_lit (x := (-1)) (by decide)) hr rfl dX11_image_11
-- SpeedDesk.back()I
def f_X11_back  (σ : Nat → Nat → Int) : Option (Int × (Nat → Nat → Int)) := if (σ 0 9) = 0 then (some ((-1), σ)) else ((f_X7_copyFrom 173 199 σ).bind fun q3 => (f_X4_copyFrom 212 216 q3).bind fun q6 => (f_X3_forget q6).bind fun q9 => some (q9 173 0, q9))
section S_X11_back
variable {p : Program} {l : Launch} {e : Env} {s : State} {m : MethodId} {args : Array Value} {below : List Frame} {meth : Method} {c : Code} {D : va_G} {cA : Nat → ClassId} {sa : Nat → Nat} {bs : Nat} {q : (Int × (Nat → Nat → Int))}

end S_X11_back
set_option maxHeartbeats 4000000 in
set_option maxRecDepth 100000 in
theorem C_X11_back (l : Launch) (D : va_G) (cA : Nat → ClassId) (sa : Nat → Nat) (bs : Nat)  (σ : Nat → Nat → Int) (q : (Int × (Nat → Nat → Int))) (hf : f_X11_back σ = some q) : AM l D cA sa bs 787 SH yX11_back cX11_back 1 (some .int) 2 [.ref (bs + 0)] σ (some (z_i q.1)) (Z_I q.1) q.2 := by
  refine am_of (by decide +kernel) (Nat.le_of_ble_eq_true rfl) (fun p e s m args below meth c X hr => ?_)
  refine aw_lv (lv' := [(0, .ref (bs + 0))]) rfl ?_
  unfold f_X11_back at hf
  refine aw_aload_n X 0 dX11_back_0 rfl rfl ?_
  refine aw_getI X s_0 fX11_404 rfl dX11_back_1 (fun c1 => ?_)
  refine aw_if_ne X (tgt := 9) c1 dX11_back_4 (by decide) (fun h2 => ?_) (fun h2 => ?_)
  · rw [if_neg h2] at hf
    refine aw_aload_n X 0 dX11_back_9 rfl rfl ?_
    refine aw_getR X s_0 fX11_42 rfl dX11_back_10 ?_
    refine aw_aload_n X 0 dX11_back_13 rfl rfl ?_
    refine aw_getR X s_0 fX11_49 rfl dX11_back_14 ?_
    obtain ⟨q3, e4, hf⟩ := z_bd hf
    refine aw_callV X [.ref (bs + 199)] [] [] cX11_328 (sX7_0 173 (by decide)) ciX7 (C_X7_copyFrom l D cA sa bs 173 (by decide) 199 (by decide) σ q3 e4) rfl ⟨(Nat.le_of_ble_eq_true rfl), (Nat.le_of_ble_eq_true rfl)⟩ rfl (Nat.le_of_ble_eq_true rfl) rfl dX11_back_17 (fun p5 => ?_)
    refine aw_aload_n X 0 dX11_back_20 rfl rfl ?_
    refine aw_getR X s_0 fX11_55 rfl dX11_back_21 ?_
    refine aw_aload_n X 0 dX11_back_24 rfl rfl ?_
    refine aw_getR X s_0 fX11_59 rfl dX11_back_25 ?_
    obtain ⟨q6, e7, hf⟩ := z_bd hf
    refine aw_callV X [.ref (bs + 216)] [] [] cX11_401 (sX4_0 212 (by decide)) ciX4 (C_X4_copyFrom l D cA sa bs 212 (by decide) 216 (by decide) q3 q6 e7) rfl ⟨(Nat.le_of_ble_eq_true rfl), (Nat.le_of_ble_eq_true rfl)⟩ rfl (Nat.le_of_ble_eq_true rfl) rfl dX11_back_28 (fun p8 => ?_)
    refine aw_aload_n X 0 dX11_back_31 rfl rfl ?_
    refine aw_getR X s_0 fX11_65 rfl dX11_back_32 ?_
    obtain ⟨q9, e10, hf⟩ := z_bd hf
    refine aw_callV X [] [] [] cX11_408 s_220 ciX3 (C_X3_forget l D cA sa bs q6 q9 e10) rfl ⟨(Nat.le_of_ble_eq_true rfl), (Nat.le_of_ble_eq_true rfl)⟩ rfl (Nat.le_of_ble_eq_true rfl) rfl dX11_back_35 (fun p11 => ?_)
    refine aw_aload_n X 0 dX11_back_38 rfl rfl ?_
    refine aw_getR X s_0 fX11_42 rfl dX11_back_39 ?_
    refine aw_getI X (sX7_0 173 (by decide)) fX11_274 rfl dX11_back_42 (fun c12 => ?_)
    obtain rfl := Option.some.inj hf
    exact aw_iret X c12 hr rfl dX11_back_45
  · rw [if_pos h2] at hf
    refine aw_iconst X dX11_back_7 ?_
    obtain rfl := Option.some.inj hf
    exact aw_iret X (z_lit (x := (-1)) (by decide)) hr rfl dX11_back_8
