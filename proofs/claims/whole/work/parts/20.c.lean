-- SpeedDesk$Tape.bytesOf(I)I
section S_X9_bytesOf
variable {p : Program} {l : Launch} {e : Env} {s : State} {m : MethodId} {args : Array Value} {below : List Frame} {meth : Method} {c : Code} {D : va_G} {cA : Nat → ClassId} {sa ad : Nat → Nat} {bs : Nat} {q : Int}
set_option maxHeartbeats 4000000 in
set_option maxRecDepth 100000 in
theorem A_X9_bytesOf_5 (X : AX p s m args meth c D cA sa bs cX9_bytesOf 3 RX9) (hr : meth.sig.returnType = (some .int)) (σ : Nat → Nat → Int) : ∀ (k : Nat) (v0 : Int) (c_v0 : Z_I v0) (v1 : Int) (c_v1 : Z_I v1) (v2 : Int) (c_v2 : Z_I v2), f_X9_bytesOf_5 k v0 v1 v2 σ = some q → AW p l e (ax_rm 0 0 0) s m args below meth c D cA ad bs 788 SHp 0 0 (ax_MQ below args s D cA ad bs 788 SHp 0 0 (some (z_i q)) (Z_I q) σ) 3 5 [(0, z_i v0), (1, z_i v1), (2, z_i v2)] [] σ := by
  intro k
  induction k with
  | zero =>
    intro v0 c_v0 v1 c_v1 v2 c_v2 hf
    unfold f_X9_bytesOf_5 at hf
    cases hf
  | succ k ih =>
    intro v0 c_v0 v1 c_v1 v2 c_v2 hf
    unfold f_X9_bytesOf_5 at hf
    refine aw_iload_n X 2 dX9_bytesOf_5 rfl rfl ?_
    refine aw_if_lt X (tgt := 28) c_v2 dX9_bytesOf_6 (by decide) (fun h1 => ?_) (fun h1 => ?_)
    · rw [if_pos h1] at hf
      refine aw_iload_n X 1 dX9_bytesOf_28 rfl rfl ?_
      obtain rfl := Option.some.inj hf
      exact aw_iret X c_v1 hr rfl dX9_bytesOf_29
    · rw [if_neg h1] at hf
      refine aw_iload_n X 0 dX9_bytesOf_9 rfl rfl ?_
      refine aw_iload_n X 2 dX9_bytesOf_10 rfl rfl ?_
      refine aw_iushr X dX9_bytesOf_11 ?_
      refine aw_sipush X dX9_bytesOf_12 (by decide) ?_
      refine aw_iand X dX9_bytesOf_15 ?_
      refine aw_if_eq X (tgt := 22) (z_and_in _ _) dX9_bytesOf_16 (by decide) (fun h2 => ?_) (fun h2 => ?_)
      · simp only [if_pos h2] at hf
        refine aw_iinc X 2 [(2, z_i (z_w (v2 + (-8)))), (0, z_i v0), (1, z_i v1)] dX9_bytesOf_22 rfl (by decide) rfl ?_
        refine aw_goto X (tgt := 5) dX9_bytesOf_25 (by decide) ?_
        refine aw_sub [1, 2, 0] rfl ?_
        exact ih v0 c_v0 v1 c_v1 (z_w (v2 + (-8))) (z_w_in _) hf
      · simp only [if_neg h2] at hf
        refine aw_iinc X 1 [(1, z_i (z_w (v1 + 1))), (0, z_i v0), (2, z_i v2)] dX9_bytesOf_19 rfl (by decide) rfl ?_
        refine aw_iinc X 2 [(2, z_i (z_w (v2 + (-8)))), (1, z_i (z_w (v1 + 1))), (0, z_i v0)] dX9_bytesOf_22 rfl (by decide) rfl ?_
        refine aw_goto X (tgt := 5) dX9_bytesOf_25 (by decide) ?_
        refine aw_sub [2, 1, 0] rfl ?_
        exact ih v0 c_v0 (z_w (v1 + 1)) (z_w_in _) (z_w (v2 + (-8))) (z_w_in _) hf
end S_X9_bytesOf
set_option maxHeartbeats 4000000 in
set_option maxRecDepth 100000 in
theorem C_X9_bytesOf (l : Launch) (D : va_G) (cA : Nat → ClassId) (sa ad : Nat → Nat) (bs : Nat) (v0 : Int) (c_v0 : Z_I v0) (σ : Nat → Nat → Int) (q : Int) (hf : f_X9_bytesOf v0 σ = some q) : AM l D cA sa ad bs 788 SHp yX9_bytesOf cX9_bytesOf 3 (some .int) 0 [z_i v0] σ (some (z_i q)) (Z_I q) σ := by
  refine am_of (by decide +kernel) (Nat.le_of_ble_eq_true rfl) (fun p e s m args below meth c X hr => ?_)
  refine aw_lv (lv' := [(0, z_i v0)]) rfl ?_
  unfold f_X9_bytesOf at hf
  refine aw_iconst X dX9_bytesOf_0 ?_
  refine aw_istore_n X [(1, z_i 0), (0, z_i v0)] dX9_bytesOf_1 rfl (by decide) rfl ?_
  refine aw_bipush X dX9_bytesOf_2 (by decide) ?_
  refine aw_istore_n X [(2, z_i 24), (1, z_i 0), (0, z_i v0)] dX9_bytesOf_4 rfl (by decide) rfl ?_
  refine aw_sub [2, 1, 0] rfl ?_
  exact A_X9_bytesOf_5 X hr σ 100000 v0 c_v0 0 (z_lit (x := 0) (by decide)) 24 (z_lit (x := 24) (by decide)) hf
-- SpeedDesk$Tape.append(I)V
section S_X9_append
variable {p : Program} {l : Launch} {e : Env} {s : State} {m : MethodId} {args : Array Value} {below : List Frame} {meth : Method} {c : Code} {D : va_G} {cA : Nat → ClassId} {sa ad : Nat → Nat} {bs : Nat} {q : (Nat → Nat → Int)}
set_option maxHeartbeats 4000000 in
set_option maxRecDepth 100000 in
theorem A_X9_append_3 (X : AX p s m args meth c D cA sa bs cX9_append 4 RX9) (hr : meth.sig.returnType = none) : ∀ (k : Nat) (v1 : Int) (c_v1 : Z_I v1) (v2 : Int) (c_v2 : Z_I v2) (σ : Nat → Nat → Int), f_X9_append_3 k v1 v2 σ = some q → AW p l e (ax_rm 0 0 0) s m args below meth c D cA ad bs 788 SHp 0 0 (ax_MQ below args s D cA ad bs 788 SHp 0 0 none True q) 4 3 [(0, .ref (ad 2)), (1, z_i v1), (2, z_i v2)] [] σ := by
  intro k
  induction k with
  | zero =>
    intro v1 c_v1 v2 c_v2 σ hf
    unfold f_X9_append_3 at hf
    cases hf
  | succ k ih =>
    intro v1 c_v1 v2 c_v2 σ hf
    unfold f_X9_append_3 at hf
    refine aw_iload_n X 2 dX9_append_3 rfl rfl ?_
    refine aw_if_lt X (tgt := 55) c_v2 dX9_append_4 (by decide) (fun h1 => ?_) (fun h1 => ?_)
    · rw [if_pos h1] at hf
      obtain rfl := Option.some.inj hf
      exact aw_vret X trivial hr rfl dX9_append_55
    · rw [if_neg h1] at hf
      refine aw_iload_n X 1 dX9_append_7 rfl rfl ?_
      refine aw_iload_n X 2 dX9_append_8 rfl rfl ?_
      refine aw_iushr X dX9_append_9 ?_
      refine aw_sipush X dX9_append_10 (by decide) ?_
      refine aw_iand X dX9_append_13 ?_
      refine aw_istore_n X [(3, z_i (z_and (z_ushr v1 v2) 255)), (0, .ref (ad 2)), (1, z_i v1), (2, z_i v2)] dX9_append_14 rfl (by decide) rfl ?_
      refine aw_iload_n X 0 dX9_append_15 rfl rfl ?_
      refine aw_if_eq X (tgt := 49) (z_and_in _ _) dX9_append_16 (by decide) (fun h2 => ?_) (fun h2 => ?_)
      · rw [if_pos h2] at hf
        refine aw_iinc X 3 [(2, z_i (z_w (v2 + (-8)))), (3, z_i (z_and (z_ushr v1 v2) 255)), (0, .ref (ad 2)), (1, z_i v1)] dX9_append_49 rfl (by decide) rfl ?_
        refine aw_goto X (tgt := 3) dX9_append_52 (by decide) ?_
        refine aw_sub [2, 3, 0] rfl ?_
        exact ih v1 c_v1 (z_w (v2 + (-8))) (z_w_in _) σ hf
      · rw [if_neg h2] at hf
        refine aw_aload_n X 1 dX9_append_19 rfl rfl ?_
        refine aw_getI X s_2 fX9_19 rfl dX9_append_20 (fun c3 => ?_)
        refine aw_sipush X dX9_append_23 (by decide) ?_
        refine aw_icmp_ge X (tgt := 49) c3 (z_lit (x := 320) (by decide)) dX9_append_26 (by decide) (fun h4 => ?_) (fun h4 => ?_)
        · rw [if_pos h4] at hf
          refine aw_iinc X 3 [(2, z_i (z_w (v2 + (-8)))), (3, z_i (z_and (z_ushr v1 v2) 255)), (0, .ref (ad 2)), (1, z_i v1)] dX9_append_49 rfl (by decide) rfl ?_
          refine aw_goto X (tgt := 3) dX9_append_52 (by decide) ?_
          refine aw_sub [2, 3, 0] rfl ?_
          exact ih v1 c_v1 (z_w (v2 + (-8))) (z_w_in _) σ hf
        · rw [if_neg h4] at hf
          refine aw_aload_n X 1 dX9_append_29 rfl rfl ?_
          refine aw_getR X s_2 fX9_9 rfl dX9_append_30 ?_
          refine aw_aload_n X 1 dX9_append_33 rfl rfl ?_
          refine aw_getI X s_2 fX9_19 rfl dX9_append_34 (fun c5 => ?_)
          refine aw_iload_n X 0 dX9_append_37 rfl rfl ?_
          obtain ⟨g6, hf⟩ := z_gd hf
          refine aw_iast X (j := (σ 2 1).toNat) s_3 c5 g6.1 g6.2 rfl (z_and_in _ _) dX9_append_38 ?_
          refine aw_aload_n X 1 dX9_append_39 rfl rfl ?_
          refine aw_dup X dX9_append_40 rfl ?_
          refine aw_getI X s_2 fX9_19 rfl dX9_append_41 (fun c7 => ?_)
          refine aw_iconst X dX9_append_44 ?_
          refine aw_iadd X dX9_append_45 ?_
          refine aw_putI X s_2 pX9_19 rfl (z_w_in _) dX9_append_46 ?_
          refine aw_iinc X 3 [(2, z_i (z_w (v2 + (-8)))), (3, z_i (z_and (z_ushr v1 v2) 255)), (0, .ref (ad 2)), (1, z_i v1)] dX9_append_49 rfl (by decide) rfl ?_
          refine aw_goto X (tgt := 3) dX9_append_52 (by decide) ?_
          refine aw_sub [2, 3, 0] rfl ?_
          exact ih v1 c_v1 (z_w (v2 + (-8))) (z_w_in _) (u2 (u2 σ 3 (σ 2 1).toNat (z_and (z_ushr v1 v2) 255)) 2 1 (z_w (((u2 σ 3 (σ 2 1).toNat (z_and (z_ushr v1 v2) 255)) 2 1) + 1))) hf
end S_X9_append
set_option maxHeartbeats 4000000 in
set_option maxRecDepth 100000 in
theorem C_X9_append (l : Launch) (D : va_G) (cA : Nat → ClassId) (sa ad : Nat → Nat) (bs : Nat) (v1 : Int) (c_v1 : Z_I v1) (σ : Nat → Nat → Int) (q : (Nat → Nat → Int)) (hf : f_X9_append v1 σ = some q) : AM l D cA sa ad bs 788 SHp yX9_append cX9_append 4 none 0 [.ref (ad 2), z_i v1] σ none True q := by
  refine am_of (by decide +kernel) (Nat.le_of_ble_eq_true rfl) (fun p e s m args below meth c X hr => ?_)
  refine aw_lv (lv' := [(0, .ref (ad 2)), (1, z_i v1)]) rfl ?_
  unfold f_X9_append at hf
  refine aw_bipush X dX9_append_0 (by decide) ?_
  refine aw_istore_n X [(2, z_i 24), (0, .ref (ad 2)), (1, z_i v1)] dX9_append_2 rfl (by decide) rfl ?_
  refine aw_sub [1, 2, 0] rfl ?_
  exact A_X9_append_3 X hr 100000 v1 c_v1 24 (z_lit (x := 24) (by decide)) σ hf
-- SpeedDesk$Tape.rewind()V
section S_X9_rewind
variable {p : Program} {l : Launch} {e : Env} {s : State} {m : MethodId} {args : Array Value} {below : List Frame} {meth : Method} {c : Code} {D : va_G} {cA : Nat → ClassId} {sa ad : Nat → Nat} {bs : Nat} {q : (Nat → Nat → Int)}

end S_X9_rewind
set_option maxHeartbeats 4000000 in
set_option maxRecDepth 100000 in
theorem C_X9_rewind (l : Launch) (D : va_G) (cA : Nat → ClassId) (sa ad : Nat → Nat) (bs : Nat)  (σ : Nat → Nat → Int) (q : (Nat → Nat → Int)) (hf : f_X9_rewind σ = some q) : AM l D cA sa ad bs 788 SHp yX9_rewind cX9_rewind 1 none 0 [.ref (ad 2)] σ none True q := by
  refine am_of (by decide +kernel) (Nat.le_of_ble_eq_true rfl) (fun p e s m args below meth c X hr => ?_)
  refine aw_lv (lv' := [(0, .ref (ad 2))]) rfl ?_
  unfold f_X9_rewind at hf
  refine aw_aload_n X 0 dX9_rewind_0 rfl rfl ?_
  refine aw_iconst X dX9_rewind_1 ?_
  refine aw_putI X s_2 pX9_22 rfl (z_lit (x := 0) (by decide)) dX9_rewind_2 ?_
  refine aw_aload_n X 0 dX9_rewind_5 rfl rfl ?_
  refine aw_iconst X dX9_rewind_6 ?_
  refine aw_putI X s_2 pX9_25 rfl (z_lit (x := 0) (by decide)) dX9_rewind_7 ?_
  refine aw_aload_n X 0 dX9_rewind_10 rfl rfl ?_
  refine aw_iconst X dX9_rewind_11 ?_
  refine aw_putI X s_2 pX9_15 rfl (z_lit (x := (-1)) (by decide)) dX9_rewind_12 ?_
  obtain rfl := Option.some.inj hf
  exact aw_vret X trivial hr rfl dX9_rewind_15
-- SpeedDesk$Tape.refuse(I)V
section S_X9_refuse
variable {p : Program} {l : Launch} {e : Env} {s : State} {m : MethodId} {args : Array Value} {below : List Frame} {meth : Method} {c : Code} {D : va_G} {cA : Nat → ClassId} {sa ad : Nat → Nat} {bs : Nat} {q : (Nat → Nat → Int)}

end S_X9_refuse
set_option maxHeartbeats 4000000 in
set_option maxRecDepth 100000 in
theorem C_X9_refuse (l : Launch) (D : va_G) (cA : Nat → ClassId) (sa ad : Nat → Nat) (bs : Nat) (v1 : Int) (c_v1 : Z_I v1) (σ : Nat → Nat → Int) (q : (Nat → Nat → Int)) (hf : f_X9_refuse v1 σ = some q) : AM l D cA sa ad bs 788 SHp yX9_refuse cX9_refuse 2 none 0 [.ref (ad 2), z_i v1] σ none True q := by
  refine am_of (by decide +kernel) (Nat.le_of_ble_eq_true rfl) (fun p e s m args below meth c X hr => ?_)
  refine aw_lv (lv' := [(0, .ref (ad 2)), (1, z_i v1)]) rfl ?_
  unfold f_X9_refuse at hf
  refine aw_aload_n X 0 dX9_refuse_0 rfl rfl ?_
  refine aw_getI X s_2 fX9_15 rfl dX9_refuse_1 (fun c1 => ?_)
  refine aw_iconst X dX9_refuse_4 ?_
  refine aw_icmp_ne X (tgt := 13) c1 (z_lit (x := (-1)) (by decide)) dX9_refuse_5 (by decide) (fun h2 => ?_) (fun h2 => ?_)
  · rw [if_neg h2] at hf
    obtain rfl := Option.some.inj hf
    exact aw_vret X trivial hr rfl dX9_refuse_13
  · rw [if_pos h2] at hf
    refine aw_aload_n X 0 dX9_refuse_8 rfl rfl ?_
    refine aw_iload_n X 1 dX9_refuse_9 rfl rfl ?_
    refine aw_putI X s_2 pX9_15 rfl c_v1 dX9_refuse_10 ?_
    obtain rfl := Option.some.inj hf
    exact aw_vret X trivial hr rfl dX9_refuse_13
-- SpeedDesk$Tape.refusePart()V
section S_X9_refusePart
variable {p : Program} {l : Launch} {e : Env} {s : State} {m : MethodId} {args : Array Value} {below : List Frame} {meth : Method} {c : Code} {D : va_G} {cA : Nat → ClassId} {sa ad : Nat → Nat} {bs : Nat} {q : (Nat → Nat → Int)}

end S_X9_refusePart
set_option maxHeartbeats 4000000 in
set_option maxRecDepth 100000 in
theorem C_X9_refusePart (l : Launch) (D : va_G) (cA : Nat → ClassId) (sa ad : Nat → Nat) (bs : Nat)  (σ : Nat → Nat → Int) (q : (Nat → Nat → Int)) (hf : f_X9_refusePart σ = some q) : AM l D cA sa ad bs 788 SHp yX9_refusePart cX9_refusePart 1 none 1 [.ref (ad 2)] σ none True q := by
  refine am_of (by decide +kernel) (Nat.le_of_ble_eq_true rfl) (fun p e s m args below meth c X hr => ?_)
  refine aw_lv (lv' := [(0, .ref (ad 2))]) rfl ?_
  unfold f_X9_refusePart at hf
  refine aw_aload_n X 0 dX9_refusePart_0 rfl rfl ?_
  refine aw_aload_n X 0 dX9_refusePart_1 rfl rfl ?_
  refine aw_getI X s_2 fX9_25 rfl dX9_refusePart_2 (fun c1 => ?_)
  obtain ⟨q2, e3, hf⟩ := z_bd hf
  refine aw_callV X [z_i (σ 2 3)] [] [] cX9_28 s_2 ciX9 (C_X9_refuse l D cA sa ad bs (σ 2 3) c1 σ q2 e3) rfl ⟨(Nat.le_of_ble_eq_true rfl), (Nat.le_of_ble_eq_true rfl), (Nat.le_of_ble_eq_true rfl), (Nat.le_of_ble_eq_true rfl)⟩ rfl (Nat.le_of_ble_eq_true rfl) rfl dX9_refusePart_5 (fun p4 => ?_)
  obtain rfl := Option.some.inj hf
  exact aw_vret X trivial hr rfl dX9_refusePart_8
-- SpeedDesk$Tape.isSound()Z
section S_X9_isSound
variable {p : Program} {l : Launch} {e : Env} {s : State} {m : MethodId} {args : Array Value} {below : List Frame} {meth : Method} {c : Code} {D : va_G} {cA : Nat → ClassId} {sa ad : Nat → Nat} {bs : Nat} {q : Int}

end S_X9_isSound
set_option maxHeartbeats 4000000 in
set_option maxRecDepth 100000 in
theorem C_X9_isSound (l : Launch) (D : va_G) (cA : Nat → ClassId) (sa ad : Nat → Nat) (bs : Nat)  (σ : Nat → Nat → Int) (q : Int) (hf : f_X9_isSound σ = some q) : AM l D cA sa ad bs 788 SHp yX9_isSound cX9_isSound 1 (some .boolean) 0 [.ref (ad 2)] σ (some (z_i q)) (q = 0 ∨ q = 1) σ := by
  refine am_of (by decide +kernel) (Nat.le_of_ble_eq_true rfl) (fun p e s m args below meth c X hr => ?_)
  refine aw_lv (lv' := [(0, .ref (ad 2))]) rfl ?_
  unfold f_X9_isSound at hf
  refine aw_aload_n X 0 dX9_isSound_0 rfl rfl ?_
  refine aw_getI X s_2 fX9_15 rfl dX9_isSound_1 (fun c1 => ?_)
  refine aw_iconst X dX9_isSound_4 ?_
  refine aw_icmp_ne X (tgt := 12) c1 (z_lit (x := (-1)) (by decide)) dX9_isSound_5 (by decide) (fun h2 => ?_) (fun h2 => ?_)
  · rw [if_neg h2] at hf
    refine aw_iconst X dX9_isSound_12 ?_
    obtain rfl := Option.some.inj hf
    exact aw_zret X (Or.inl rfl) hr (Or.inl rfl) rfl dX9_isSound_13
  · rw [if_pos h2] at hf
    refine aw_iconst X dX9_isSound_8 ?_
    refine aw_goto X (tgt := 13) dX9_isSound_9 (by decide) ?_
    obtain rfl := Option.some.inj hf
    exact aw_zret X (Or.inr rfl) hr (Or.inr rfl) rfl dX9_isSound_13
-- SpeedDesk$Tape.goToNextPart()V
section S_X9_goToNextPart
variable {p : Program} {l : Launch} {e : Env} {s : State} {m : MethodId} {args : Array Value} {below : List Frame} {meth : Method} {c : Code} {D : va_G} {cA : Nat → ClassId} {sa ad : Nat → Nat} {bs : Nat} {q : (Nat → Nat → Int)}
set_option maxHeartbeats 4000000 in
set_option maxRecDepth 100000 in
theorem A_X9_goToNextPart_0 (X : AX p s m args meth c D cA sa bs cX9_goToNextPart 1 RX9) (hr : meth.sig.returnType = none) : ∀ (k : Nat)  (σ : Nat → Nat → Int), f_X9_goToNextPart_0 k σ = some q → AW p l e (ax_rm 0 0 0) s m args below meth c D cA ad bs 788 SHp 0 0 (ax_MQ below args s D cA ad bs 788 SHp 0 0 none True q) 1 0 [(0, .ref (ad 2))] [] σ := by
  intro k
  induction k with
  | zero =>
    intro  σ hf
    unfold f_X9_goToNextPart_0 at hf
    cases hf
  | succ k ih =>
    intro  σ hf
    unfold f_X9_goToNextPart_0 at hf
    refine aw_aload_n X 0 dX9_goToNextPart_0 rfl rfl ?_
    refine aw_getI X s_2 fX9_22 rfl dX9_goToNextPart_1 (fun c1 => ?_)
    refine aw_aload_n X 0 dX9_goToNextPart_4 rfl rfl ?_
    refine aw_getI X s_2 fX9_19 rfl dX9_goToNextPart_5 (fun c2 => ?_)
    refine aw_icmp_ge X (tgt := 38) c1 c2 dX9_goToNextPart_8 (by decide) (fun h3 => ?_) (fun h3 => ?_)
    · rw [if_pos h3] at hf
      refine aw_aload_n X 0 dX9_goToNextPart_38 rfl rfl ?_
      refine aw_aload_n X 0 dX9_goToNextPart_39 rfl rfl ?_
      refine aw_getI X s_2 fX9_22 rfl dX9_goToNextPart_40 (fun c4 => ?_)
      refine aw_putI X s_2 pX9_25 rfl c4 dX9_goToNextPart_43 ?_
      obtain rfl := Option.some.inj hf
      exact aw_vret X trivial hr rfl dX9_goToNextPart_46
    · rw [if_neg h3] at hf
      refine aw_aload_n X 0 dX9_goToNextPart_11 rfl rfl ?_
      refine aw_getR X s_2 fX9_9 rfl dX9_goToNextPart_12 ?_
      refine aw_aload_n X 0 dX9_goToNextPart_15 rfl rfl ?_
      refine aw_getI X s_2 fX9_22 rfl dX9_goToNextPart_16 (fun c5 => ?_)
      obtain ⟨g6, hf⟩ := z_gd hf
      refine aw_iald X (j := (σ 2 2).toNat) s_3 c5 g6.1 g6.2 rfl dX9_goToNextPart_19 (fun c7 => ?_)
      refine aw_bipush X dX9_goToNextPart_20 (by decide) ?_
      refine aw_icmp_ne X (tgt := 38) c7 (z_lit (x := 32) (by decide)) dX9_goToNextPart_22 (by decide) (fun h8 => ?_) (fun h8 => ?_)
      · rw [if_neg h8] at hf
        refine aw_aload_n X 0 dX9_goToNextPart_38 rfl rfl ?_
        refine aw_aload_n X 0 dX9_goToNextPart_39 rfl rfl ?_
        refine aw_getI X s_2 fX9_22 rfl dX9_goToNextPart_40 (fun c9 => ?_)
        refine aw_putI X s_2 pX9_25 rfl c9 dX9_goToNextPart_43 ?_
        obtain rfl := Option.some.inj hf
        exact aw_vret X trivial hr rfl dX9_goToNextPart_46
      · rw [if_pos h8] at hf
        refine aw_aload_n X 0 dX9_goToNextPart_25 rfl rfl ?_
        refine aw_dup X dX9_goToNextPart_26 rfl ?_
        refine aw_getI X s_2 fX9_22 rfl dX9_goToNextPart_27 (fun c10 => ?_)
        refine aw_iconst X dX9_goToNextPart_30 ?_
        refine aw_iadd X dX9_goToNextPart_31 ?_
        refine aw_putI X s_2 pX9_22 rfl (z_w_in _) dX9_goToNextPart_32 ?_
        refine aw_goto X (tgt := 0) dX9_goToNextPart_35 (by decide) ?_
        exact ih (u2 σ 2 2 (z_w ((σ 2 2) + 1))) hf
end S_X9_goToNextPart
set_option maxHeartbeats 4000000 in
set_option maxRecDepth 100000 in
theorem C_X9_goToNextPart (l : Launch) (D : va_G) (cA : Nat → ClassId) (sa ad : Nat → Nat) (bs : Nat)  (σ : Nat → Nat → Int) (q : (Nat → Nat → Int)) (hf : f_X9_goToNextPart σ = some q) : AM l D cA sa ad bs 788 SHp yX9_goToNextPart cX9_goToNextPart 1 none 0 [.ref (ad 2)] σ none True q := by
  refine am_of (by decide +kernel) (Nat.le_of_ble_eq_true rfl) (fun p e s m args below meth c X hr => ?_)
  refine aw_lv (lv' := [(0, .ref (ad 2))]) rfl ?_
  unfold f_X9_goToNextPart at hf
  exact A_X9_goToNextPart_0 X hr 100000 σ hf
-- SpeedDesk$Tape.readWord()J
section S_X9_readWord
variable {p : Program} {l : Launch} {e : Env} {s : State} {m : MethodId} {args : Array Value} {below : List Frame} {meth : Method} {c : Code} {D : va_G} {cA : Nat → ClassId} {sa ad : Nat → Nat} {bs : Nat} {q : (Int × (Nat → Nat → Int))}
set_option maxHeartbeats 4000000 in
set_option maxRecDepth 100000 in
theorem A_X9_readWord_99 (X : AX p s m args meth c D cA sa bs cX9_readWord 3 RX9) (hr : meth.sig.returnType = (some .long))  (σ : Nat → Nat → Int) (hf : f_X9_readWord_99 σ = some q) : AW p l e (ax_rm 2 0 0) s m args below meth c D cA ad bs 788 SHp 0 0 (ax_MQ below args s D cA ad bs 788 SHp 0 0 (some (z_v q.1)) (Z_L q.1) q.2) 3 99 [(0, .ref (ad 2))] [] σ := by
  unfold f_X9_readWord_99 at hf
  refine aw_aload_n X 0 dX9_readWord_99 rfl rfl ?_
  obtain ⟨q25, e26, hf⟩ := z_bd hf
  refine aw_callV X [] [] [] cX9_35 s_2 ciX9 (C_X9_refusePart l D cA sa ad bs σ q25 e26) rfl ⟨(Nat.le_of_ble_eq_true rfl), (Nat.le_of_ble_eq_true rfl), (Nat.le_of_ble_eq_true rfl), (Nat.le_of_ble_eq_true rfl)⟩ rfl (Nat.le_of_ble_eq_true rfl) rfl dX9_readWord_100 (fun p27 => ?_)
  refine aw_lconst X (x := 0) dX9_readWord_103 (by decide) ?_
  obtain rfl := Option.some.inj hf
  exact aw_lret X (z_litL (x := 0) (by decide)) hr rfl dX9_readWord_104
set_option maxHeartbeats 4000000 in
set_option maxRecDepth 100000 in
theorem A_X9_readWord_74 (X : AX p s m args meth c D cA sa bs cX9_readWord 3 RX9) (hr : meth.sig.returnType = (some .long)) (v1 : Int) (c_v1 : Z_L v1) (σ : Nat → Nat → Int) (hf : f_X9_readWord_74 v1 σ = some q) : AW p l e (ax_rm 2 0 0) s m args below meth c D cA ad bs 788 SHp 0 0 (ax_MQ below args s D cA ad bs 788 SHp 0 0 (some (z_v q.1)) (Z_L q.1) q.2) 3 74 [(0, .ref (ad 2)), (1, z_v v1)] [] σ := by
  unfold f_X9_readWord_74 at hf
  refine aw_aload_n X 0 dX9_readWord_74 rfl rfl ?_
  refine aw_getI X s_2 fX9_22 rfl dX9_readWord_75 (fun c19 => ?_)
  refine aw_aload_n X 0 dX9_readWord_78 rfl rfl ?_
  refine aw_getI X s_2 fX9_25 rfl dX9_readWord_79 (fun c20 => ?_)
  refine aw_icmp_eq X (tgt := 99) c19 c20 dX9_readWord_82 (by decide) (fun h21 => ?_) (fun h21 => ?_)
  · rw [if_pos h21] at hf
    refine aw_sub [0] rfl ?_
    exact A_X9_readWord_99 X hr σ hf
  · rw [if_neg h21] at hf
    refine aw_aload_n X 0 dX9_readWord_85 rfl rfl ?_
    refine aw_getI X s_2 fX9_22 rfl dX9_readWord_86 (fun c22 => ?_)
    refine aw_aload_n X 0 dX9_readWord_89 rfl rfl ?_
    refine aw_getI X s_2 fX9_25 rfl dX9_readWord_90 (fun c23 => ?_)
    refine aw_isub X dX9_readWord_93 ?_
    refine aw_bipush X dX9_readWord_94 (by decide) ?_
    refine aw_icmp_le X (tgt := 105) (z_w_in _) (z_lit (x := 7) (by decide)) dX9_readWord_96 (by decide) (fun h24 => ?_) (fun h24 => ?_)
    · rw [if_pos h24] at hf
      refine aw_lload_n X 1 dX9_readWord_105 rfl rfl ?_
      obtain rfl := Option.some.inj hf
      exact aw_lret X c_v1 hr rfl dX9_readWord_106
    · rw [if_neg h24] at hf
      refine aw_sub [0] rfl ?_
      exact A_X9_readWord_99 X hr σ hf
set_option maxHeartbeats 4000000 in
set_option maxRecDepth 100000 in
theorem A_X9_readWord_6 (X : AX p s m args meth c D cA sa bs cX9_readWord 3 RX9) (hr : meth.sig.returnType = (some .long)) : ∀ (k : Nat) (v1 : Int) (c_v1 : Z_L v1) (σ : Nat → Nat → Int), f_X9_readWord_6 k v1 σ = some q → AW p l e (ax_rm 2 0 0) s m args below meth c D cA ad bs 788 SHp 0 0 (ax_MQ below args s D cA ad bs 788 SHp 0 0 (some (z_v q.1)) (Z_L q.1) q.2) 3 6 [(0, .ref (ad 2)), (1, z_v v1)] [] σ := by
  intro k
  induction k with
  | zero =>
    intro v1 c_v1 σ hf
    unfold f_X9_readWord_6 at hf
    cases hf
  | succ k ih =>
    intro v1 c_v1 σ hf
    unfold f_X9_readWord_6 at hf
    refine aw_aload_n X 0 dX9_readWord_6 rfl rfl ?_
    refine aw_getI X s_2 fX9_22 rfl dX9_readWord_7 (fun c4 => ?_)
    refine aw_aload_n X 0 dX9_readWord_10 rfl rfl ?_
    refine aw_getI X s_2 fX9_19 rfl dX9_readWord_11 (fun c5 => ?_)
    refine aw_icmp_ge X (tgt := 74) c4 c5 dX9_readWord_14 (by decide) (fun h6 => ?_) (fun h6 => ?_)
    · rw [if_pos h6] at hf
      exact A_X9_readWord_74 X hr v1 c_v1 σ hf
    · rw [if_neg h6] at hf
      refine aw_aload_n X 0 dX9_readWord_17 rfl rfl ?_
      refine aw_getR X s_2 fX9_9 rfl dX9_readWord_18 ?_
      refine aw_aload_n X 0 dX9_readWord_21 rfl rfl ?_
      refine aw_getI X s_2 fX9_22 rfl dX9_readWord_22 (fun c7 => ?_)
      obtain ⟨g8, hf⟩ := z_gd hf
      refine aw_iald X (j := (σ 2 2).toNat) s_3 c7 g8.1 g8.2 rfl dX9_readWord_25 (fun c9 => ?_)
      refine aw_bipush X dX9_readWord_26 (by decide) ?_
      refine aw_icmp_lt X (tgt := 74) c9 (z_lit (x := 97) (by decide)) dX9_readWord_28 (by decide) (fun h10 => ?_) (fun h10 => ?_)
      · rw [if_pos h10] at hf
        exact A_X9_readWord_74 X hr v1 c_v1 σ hf
      · rw [if_neg h10] at hf
        refine aw_aload_n X 0 dX9_readWord_31 rfl rfl ?_
        refine aw_getR X s_2 fX9_9 rfl dX9_readWord_32 ?_
        refine aw_aload_n X 0 dX9_readWord_35 rfl rfl ?_
        refine aw_getI X s_2 fX9_22 rfl dX9_readWord_36 (fun c11 => ?_)
        obtain ⟨g12, hf⟩ := z_gd hf
        refine aw_iald X (j := (σ 2 2).toNat) s_3 c11 g12.1 g12.2 rfl dX9_readWord_39 (fun c13 => ?_)
        refine aw_bipush X dX9_readWord_40 (by decide) ?_
        refine aw_icmp_gt X (tgt := 74) c13 (z_lit (x := 122) (by decide)) dX9_readWord_42 (by decide) (fun h14 => ?_) (fun h14 => ?_)
        · rw [if_pos h14] at hf
          exact A_X9_readWord_74 X hr v1 c_v1 σ hf
        · rw [if_neg h14] at hf
          refine aw_lload_n X 1 dX9_readWord_45 rfl rfl ?_
          refine aw_bipush X dX9_readWord_46 (by decide) ?_
          refine aw_lshl X dX9_readWord_48 ?_
          refine aw_aload_n X 0 dX9_readWord_49 rfl rfl ?_
          refine aw_getR X s_2 fX9_9 rfl dX9_readWord_50 ?_
          refine aw_aload_n X 0 dX9_readWord_53 rfl rfl ?_
          refine aw_getI X s_2 fX9_22 rfl dX9_readWord_54 (fun c15 => ?_)
          obtain ⟨g16, hf⟩ := z_gd hf
          refine aw_iald X (j := (σ 2 2).toNat) s_3 c15 g16.1 g16.2 rfl dX9_readWord_57 (fun c17 => ?_)
          refine aw_i2l X c17 dX9_readWord_58 ?_
          refine aw_lor X dX9_readWord_59 ?_
          refine aw_lstore_n X [(1, z_v (z_orL (z_shlL v1 8) (σ 3 (σ 2 2).toNat))), (0, .ref (ad 2))] dX9_readWord_60 rfl (by decide) rfl ?_
          refine aw_aload_n X 1 dX9_readWord_61 rfl rfl ?_
          refine aw_dup X dX9_readWord_62 rfl ?_
          refine aw_getI X s_2 fX9_22 rfl dX9_readWord_63 (fun c18 => ?_)
          refine aw_iconst X dX9_readWord_66 ?_
          refine aw_iadd X dX9_readWord_67 ?_
          refine aw_putI X s_2 pX9_22 rfl (z_w_in _) dX9_readWord_68 ?_
          refine aw_goto X (tgt := 6) dX9_readWord_71 (by decide) ?_
          refine aw_sub [1, 0] rfl ?_
          exact ih (z_orL (z_shlL v1 8) (σ 3 (σ 2 2).toNat)) (z_orL_in _ _) (u2 σ 2 2 (z_w ((σ 2 2) + 1))) hf
end S_X9_readWord
set_option maxHeartbeats 4000000 in
set_option maxRecDepth 100000 in
theorem C_X9_readWord (l : Launch) (D : va_G) (cA : Nat → ClassId) (sa ad : Nat → Nat) (bs : Nat)  (σ : Nat → Nat → Int) (q : (Int × (Nat → Nat → Int))) (hf : f_X9_readWord σ = some q) : AM l D cA sa ad bs 788 SHp yX9_readWord cX9_readWord 3 (some .long) 2 [.ref (ad 2)] σ (some (z_v q.1)) (Z_L q.1) q.2 := by
  refine am_of (by decide +kernel) (Nat.le_of_ble_eq_true rfl) (fun p e s m args below meth c X hr => ?_)
  refine aw_lv (lv' := [(0, .ref (ad 2))]) rfl ?_
  unfold f_X9_readWord at hf
  refine aw_aload_n X 0 dX9_readWord_0 rfl rfl ?_
  obtain ⟨q1, e2, hf⟩ := z_bd hf
  refine aw_callV X [] [] [] cX9_32 s_2 ciX9 (C_X9_goToNextPart l D cA sa ad bs σ q1 e2) rfl ⟨(Nat.le_of_ble_eq_true rfl), (Nat.le_of_ble_eq_true rfl), (Nat.le_of_ble_eq_true rfl), (Nat.le_of_ble_eq_true rfl)⟩ rfl (Nat.le_of_ble_eq_true rfl) rfl dX9_readWord_1 (fun p3 => ?_)
  refine aw_lconst X (x := 0) dX9_readWord_4 (by decide) ?_
  refine aw_lstore_n X [(1, z_v 0), (0, .ref (ad 2))] dX9_readWord_5 rfl (by decide) rfl ?_
  refine aw_sub [1, 0] rfl ?_
  exact A_X9_readWord_6 X hr 100000 0 (z_litL (x := 0) (by decide)) q1 hf
-- SpeedDesk$Tape.readNumber(II)I
section S_X9_readNumber
variable {p : Program} {l : Launch} {e : Env} {s : State} {m : MethodId} {args : Array Value} {below : List Frame} {meth : Method} {c : Code} {D : va_G} {cA : Nat → ClassId} {sa ad : Nat → Nat} {bs : Nat} {q : (Int × (Nat → Nat → Int))}
set_option maxHeartbeats 4000000 in
set_option maxRecDepth 100000 in
theorem A_X9_readNumber_102 (X : AX p s m args meth c D cA sa bs cX9_readNumber 4 RX9) (hr : meth.sig.returnType = (some .int)) (v3 : Int) (c_v3 : Z_I v3) (σ : Nat → Nat → Int) (hf : f_X9_readNumber_102 v3 σ = some q) : AW p l e (ax_rm 2 0 0) s m args below meth c D cA ad bs 788 SHp 0 0 (ax_MQ below args s D cA ad bs 788 SHp 0 0 (some (z_i q.1)) (Z_I q.1) q.2) 4 102 [(0, .ref (ad 2)), (3, z_i v3)] [] σ := by
  unfold f_X9_readNumber_102 at hf
  refine aw_aload_n X 0 dX9_readNumber_102 rfl rfl ?_
  obtain ⟨q24, e25, hf⟩ := z_bd hf
  refine aw_callV X [] [] [] cX9_35 s_2 ciX9 (C_X9_refusePart l D cA sa ad bs σ q24 e25) rfl ⟨(Nat.le_of_ble_eq_true rfl), (Nat.le_of_ble_eq_true rfl), (Nat.le_of_ble_eq_true rfl), (Nat.le_of_ble_eq_true rfl)⟩ rfl (Nat.le_of_ble_eq_true rfl) rfl dX9_readNumber_103 (fun p26 => ?_)
  refine aw_iload_n X 1 dX9_readNumber_106 rfl rfl ?_
  obtain rfl := Option.some.inj hf
  exact aw_iret X c_v3 hr rfl dX9_readNumber_107
set_option maxHeartbeats 4000000 in
set_option maxRecDepth 100000 in
theorem A_X9_readNumber_81 (X : AX p s m args meth c D cA sa bs cX9_readNumber 4 RX9) (hr : meth.sig.returnType = (some .int)) (v1 : Int) (c_v1 : Z_I v1) (v2 : Int) (c_v2 : Z_I v2) (v3 : Int) (c_v3 : Z_I v3) (σ : Nat → Nat → Int) (hf : f_X9_readNumber_81 v1 v2 v3 σ = some q) : AW p l e (ax_rm 2 0 0) s m args below meth c D cA ad bs 788 SHp 0 0 (ax_MQ below args s D cA ad bs 788 SHp 0 0 (some (z_i q.1)) (Z_I q.1) q.2) 4 81 [(0, .ref (ad 2)), (1, z_i v1), (2, z_i v2), (3, z_i v3)] [] σ := by
  unfold f_X9_readNumber_81 at hf
  refine aw_aload_n X 0 dX9_readNumber_81 rfl rfl ?_
  refine aw_getI X s_2 fX9_22 rfl dX9_readNumber_82 (fun c19 => ?_)
  refine aw_aload_n X 0 dX9_readNumber_85 rfl rfl ?_
  refine aw_getI X s_2 fX9_25 rfl dX9_readNumber_86 (fun c20 => ?_)
  refine aw_icmp_eq X (tgt := 102) c19 c20 dX9_readNumber_89 (by decide) (fun h21 => ?_) (fun h21 => ?_)
  · rw [if_pos h21] at hf
    refine aw_sub [0, 3] rfl ?_
    exact A_X9_readNumber_102 X hr v3 c_v3 σ hf
  · rw [if_neg h21] at hf
    refine aw_iload_n X 3 dX9_readNumber_92 rfl rfl ?_
    refine aw_iload_n X 1 dX9_readNumber_93 rfl rfl ?_
    refine aw_icmp_lt X (tgt := 102) c_v3 c_v1 dX9_readNumber_94 (by decide) (fun h22 => ?_) (fun h22 => ?_)
    · rw [if_pos h22] at hf
      refine aw_sub [0, 3] rfl ?_
      exact A_X9_readNumber_102 X hr v3 c_v3 σ hf
    · rw [if_neg h22] at hf
      refine aw_iload_n X 3 dX9_readNumber_97 rfl rfl ?_
      refine aw_iload_n X 2 dX9_readNumber_98 rfl rfl ?_
      refine aw_icmp_le X (tgt := 106) c_v3 c_v2 dX9_readNumber_99 (by decide) (fun h23 => ?_) (fun h23 => ?_)
      · rw [if_pos h23] at hf
        refine aw_iload_n X 3 dX9_readNumber_106 rfl rfl ?_
        obtain rfl := Option.some.inj hf
        exact aw_iret X c_v3 hr rfl dX9_readNumber_107
      · rw [if_neg h23] at hf
        refine aw_sub [0, 3] rfl ?_
        exact A_X9_readNumber_102 X hr v3 c_v3 σ hf
set_option maxHeartbeats 4000000 in
set_option maxRecDepth 100000 in
theorem A_X9_readNumber_6 (X : AX p s m args meth c D cA sa bs cX9_readNumber 4 RX9) (hr : meth.sig.returnType = (some .int)) : ∀ (k : Nat) (v1 : Int) (c_v1 : Z_I v1) (v2 : Int) (c_v2 : Z_I v2) (v3 : Int) (c_v3 : Z_I v3) (σ : Nat → Nat → Int), f_X9_readNumber_6 k v1 v2 v3 σ = some q → AW p l e (ax_rm 2 0 0) s m args below meth c D cA ad bs 788 SHp 0 0 (ax_MQ below args s D cA ad bs 788 SHp 0 0 (some (z_i q.1)) (Z_I q.1) q.2) 4 6 [(0, .ref (ad 2)), (1, z_i v1), (2, z_i v2), (3, z_i v3)] [] σ := by
  intro k
  induction k with
  | zero =>
    intro v1 c_v1 v2 c_v2 v3 c_v3 σ hf
    unfold f_X9_readNumber_6 at hf
    cases hf
  | succ k ih =>
    intro v1 c_v1 v2 c_v2 v3 c_v3 σ hf
    unfold f_X9_readNumber_6 at hf
    refine aw_aload_n X 0 dX9_readNumber_6 rfl rfl ?_
    refine aw_getI X s_2 fX9_22 rfl dX9_readNumber_7 (fun c4 => ?_)
    refine aw_aload_n X 0 dX9_readNumber_10 rfl rfl ?_
    refine aw_getI X s_2 fX9_19 rfl dX9_readNumber_11 (fun c5 => ?_)
    refine aw_icmp_ge X (tgt := 81) c4 c5 dX9_readNumber_14 (by decide) (fun h6 => ?_) (fun h6 => ?_)
    · rw [if_pos h6] at hf
      exact A_X9_readNumber_81 X hr v1 c_v1 v2 c_v2 v3 c_v3 σ hf
    · rw [if_neg h6] at hf
      refine aw_aload_n X 0 dX9_readNumber_17 rfl rfl ?_
      refine aw_getR X s_2 fX9_9 rfl dX9_readNumber_18 ?_
      refine aw_aload_n X 0 dX9_readNumber_21 rfl rfl ?_
      refine aw_getI X s_2 fX9_22 rfl dX9_readNumber_22 (fun c7 => ?_)
      obtain ⟨g8, hf⟩ := z_gd hf
      refine aw_iald X (j := (σ 2 2).toNat) s_3 c7 g8.1 g8.2 rfl dX9_readNumber_25 (fun c9 => ?_)
      refine aw_bipush X dX9_readNumber_26 (by decide) ?_
      refine aw_icmp_lt X (tgt := 81) c9 (z_lit (x := 48) (by decide)) dX9_readNumber_28 (by decide) (fun h10 => ?_) (fun h10 => ?_)
      · rw [if_pos h10] at hf
        exact A_X9_readNumber_81 X hr v1 c_v1 v2 c_v2 v3 c_v3 σ hf
      · rw [if_neg h10] at hf
        refine aw_aload_n X 0 dX9_readNumber_31 rfl rfl ?_
        refine aw_getR X s_2 fX9_9 rfl dX9_readNumber_32 ?_
        refine aw_aload_n X 0 dX9_readNumber_35 rfl rfl ?_
        refine aw_getI X s_2 fX9_22 rfl dX9_readNumber_36 (fun c11 => ?_)
        obtain ⟨g12, hf⟩ := z_gd hf
        refine aw_iald X (j := (σ 2 2).toNat) s_3 c11 g12.1 g12.2 rfl dX9_readNumber_39 (fun c13 => ?_)
        refine aw_bipush X dX9_readNumber_40 (by decide) ?_
        refine aw_icmp_gt X (tgt := 81) c13 (z_lit (x := 57) (by decide)) dX9_readNumber_42 (by decide) (fun h14 => ?_) (fun h14 => ?_)
        · rw [if_pos h14] at hf
          exact A_X9_readNumber_81 X hr v1 c_v1 v2 c_v2 v3 c_v3 σ hf
        · rw [if_neg h14] at hf
          refine aw_iload_n X 3 dX9_readNumber_45 rfl rfl ?_
          refine aw_bipush X dX9_readNumber_46 (by decide) ?_
          refine aw_imul X dX9_readNumber_48 ?_
          refine aw_aload_n X 0 dX9_readNumber_49 rfl rfl ?_
          refine aw_getR X s_2 fX9_9 rfl dX9_readNumber_50 ?_
          refine aw_aload_n X 0 dX9_readNumber_53 rfl rfl ?_
          refine aw_getI X s_2 fX9_22 rfl dX9_readNumber_54 (fun c15 => ?_)
          obtain ⟨g16, hf⟩ := z_gd hf
          refine aw_iald X (j := (σ 2 2).toNat) s_3 c15 g16.1 g16.2 rfl dX9_readNumber_57 (fun c17 => ?_)
          refine aw_iadd X dX9_readNumber_58 ?_
          refine aw_bipush X dX9_readNumber_59 (by decide) ?_
          refine aw_isub X dX9_readNumber_61 ?_
          refine aw_ldc X (x := 1000000) dX9_readNumber_62 kX9_38 (by decide) ?_
          refine aw_min X (z_w_in _) (z_lit (x := 1000000) (by decide)) cX9_39 ⟨(Nat.le_of_ble_eq_true rfl), (Nat.le_of_ble_eq_true rfl), (Nat.le_of_ble_eq_true rfl), (Nat.le_of_ble_eq_true rfl)⟩ dX9_readNumber_64 ?_
          refine aw_istore_n X [(3, z_i (min (z_w ((z_w ((z_w (v3 * 10)) + (σ 3 (σ 2 2).toNat))) - 48)) 1000000)), (0, .ref (ad 2)), (1, z_i v1), (2, z_i v2)] dX9_readNumber_67 rfl (by decide) rfl ?_
          refine aw_aload_n X 1 dX9_readNumber_68 rfl rfl ?_
          refine aw_dup X dX9_readNumber_69 rfl ?_
          refine aw_getI X s_2 fX9_22 rfl dX9_readNumber_70 (fun c18 => ?_)
          refine aw_iconst X dX9_readNumber_73 ?_
          refine aw_iadd X dX9_readNumber_74 ?_
          refine aw_putI X s_2 pX9_22 rfl (z_w_in _) dX9_readNumber_75 ?_
          refine aw_goto X (tgt := 6) dX9_readNumber_78 (by decide) ?_
          refine aw_sub [1, 2, 3, 0] rfl ?_
          exact ih v1 c_v1 v2 c_v2 (min (z_w ((z_w ((z_w (v3 * 10)) + (σ 3 (σ 2 2).toNat))) - 48)) 1000000) (z_min_in (z_w_in _) (z_lit (x := 1000000) (by decide))) (u2 σ 2 2 (z_w ((σ 2 2) + 1))) hf
end S_X9_readNumber
set_option maxHeartbeats 4000000 in
set_option maxRecDepth 100000 in
theorem C_X9_readNumber (l : Launch) (D : va_G) (cA : Nat → ClassId) (sa ad : Nat → Nat) (bs : Nat) (v1 : Int) (c_v1 : Z_I v1) (v2 : Int) (c_v2 : Z_I v2) (σ : Nat → Nat → Int) (q : (Int × (Nat → Nat → Int))) (hf : f_X9_readNumber v1 v2 σ = some q) : AM l D cA sa ad bs 788 SHp yX9_readNumber cX9_readNumber 4 (some .int) 2 [.ref (ad 2), z_i v1, z_i v2] σ (some (z_i q.1)) (Z_I q.1) q.2 := by
  refine am_of (by decide +kernel) (Nat.le_of_ble_eq_true rfl) (fun p e s m args below meth c X hr => ?_)
  refine aw_lv (lv' := [(0, .ref (ad 2)), (1, z_i v1), (2, z_i v2)]) rfl ?_
  unfold f_X9_readNumber at hf
  refine aw_aload_n X 0 dX9_readNumber_0 rfl rfl ?_
  obtain ⟨q1, e2, hf⟩ := z_bd hf
  refine aw_callV X [] [] [] cX9_32 s_2 ciX9 (C_X9_goToNextPart l D cA sa ad bs σ q1 e2) rfl ⟨(Nat.le_of_ble_eq_true rfl), (Nat.le_of_ble_eq_true rfl), (Nat.le_of_ble_eq_true rfl), (Nat.le_of_ble_eq_true rfl)⟩ rfl (Nat.le_of_ble_eq_true rfl) rfl dX9_readNumber_1 (fun p3 => ?_)
  refine aw_iconst X dX9_readNumber_4 ?_
  refine aw_istore_n X [(3, z_i 0), (0, .ref (ad 2)), (1, z_i v1), (2, z_i v2)] dX9_readNumber_5 rfl (by decide) rfl ?_
  refine aw_sub [1, 2, 3, 0] rfl ?_
  exact A_X9_readNumber_6 X hr 100000 v1 c_v1 v2 c_v2 0 (z_lit (x := 0) (by decide)) q1 hf
-- SpeedDesk$Tape.readSemicolon()Z
section S_X9_readSemicolon
variable {p : Program} {l : Launch} {e : Env} {s : State} {m : MethodId} {args : Array Value} {below : List Frame} {meth : Method} {c : Code} {D : va_G} {cA : Nat → ClassId} {sa ad : Nat → Nat} {bs : Nat} {q : (Int × (Nat → Nat → Int))}

end S_X9_readSemicolon
set_option maxHeartbeats 4000000 in
set_option maxRecDepth 100000 in
theorem C_X9_readSemicolon (l : Launch) (D : va_G) (cA : Nat → ClassId) (sa ad : Nat → Nat) (bs : Nat)  (σ : Nat → Nat → Int) (q : (Int × (Nat → Nat → Int))) (hf : f_X9_readSemicolon σ = some q) : AM l D cA sa ad bs 788 SHp yX9_readSemicolon cX9_readSemicolon 1 (some .boolean) 2 [.ref (ad 2)] σ (some (z_i q.1)) (q.1 = 0 ∨ q.1 = 1) q.2 := by
  refine am_of (by decide +kernel) (Nat.le_of_ble_eq_true rfl) (fun p e s m args below meth c X hr => ?_)
  refine aw_lv (lv' := [(0, .ref (ad 2))]) rfl ?_
  unfold f_X9_readSemicolon at hf
  refine aw_aload_n X 0 dX9_readSemicolon_0 rfl rfl ?_
  obtain ⟨q1, e2, hf⟩ := z_bd hf
  refine aw_callV X [] [] [] cX9_32 s_2 ciX9 (C_X9_goToNextPart l D cA sa ad bs σ q1 e2) rfl ⟨(Nat.le_of_ble_eq_true rfl), (Nat.le_of_ble_eq_true rfl), (Nat.le_of_ble_eq_true rfl), (Nat.le_of_ble_eq_true rfl)⟩ rfl (Nat.le_of_ble_eq_true rfl) rfl dX9_readSemicolon_1 (fun p3 => ?_)
  refine aw_aload_n X 0 dX9_readSemicolon_4 rfl rfl ?_
  refine aw_getI X s_2 fX9_22 rfl dX9_readSemicolon_5 (fun c4 => ?_)
  refine aw_aload_n X 0 dX9_readSemicolon_8 rfl rfl ?_
  refine aw_getI X s_2 fX9_19 rfl dX9_readSemicolon_9 (fun c5 => ?_)
  refine aw_icmp_lt X (tgt := 17) c4 c5 dX9_readSemicolon_12 (by decide) (fun h6 => ?_) (fun h6 => ?_)
  · rw [if_pos h6] at hf
    refine aw_aload_n X 0 dX9_readSemicolon_17 rfl rfl ?_
    refine aw_getR X s_2 fX9_9 rfl dX9_readSemicolon_18 ?_
    refine aw_aload_n X 0 dX9_readSemicolon_21 rfl rfl ?_
    refine aw_getI X s_2 fX9_22 rfl dX9_readSemicolon_22 (fun c7 => ?_)
    obtain ⟨g8, hf⟩ := z_gd hf
    refine aw_iald X (j := (q1 2 2).toNat) s_3 c7 g8.1 g8.2 rfl dX9_readSemicolon_25 (fun c9 => ?_)
    refine aw_bipush X dX9_readSemicolon_26 (by decide) ?_
    refine aw_icmp_eq X (tgt := 37) c9 (z_lit (x := 59) (by decide)) dX9_readSemicolon_28 (by decide) (fun h10 => ?_) (fun h10 => ?_)
    · rw [if_pos h10] at hf
      refine aw_aload_n X 0 dX9_readSemicolon_37 rfl rfl ?_
      refine aw_dup X dX9_readSemicolon_38 rfl ?_
      refine aw_getI X s_2 fX9_22 rfl dX9_readSemicolon_39 (fun c11 => ?_)
      refine aw_iconst X dX9_readSemicolon_42 ?_
      refine aw_iadd X dX9_readSemicolon_43 ?_
      refine aw_putI X s_2 pX9_22 rfl (z_w_in _) dX9_readSemicolon_44 ?_
      refine aw_iconst X dX9_readSemicolon_47 ?_
      obtain rfl := Option.some.inj hf
      exact aw_zret X (Or.inr rfl) hr (Or.inr rfl) rfl dX9_readSemicolon_48
    · rw [if_neg h10] at hf
      refine aw_aload_n X 0 dX9_readSemicolon_31 rfl rfl ?_
      obtain ⟨q12, e13, hf⟩ := z_bd hf
      refine aw_callV X [] [] [] cX9_35 s_2 ciX9 (C_X9_refusePart l D cA sa ad bs q1 q12 e13) rfl ⟨(Nat.le_of_ble_eq_true rfl), (Nat.le_of_ble_eq_true rfl), (Nat.le_of_ble_eq_true rfl), (Nat.le_of_ble_eq_true rfl)⟩ rfl (Nat.le_of_ble_eq_true rfl) rfl dX9_readSemicolon_32 (fun p14 => ?_)
      refine aw_iconst X dX9_readSemicolon_35 ?_
      obtain rfl := Option.some.inj hf
      exact aw_zret X (Or.inl rfl) hr (Or.inl rfl) rfl dX9_readSemicolon_36
  · rw [if_neg h6] at hf
    refine aw_iconst X dX9_readSemicolon_15 ?_
    obtain rfl := Option.some.inj hf
    exact aw_zret X (Or.inl rfl) hr (Or.inl rfl) rfl dX9_readSemicolon_16
-- SpeedDesk$Chip.begin()V
section S_X1_begin
variable {p : Program} {l : Launch} {e : Env} {s : State} {m : MethodId} {args : Array Value} {below : List Frame} {meth : Method} {c : Code} {D : va_G} {cA : Nat → ClassId} {sa ad : Nat → Nat} {bs : Nat} {q : (Nat → Nat → Int)}

end S_X1_begin
set_option maxHeartbeats 4000000 in
set_option maxRecDepth 100000 in
theorem C_X1_begin (l : Launch) (D : va_G) (cA : Nat → ClassId) (sa ad : Nat → Nat) (bs : Nat) (a0 : Nat) (h_a0 : a0 ∈ ax_iX1) (σ : Nat → Nat → Int) (q : (Nat → Nat → Int)) (hf : f_X1_begin a0 σ = some q) : AM l D cA sa ad bs 788 SHp yX1_begin cX1_begin 1 none 1 [.ref (ad a0)] σ none True q := by
  refine am_of (by decide +kernel) (Nat.le_of_ble_eq_true rfl) (fun p e s m args below meth c X hr => ?_)
  refine aw_lv (lv' := [(0, .ref (ad a0))]) rfl ?_
  unfold f_X1_begin at hf
  refine aw_aload_n X 0 dX1_begin_0 rfl rfl ?_
  refine aw_iconst X dX1_begin_1 ?_
  refine aw_putI X (sX1_0 a0 h_a0) pX1_51 rfl (z_lit (x := 0) (by decide)) dX1_begin_2 ?_
  refine aw_aload_n X 0 dX1_begin_5 rfl rfl ?_
  refine aw_iconst X dX1_begin_6 ?_
  refine aw_putI X (sX1_0 a0 h_a0) pX1_55 rfl (z_lit (x := 0) (by decide)) dX1_begin_7 ?_
  refine aw_aload_n X 0 dX1_begin_10 rfl rfl ?_
  refine aw_iconst X dX1_begin_11 ?_
  refine aw_putI X (sX1_0 a0 h_a0) pX1_58 rfl (z_lit (x := 0) (by decide)) dX1_begin_12 ?_
  refine aw_aload_n X 0 dX1_begin_15 rfl rfl ?_
  refine aw_iconst X dX1_begin_16 ?_
  refine aw_putI X (sX1_0 a0 h_a0) pX1_61 rfl (z_lit (x := 0) (by decide)) dX1_begin_17 ?_
  refine aw_aload_n X 0 dX1_begin_20 rfl rfl ?_
  refine aw_iconst X dX1_begin_21 ?_
  refine aw_putI X (sX1_0 a0 h_a0) pX1_64 rfl (z_lit (x := 0) (by decide)) dX1_begin_22 ?_
  refine aw_getsN X (r := 2) rfl gX1_67 dX1_begin_25 ?_
  refine aw_iconst X dX1_begin_28 ?_
  refine aw_aload_n X 0 dX1_begin_29 rfl rfl ?_
  refine aw_getR X (sX1_0 a0 h_a0) fX1_48 rfl dX1_begin_30 ?_
  refine aw_iconst X dX1_begin_33 ?_
  refine aw_bipush X dX1_begin_34 (by decide) ?_
  refine aw_cpyS X (r := 2) (rws := [25, 3, 2, 0, 9999, 8]) rfl rfl cX1_70 (sX1_18 a0 h_a0) (z_lit (x := 0) (by decide)) (z_lit (x := 0) (by decide)) (z_lit (x := 6) (by decide)) (by decide) (by decide) (by decide) (by decide) (by decide) ⟨(Nat.le_of_ble_eq_true rfl), (Nat.le_of_ble_eq_true rfl)⟩ dX1_begin_36 ?_
  obtain rfl := Option.some.inj hf
  exact aw_vret X trivial hr rfl dX1_begin_39
-- SpeedDesk$Chip.addCluster(JIII)V
section S_X1_addCluster
variable {p : Program} {l : Launch} {e : Env} {s : State} {m : MethodId} {args : Array Value} {below : List Frame} {meth : Method} {c : Code} {D : va_G} {cA : Nat → ClassId} {sa ad : Nat → Nat} {bs : Nat} {q : (Nat → Nat → Int)}
set_option maxHeartbeats 4000000 in
set_option maxRecDepth 100000 in
theorem A_X1_addCluster_75 (X : AX p s m args meth c D cA sa bs cX1_addCluster 7 RX1) (hr : meth.sig.returnType = none) : ∀ (k : Nat) (a0 : Nat) (h_a0 : a0 ∈ ax_iX1) (v3 : Int) (c_v3 : Z_I v3) (v6 : Int) (c_v6 : Z_I v6) (σ : Nat → Nat → Int), f_X1_addCluster_75 k a0 v3 v6 σ = some q → AW p l e (ax_rm 0 0 0) s m args below meth c D cA ad bs 788 SHp 0 0 (ax_MQ below args s D cA ad bs 788 SHp 0 0 none True q) 7 75 [(0, .ref (ad a0)), (3, z_i v3), (6, z_i v6)] [] σ := by
  intro k
  induction k with
  | zero =>
    intro a0 h_a0 v3 c_v3 v6 c_v6 σ hf
    unfold f_X1_addCluster_75 at hf
    cases hf
  | succ k ih =>
    intro a0 h_a0 v3 c_v3 v6 c_v6 σ hf
    unfold f_X1_addCluster_75 at hf
    refine aw_iload X 2 dX1_addCluster_75 rfl ?_
    refine aw_iload_n X 1 dX1_addCluster_77 rfl rfl ?_
    refine aw_icmp_ge X (tgt := 103) c_v6 c_v3 dX1_addCluster_78 (by decide) (fun h15 => ?_) (fun h15 => ?_)
    · rw [if_pos h15] at hf
      refine aw_aload_n X 0 dX1_addCluster_103 rfl rfl ?_
      refine aw_dup X dX1_addCluster_104 rfl ?_
      refine aw_getI X (sX1_0 a0 h_a0) fX1_58 rfl dX1_addCluster_105 (fun c16 => ?_)
      refine aw_iload_n X 1 dX1_addCluster_108 rfl rfl ?_
      refine aw_iadd X dX1_addCluster_109 ?_
      refine aw_putI X (sX1_0 a0 h_a0) pX1_58 rfl (z_w_in _) dX1_addCluster_110 ?_
      refine aw_aload_n X 0 dX1_addCluster_113 rfl rfl ?_
      refine aw_dup X dX1_addCluster_114 rfl ?_
      refine aw_getI X (sX1_0 a0 h_a0) fX1_51 rfl dX1_addCluster_115 (fun c17 => ?_)
      refine aw_iconst X dX1_addCluster_118 ?_
      refine aw_iadd X dX1_addCluster_119 ?_
      refine aw_putI X (sX1_0 a0 h_a0) pX1_51 rfl (z_w_in _) dX1_addCluster_120 ?_
      obtain rfl := Option.some.inj hf
      exact aw_vret X trivial hr rfl dX1_addCluster_123
    · rw [if_neg h15] at hf
      refine aw_aload_n X 0 dX1_addCluster_81 rfl rfl ?_
      refine aw_getR X (sX1_0 a0 h_a0) fX1_36 rfl dX1_addCluster_82 ?_
      refine aw_aload_n X 0 dX1_addCluster_85 rfl rfl ?_
      refine aw_getI X (sX1_0 a0 h_a0) fX1_58 rfl dX1_addCluster_86 (fun c18 => ?_)
      refine aw_iload X 2 dX1_addCluster_89 rfl ?_
      refine aw_iadd X dX1_addCluster_91 ?_
      refine aw_aload_n X 0 dX1_addCluster_92 rfl rfl ?_
      refine aw_getI X (sX1_0 a0 h_a0) fX1_51 rfl dX1_addCluster_93 (fun c19 => ?_)
      obtain ⟨g20, hf⟩ := z_gd hf
      refine aw_iast X (j := (z_w ((σ a0 2) + v6)).toNat) (sX1_14 a0 h_a0) (z_w_in _) g20.1 g20.2 rfl c19 dX1_addCluster_96 ?_
      refine aw_iinc X 2 [(6, z_i (z_w (v6 + 1))), (0, .ref (ad a0)), (3, z_i v3)] dX1_addCluster_97 rfl (by decide) rfl ?_
      refine aw_goto X (tgt := 75) dX1_addCluster_100 (by decide) ?_
      refine aw_sub [1, 2, 0] rfl ?_
      exact ih a0 h_a0 v3 c_v3 (z_w (v6 + 1)) (z_w_in _) (u2 σ (a0 + 14) (z_w ((σ a0 2) + v6)).toNat (σ a0 0)) hf
end S_X1_addCluster
set_option maxHeartbeats 4000000 in
set_option maxRecDepth 100000 in
theorem C_X1_addCluster (l : Launch) (D : va_G) (cA : Nat → ClassId) (sa ad : Nat → Nat) (bs : Nat) (a0 : Nat) (h_a0 : a0 ∈ ax_iX1) (v1 : Int) (c_v1 : Z_L v1) (v3 : Int) (c_v3 : Z_I v3) (v4 : Int) (c_v4 : Z_I v4) (v5 : Int) (c_v5 : Z_I v5) (σ : Nat → Nat → Int) (q : (Nat → Nat → Int)) (hf : f_X1_addCluster a0 v1 v3 v4 v5 σ = some q) : AM l D cA sa ad bs 788 SHp yX1_addCluster cX1_addCluster 7 none 0 [.ref (ad a0), z_v v1, z_i v3, z_i v4, z_i v5] σ none True q := by
  refine am_of (by decide +kernel) (Nat.le_of_ble_eq_true rfl) (fun p e s m args below meth c X hr => ?_)
  refine aw_lv (lv' := [(0, .ref (ad a0)), (1, z_v v1), (3, z_i v3), (4, z_i v4), (5, z_i v5)]) rfl ?_
  unfold f_X1_addCluster at hf
  refine aw_aload_n X 0 dX1_addCluster_0 rfl rfl ?_
  refine aw_getI X (sX1_0 a0 h_a0) fX1_51 rfl dX1_addCluster_1 (fun c1 => ?_)
  refine aw_iconst X dX1_addCluster_4 ?_
  refine aw_icmp_ge X (tgt := 19) c1 (z_lit (x := 3) (by decide)) dX1_addCluster_5 (by decide) (fun h2 => ?_) (fun h2 => ?_)
  · rw [if_pos h2] at hf
    obtain rfl := Option.some.inj hf
    exact aw_vret X trivial hr rfl dX1_addCluster_19
  · rw [if_neg h2] at hf
    refine aw_aload_n X 0 dX1_addCluster_8 rfl rfl ?_
    refine aw_getI X (sX1_0 a0 h_a0) fX1_58 rfl dX1_addCluster_9 (fun c3 => ?_)
    refine aw_iload_n X 2 dX1_addCluster_12 rfl rfl ?_
    refine aw_iadd X dX1_addCluster_13 ?_
    refine aw_bipush X dX1_addCluster_14 (by decide) ?_
    refine aw_icmp_le X (tgt := 20) (z_w_in _) (z_lit (x := 6) (by decide)) dX1_addCluster_16 (by decide) (fun h4 => ?_) (fun h4 => ?_)
    · rw [if_pos h4] at hf
      refine aw_aload_n X 0 dX1_addCluster_20 rfl rfl ?_
      refine aw_getR X (sX1_0 a0 h_a0) fX1_9 rfl dX1_addCluster_21 ?_
      refine aw_aload_n X 0 dX1_addCluster_24 rfl rfl ?_
      refine aw_getI X (sX1_0 a0 h_a0) fX1_51 rfl dX1_addCluster_25 (fun c5 => ?_)
      refine aw_lload_n X 1 dX1_addCluster_28 rfl rfl ?_
      obtain ⟨g6, hf⟩ := z_gd hf
      refine aw_last X (j := (σ a0 0).toNat) (sX1_1 a0 h_a0) c5 g6.1 g6.2 rfl c_v1 dX1_addCluster_29 ?_
      refine aw_aload_n X 0 dX1_addCluster_30 rfl rfl ?_
      refine aw_getR X (sX1_0 a0 h_a0) fX1_15 rfl dX1_addCluster_31 ?_
      refine aw_aload_n X 0 dX1_addCluster_34 rfl rfl ?_
      refine aw_getI X (sX1_0 a0 h_a0) fX1_51 rfl dX1_addCluster_35 (fun c7 => ?_)
      refine aw_iload_n X 2 dX1_addCluster_38 rfl rfl ?_
      obtain ⟨g8, hf⟩ := z_gd hf
      refine aw_iast X (j := ((u2 σ (a0 + 1) (σ a0 0).toNat v1) a0 0).toNat) (sX1_2 a0 h_a0) c7 g8.1 g8.2 rfl c_v3 dX1_addCluster_39 ?_
      refine aw_aload_n X 0 dX1_addCluster_40 rfl rfl ?_
      refine aw_getR X (sX1_0 a0 h_a0) fX1_19 rfl dX1_addCluster_41 ?_
      refine aw_aload_n X 0 dX1_addCluster_44 rfl rfl ?_
      refine aw_getI X (sX1_0 a0 h_a0) fX1_51 rfl dX1_addCluster_45 (fun c9 => ?_)
      refine aw_iload X 3 dX1_addCluster_48 rfl ?_
      obtain ⟨g10, hf⟩ := z_gd hf
      refine aw_iast X (j := ((u2 (u2 σ (a0 + 1) (σ a0 0).toNat v1) (a0 + 2) ((u2 σ (a0 + 1) (σ a0 0).toNat v1) a0 0).toNat v3) a0 0).toNat) (sX1_3 a0 h_a0) c9 g10.1 g10.2 rfl c_v4 dX1_addCluster_50 ?_
      refine aw_aload_n X 0 dX1_addCluster_51 rfl rfl ?_
      refine aw_getR X (sX1_0 a0 h_a0) fX1_22 rfl dX1_addCluster_52 ?_
      refine aw_aload_n X 0 dX1_addCluster_55 rfl rfl ?_
      refine aw_getI X (sX1_0 a0 h_a0) fX1_51 rfl dX1_addCluster_56 (fun c11 => ?_)
      refine aw_iload X 4 dX1_addCluster_59 rfl ?_
      obtain ⟨g12, hf⟩ := z_gd hf
      refine aw_iast X (j := ((u2 (u2 (u2 σ (a0 + 1) (σ a0 0).toNat v1) (a0 + 2) ((u2 σ (a0 + 1) (σ a0 0).toNat v1) a0 0).toNat v3) (a0 + 3) ((u2 (u2 σ (a0 + 1) (σ a0 0).toNat v1) (a0 + 2) ((u2 σ (a0 + 1) (σ a0 0).toNat v1) a0 0).toNat v3) a0 0).toNat v4) a0 0).toNat) (sX1_4 a0 h_a0) c11 g12.1 g12.2 rfl c_v5 dX1_addCluster_61 ?_
      refine aw_aload_n X 0 dX1_addCluster_62 rfl rfl ?_
      refine aw_getR X (sX1_0 a0 h_a0) fX1_25 rfl dX1_addCluster_63 ?_
      refine aw_aload_n X 0 dX1_addCluster_66 rfl rfl ?_
      refine aw_getI X (sX1_0 a0 h_a0) fX1_51 rfl dX1_addCluster_67 (fun c13 => ?_)
      refine aw_iconst X dX1_addCluster_70 ?_
      obtain ⟨g14, hf⟩ := z_gd hf
      refine aw_iast X (j := ((u2 (u2 (u2 (u2 σ (a0 + 1) (σ a0 0).toNat v1) (a0 + 2) ((u2 σ (a0 + 1) (σ a0 0).toNat v1) a0 0).toNat v3) (a0 + 3) ((u2 (u2 σ (a0 + 1) (σ a0 0).toNat v1) (a0 + 2) ((u2 σ (a0 + 1) (σ a0 0).toNat v1) a0 0).toNat v3) a0 0).toNat v4) (a0 + 4) ((u2 (u2 (u2 σ (a0 + 1) (σ a0 0).toNat v1) (a0 + 2) ((u2 σ (a0 + 1) (σ a0 0).toNat v1) a0 0).toNat v3) (a0 + 3) ((u2 (u2 σ (a0 + 1) (σ a0 0).toNat v1) (a0 + 2) ((u2 σ (a0 + 1) (σ a0 0).toNat v1) a0 0).toNat v3) a0 0).toNat v4) a0 0).toNat v5) a0 0).toNat) (sX1_5 a0 h_a0) c13 g14.1 g14.2 rfl (z_lit (x := 0) (by decide)) dX1_addCluster_71 ?_
      refine aw_iconst X dX1_addCluster_72 ?_
      refine aw_istore X [(6, z_i 0), (0, .ref (ad a0)), (1, z_v v1), (3, z_i v3), (4, z_i v4), (5, z_i v5)] dX1_addCluster_73 (by decide) rfl ?_
      refine aw_sub [1, 3, 0] rfl ?_
      exact A_X1_addCluster_75 X hr 100000 a0 h_a0 v3 c_v3 0 (z_lit (x := 0) (by decide)) (u2 (u2 (u2 (u2 (u2 σ (a0 + 1) (σ a0 0).toNat v1) (a0 + 2) ((u2 σ (a0 + 1) (σ a0 0).toNat v1) a0 0).toNat v3) (a0 + 3) ((u2 (u2 σ (a0 + 1) (σ a0 0).toNat v1) (a0 + 2) ((u2 σ (a0 + 1) (σ a0 0).toNat v1) a0 0).toNat v3) a0 0).toNat v4) (a0 + 4) ((u2 (u2 (u2 σ (a0 + 1) (σ a0 0).toNat v1) (a0 + 2) ((u2 σ (a0 + 1) (σ a0 0).toNat v1) a0 0).toNat v3) (a0 + 3) ((u2 (u2 σ (a0 + 1) (σ a0 0).toNat v1) (a0 + 2) ((u2 σ (a0 + 1) (σ a0 0).toNat v1) a0 0).toNat v3) a0 0).toNat v4) a0 0).toNat v5) (a0 + 5) ((u2 (u2 (u2 (u2 σ (a0 + 1) (σ a0 0).toNat v1) (a0 + 2) ((u2 σ (a0 + 1) (σ a0 0).toNat v1) a0 0).toNat v3) (a0 + 3) ((u2 (u2 σ (a0 + 1) (σ a0 0).toNat v1) (a0 + 2) ((u2 σ (a0 + 1) (σ a0 0).toNat v1) a0 0).toNat v3) a0 0).toNat v4) (a0 + 4) ((u2 (u2 (u2 σ (a0 + 1) (σ a0 0).toNat v1) (a0 + 2) ((u2 σ (a0 + 1) (σ a0 0).toNat v1) a0 0).toNat v3) (a0 + 3) ((u2 (u2 σ (a0 + 1) (σ a0 0).toNat v1) (a0 + 2) ((u2 σ (a0 + 1) (σ a0 0).toNat v1) a0 0).toNat v3) a0 0).toNat v4) a0 0).toNat v5) a0 0).toNat 0) hf
    · rw [if_neg h4] at hf
      obtain rfl := Option.some.inj hf
      exact aw_vret X trivial hr rfl dX1_addCluster_19
