-- SpeedDeskModel.thrown()I
section S_X12_thrown
variable {p : Program} {l : Launch} {e : Env} {s : State} {m : MethodId} {args : Array Value} {below : List Frame} {meth : Method} {c : Code} {D : va_G} {cA : Nat → ClassId} {sa ad : Nat → Nat} {bs : Nat} {q : Int}

end S_X12_thrown
set_option maxHeartbeats 4000000 in
set_option maxRecDepth 100000 in
theorem C_X12_thrown (l : Launch) (D : va_G) (cA : Nat → ClassId) (sa ad : Nat → Nat) (bs : Nat)  (σ : Nat → Nat → Int) (q : Int) (hf : f_X12_thrown σ = some q) : AM l D cA sa ad bs 788 SHp yX12_thrown cX12_thrown 1 (some .int) 0 [.ref (ad 758)] σ (some (z_i q)) (Z_I q) σ := by
  refine am_of (by decide +kernel) (Nat.le_of_ble_eq_true rfl) (fun p e s m args below meth c X hr => ?_)
  refine aw_lv (lv' := [(0, .ref (ad 758))]) rfl ?_
  unfold f_X12_thrown at hf
  refine aw_aload_n X 0 dX12_thrown_0 rfl rfl ?_
  refine aw_getI X s_758 fX12_101 rfl dX12_thrown_1 (fun c1 => ?_)
  obtain rfl := Option.some.inj hf
  exact aw_iret X c1 hr rfl dX12_thrown_4
-- SpeedDeskModel.isIn(JJJ)Z
section S_X12_isIn
variable {p : Program} {l : Launch} {e : Env} {s : State} {m : MethodId} {args : Array Value} {below : List Frame} {meth : Method} {c : Code} {D : va_G} {cA : Nat → ClassId} {sa ad : Nat → Nat} {bs : Nat} {q : Int}

end S_X12_isIn
set_option maxHeartbeats 4000000 in
set_option maxRecDepth 100000 in
theorem C_X12_isIn (l : Launch) (D : va_G) (cA : Nat → ClassId) (sa ad : Nat → Nat) (bs : Nat) (v0 : Int) (c_v0 : Z_L v0) (v2 : Int) (c_v2 : Z_L v2) (v4 : Int) (c_v4 : Z_L v4) (σ : Nat → Nat → Int) (q : Int) (hf : f_X12_isIn v0 v2 v4 σ = some q) : AM l D cA sa ad bs 788 SHp yX12_isIn cX12_isIn 6 (some .boolean) 0 [z_v v0, z_v v2, z_v v4] σ (some (z_i q)) (q = 0 ∨ q = 1) σ := by
  refine am_of (by decide +kernel) (Nat.le_of_ble_eq_true rfl) (fun p e s m args below meth c X hr => ?_)
  refine aw_lv (lv' := [(0, z_v v0), (2, z_v v2), (4, z_v v4)]) rfl ?_
  unfold f_X12_isIn at hf
  refine aw_lload_n X 0 dX12_isIn_0 rfl rfl ?_
  refine aw_lload_n X 1 dX12_isIn_1 rfl rfl ?_
  refine aw_lcmp X c_v0 c_v2 dX12_isIn_2 ?_
  refine aw_if_lt X (tgt := 17) (z_cmp_in _ _) dX12_isIn_3 (by decide) (fun h1 => ?_) (fun h1 => ?_)
  · rw [if_pos h1] at hf
    refine aw_iconst X dX12_isIn_17 ?_
    obtain rfl := Option.some.inj hf
    exact aw_zret X (Or.inl rfl) hr (Or.inl rfl) rfl dX12_isIn_18
  · rw [if_neg h1] at hf
    refine aw_lload_n X 0 dX12_isIn_6 rfl rfl ?_
    refine aw_lload X 2 dX12_isIn_7 rfl ?_
    refine aw_lcmp X c_v0 c_v4 dX12_isIn_9 ?_
    refine aw_if_gt X (tgt := 17) (z_cmp_in _ _) dX12_isIn_10 (by decide) (fun h2 => ?_) (fun h2 => ?_)
    · rw [if_pos h2] at hf
      refine aw_iconst X dX12_isIn_17 ?_
      obtain rfl := Option.some.inj hf
      exact aw_zret X (Or.inl rfl) hr (Or.inl rfl) rfl dX12_isIn_18
    · rw [if_neg h2] at hf
      refine aw_iconst X dX12_isIn_13 ?_
      refine aw_goto X (tgt := 18) dX12_isIn_14 (by decide) ?_
      obtain rfl := Option.some.inj hf
      exact aw_zret X (Or.inr rfl) hr (Or.inr rfl) rfl dX12_isIn_18
-- SpeedDeskModel.has(II)Z
section S_X12_has
variable {p : Program} {l : Launch} {e : Env} {s : State} {m : MethodId} {args : Array Value} {below : List Frame} {meth : Method} {c : Code} {D : va_G} {cA : Nat → ClassId} {sa ad : Nat → Nat} {bs : Nat} {q : Int}

end S_X12_has
set_option maxHeartbeats 4000000 in
set_option maxRecDepth 100000 in
theorem C_X12_has (l : Launch) (D : va_G) (cA : Nat → ClassId) (sa ad : Nat → Nat) (bs : Nat) (v0 : Int) (c_v0 : Z_I v0) (v1 : Int) (c_v1 : Z_I v1) (σ : Nat → Nat → Int) (q : Int) (hf : f_X12_has v0 v1 σ = some q) : AM l D cA sa ad bs 788 SHp yX12_has cX12_has 2 (some .boolean) 0 [z_i v0, z_i v1] σ (some (z_i q)) (q = 0 ∨ q = 1) σ := by
  refine am_of (by decide +kernel) (Nat.le_of_ble_eq_true rfl) (fun p e s m args below meth c X hr => ?_)
  refine aw_lv (lv' := [(0, z_i v0), (1, z_i v1)]) rfl ?_
  unfold f_X12_has at hf
  refine aw_iload_n X 0 dX12_has_0 rfl rfl ?_
  refine aw_iload_n X 1 dX12_has_1 rfl rfl ?_
  refine aw_ishr X dX12_has_2 ?_
  refine aw_iconst X dX12_has_3 ?_
  refine aw_iand X dX12_has_4 ?_
  refine aw_iconst X dX12_has_5 ?_
  refine aw_icmp_ne X (tgt := 13) (z_and_in _ _) (z_lit (x := 1) (by decide)) dX12_has_6 (by decide) (fun h1 => ?_) (fun h1 => ?_)
  · rw [if_neg h1] at hf
    refine aw_iconst X dX12_has_13 ?_
    obtain rfl := Option.some.inj hf
    exact aw_zret X (Or.inl rfl) hr (Or.inl rfl) rfl dX12_has_14
  · rw [if_pos h1] at hf
    refine aw_iconst X dX12_has_9 ?_
    refine aw_goto X (tgt := 14) dX12_has_10 (by decide) ?_
    obtain rfl := Option.some.inj hf
    exact aw_zret X (Or.inr rfl) hr (Or.inr rfl) rfl dX12_has_14
-- SpeedDeskModel.bytesOf(I)I
section S_X12_bytesOf
variable {p : Program} {l : Launch} {e : Env} {s : State} {m : MethodId} {args : Array Value} {below : List Frame} {meth : Method} {c : Code} {D : va_G} {cA : Nat → ClassId} {sa ad : Nat → Nat} {bs : Nat} {q : Int}
set_option maxHeartbeats 4000000 in
set_option maxRecDepth 100000 in
theorem A_X12_bytesOf_4 (X : AX p s m args meth c D cA sa bs cX12_bytesOf 3 RX12) (hr : meth.sig.returnType = (some .int)) (σ : Nat → Nat → Int) : ∀ (k : Nat) (v0 : Int) (c_v0 : Z_I v0) (v1 : Int) (c_v1 : Z_I v1) (v2 : Int) (c_v2 : Z_I v2), f_X12_bytesOf_4 k v0 v1 v2 σ = some q → AW p l e (ax_rm 0 0 0) s m args below meth c D cA ad bs 788 SHp 0 0 (ax_MQ below args s D cA ad bs 788 SHp 0 0 (some (z_i q)) (Z_I q) σ) 3 4 [(0, z_i v0), (1, z_i v1), (2, z_i v2)] [] σ := by
  intro k
  induction k with
  | zero =>
    intro v0 c_v0 v1 c_v1 v2 c_v2 hf
    unfold f_X12_bytesOf_4 at hf
    cases hf
  | succ k ih =>
    intro v0 c_v0 v1 c_v1 v2 c_v2 hf
    unfold f_X12_bytesOf_4 at hf
    refine aw_iload_n X 2 dX12_bytesOf_4 rfl rfl ?_
    refine aw_iconst X dX12_bytesOf_5 ?_
    refine aw_icmp_ge X (tgt := 36) c_v2 (z_lit (x := 4) (by decide)) dX12_bytesOf_6 (by decide) (fun h1 => ?_) (fun h1 => ?_)
    · rw [if_pos h1] at hf
      refine aw_iload_n X 1 dX12_bytesOf_36 rfl rfl ?_
      obtain rfl := Option.some.inj hf
      exact aw_iret X c_v1 hr rfl dX12_bytesOf_37
    · rw [if_neg h1] at hf
      refine aw_iload_n X 1 dX12_bytesOf_9 rfl rfl ?_
      refine aw_iload_n X 0 dX12_bytesOf_10 rfl rfl ?_
      refine aw_bipush X dX12_bytesOf_11 (by decide) ?_
      refine aw_iload_n X 2 dX12_bytesOf_13 rfl rfl ?_
      refine aw_imul X dX12_bytesOf_14 ?_
      refine aw_ishr X dX12_bytesOf_15 ?_
      refine aw_sipush X dX12_bytesOf_16 (by decide) ?_
      refine aw_iand X dX12_bytesOf_19 ?_
      refine aw_if_ne X (tgt := 27) (z_and_in _ _) dX12_bytesOf_20 (by decide) (fun h2 => ?_) (fun h2 => ?_)
      · simp only [if_neg h2] at hf
        refine aw_iconst X dX12_bytesOf_27 ?_
        refine aw_iadd X dX12_bytesOf_28 ?_
        refine aw_istore_n X [(1, z_i (z_w (v1 + 1))), (0, z_i v0), (2, z_i v2)] dX12_bytesOf_29 rfl (by decide) rfl ?_
        refine aw_iinc X 2 [(2, z_i (z_w (v2 + 1))), (1, z_i (z_w (v1 + 1))), (0, z_i v0)] dX12_bytesOf_30 rfl (by decide) rfl ?_
        refine aw_goto X (tgt := 4) dX12_bytesOf_33 (by decide) ?_
        refine aw_sub [2, 1, 0] rfl ?_
        exact ih v0 c_v0 (z_w (v1 + 1)) (z_w_in _) (z_w (v2 + 1)) (z_w_in _) hf
      · simp only [if_pos h2] at hf
        refine aw_iconst X dX12_bytesOf_23 ?_
        refine aw_goto X (tgt := 28) dX12_bytesOf_24 (by decide) ?_
        refine aw_iadd X dX12_bytesOf_28 ?_
        refine aw_istore_n X [(1, z_i (z_w (v1 + 0))), (0, z_i v0), (2, z_i v2)] dX12_bytesOf_29 rfl (by decide) rfl ?_
        refine aw_iinc X 2 [(2, z_i (z_w (v2 + 1))), (1, z_i (z_w (v1 + 0))), (0, z_i v0)] dX12_bytesOf_30 rfl (by decide) rfl ?_
        refine aw_goto X (tgt := 4) dX12_bytesOf_33 (by decide) ?_
        refine aw_sub [2, 1, 0] rfl ?_
        exact ih v0 c_v0 (z_w (v1 + 0)) (z_w_in _) (z_w (v2 + 1)) (z_w_in _) hf
end S_X12_bytesOf
set_option maxHeartbeats 4000000 in
set_option maxRecDepth 100000 in
theorem C_X12_bytesOf (l : Launch) (D : va_G) (cA : Nat → ClassId) (sa ad : Nat → Nat) (bs : Nat) (v0 : Int) (c_v0 : Z_I v0) (σ : Nat → Nat → Int) (q : Int) (hf : f_X12_bytesOf v0 σ = some q) : AM l D cA sa ad bs 788 SHp yX12_bytesOf cX12_bytesOf 3 (some .int) 0 [z_i v0] σ (some (z_i q)) (Z_I q) σ := by
  refine am_of (by decide +kernel) (Nat.le_of_ble_eq_true rfl) (fun p e s m args below meth c X hr => ?_)
  refine aw_lv (lv' := [(0, z_i v0)]) rfl ?_
  unfold f_X12_bytesOf at hf
  refine aw_iconst X dX12_bytesOf_0 ?_
  refine aw_istore_n X [(1, z_i 0), (0, z_i v0)] dX12_bytesOf_1 rfl (by decide) rfl ?_
  refine aw_iconst X dX12_bytesOf_2 ?_
  refine aw_istore_n X [(2, z_i 0), (1, z_i 0), (0, z_i v0)] dX12_bytesOf_3 rfl (by decide) rfl ?_
  refine aw_sub [2, 1, 0] rfl ?_
  exact A_X12_bytesOf_4 X hr σ 100000 v0 c_v0 0 (z_lit (x := 0) (by decide)) 0 (z_lit (x := 0) (by decide)) hf
-- SpeedDeskModel.brings(I)V
section S_X12_brings
variable {p : Program} {l : Launch} {e : Env} {s : State} {m : MethodId} {args : Array Value} {below : List Frame} {meth : Method} {c : Code} {D : va_G} {cA : Nat → ClassId} {sa ad : Nat → Nat} {bs : Nat} {q : (Nat → Nat → Int)}
set_option maxHeartbeats 4000000 in
set_option maxRecDepth 100000 in
theorem A_X12_brings_3 (X : AX p s m args meth c D cA sa bs cX12_brings 4 RX12) (hr : meth.sig.returnType = none) : ∀ (k : Nat) (v1 : Int) (c_v1 : Z_I v1) (v2 : Int) (c_v2 : Z_I v2) (σ : Nat → Nat → Int), f_X12_brings_3 k v1 v2 σ = some q → AW p l e (ax_rm 0 0 0) s m args below meth c D cA ad bs 788 SHp 0 0 (ax_MQ below args s D cA ad bs 788 SHp 0 0 none True q) 4 3 [(0, .ref (ad 758)), (1, z_i v1), (2, z_i v2)] [] σ := by
  intro k
  induction k with
  | zero =>
    intro v1 c_v1 v2 c_v2 σ hf
    unfold f_X12_brings_3 at hf
    cases hf
  | succ k ih =>
    intro v1 c_v1 v2 c_v2 σ hf
    unfold f_X12_brings_3 at hf
    refine aw_iload_n X 2 dX12_brings_3 rfl rfl ?_
    refine aw_if_lt X (tgt := 49) c_v2 dX12_brings_4 (by decide) (fun h1 => ?_) (fun h1 => ?_)
    · rw [if_pos h1] at hf
      obtain rfl := Option.some.inj hf
      exact aw_vret X trivial hr rfl dX12_brings_49
    · rw [if_neg h1] at hf
      refine aw_iload_n X 1 dX12_brings_7 rfl rfl ?_
      refine aw_iload_n X 2 dX12_brings_8 rfl rfl ?_
      refine aw_ishr X dX12_brings_9 ?_
      refine aw_sipush X dX12_brings_10 (by decide) ?_
      refine aw_iand X dX12_brings_13 ?_
      refine aw_istore_n X [(3, z_i (z_and (z_shr v1 v2) 255)), (0, .ref (ad 758)), (1, z_i v1), (2, z_i v2)] dX12_brings_14 rfl (by decide) rfl ?_
      refine aw_iload_n X 0 dX12_brings_15 rfl rfl ?_
      refine aw_if_ne X (tgt := 22) (z_and_in _ _) dX12_brings_16 (by decide) (fun h2 => ?_) (fun h2 => ?_)
      · rw [if_neg h2] at hf
        refine aw_aload_n X 1 dX12_brings_22 rfl rfl ?_
        refine aw_getR X s_758 fX12_9 rfl dX12_brings_23 ?_
        refine aw_aload_n X 1 dX12_brings_26 rfl rfl ?_
        refine aw_getI X s_758 fX12_104 rfl dX12_brings_27 (fun c3 => ?_)
        refine aw_iload_n X 0 dX12_brings_30 rfl rfl ?_
        refine aw_i2b X dX12_brings_31 ?_
        obtain ⟨g4, hf⟩ := z_gd hf
        refine aw_bast X (j := (σ 758 2).toNat) s_759 c3 g4.1 g4.2 rfl (z_byte_b _) dX12_brings_32 ?_
        refine aw_aload_n X 1 dX12_brings_33 rfl rfl ?_
        refine aw_dup X dX12_brings_34 rfl ?_
        refine aw_getI X s_758 fX12_104 rfl dX12_brings_35 (fun c5 => ?_)
        refine aw_iconst X dX12_brings_38 ?_
        refine aw_iadd X dX12_brings_39 ?_
        refine aw_putI X s_758 pX12_104 rfl (z_w_in _) dX12_brings_40 ?_
        refine aw_iinc X 3 [(2, z_i (z_w (v2 + (-8)))), (3, z_i (z_and (z_shr v1 v2) 255)), (0, .ref (ad 758)), (1, z_i v1)] dX12_brings_43 rfl (by decide) rfl ?_
        refine aw_goto X (tgt := 3) dX12_brings_46 (by decide) ?_
        refine aw_sub [2, 3, 0] rfl ?_
        exact ih v1 c_v1 (z_w (v2 + (-8))) (z_w_in _) (u2 (u2 σ 759 (σ 758 2).toNat (z_byte (z_and (z_shr v1 v2) 255))) 758 2 (z_w (((u2 σ 759 (σ 758 2).toNat (z_byte (z_and (z_shr v1 v2) 255))) 758 2) + 1))) hf
      · rw [if_pos h2] at hf
        refine aw_goto X (tgt := 43) dX12_brings_19 (by decide) ?_
        refine aw_iinc X 3 [(2, z_i (z_w (v2 + (-8)))), (3, z_i (z_and (z_shr v1 v2) 255)), (0, .ref (ad 758)), (1, z_i v1)] dX12_brings_43 rfl (by decide) rfl ?_
        refine aw_goto X (tgt := 3) dX12_brings_46 (by decide) ?_
        refine aw_sub [2, 3, 0] rfl ?_
        exact ih v1 c_v1 (z_w (v2 + (-8))) (z_w_in _) σ hf
end S_X12_brings
set_option maxHeartbeats 4000000 in
set_option maxRecDepth 100000 in
theorem C_X12_brings (l : Launch) (D : va_G) (cA : Nat → ClassId) (sa ad : Nat → Nat) (bs : Nat) (v1 : Int) (c_v1 : Z_I v1) (σ : Nat → Nat → Int) (q : (Nat → Nat → Int)) (hf : f_X12_brings v1 σ = some q) : AM l D cA sa ad bs 788 SHp yX12_brings cX12_brings 4 none 0 [.ref (ad 758), z_i v1] σ none True q := by
  refine am_of (by decide +kernel) (Nat.le_of_ble_eq_true rfl) (fun p e s m args below meth c X hr => ?_)
  refine aw_lv (lv' := [(0, .ref (ad 758)), (1, z_i v1)]) rfl ?_
  unfold f_X12_brings at hf
  refine aw_bipush X dX12_brings_0 (by decide) ?_
  refine aw_istore_n X [(2, z_i 24), (0, .ref (ad 758)), (1, z_i v1)] dX12_brings_2 rfl (by decide) rfl ?_
  refine aw_sub [1, 2, 0] rfl ?_
  exact A_X12_brings_3 X hr 100000 v1 c_v1 24 (z_lit (x := 24) (by decide)) σ hf
-- SpeedDeskModel.feed(IIIII)I
section S_X12_feed
variable {p : Program} {l : Launch} {e : Env} {s : State} {m : MethodId} {args : Array Value} {below : List Frame} {meth : Method} {c : Code} {D : va_G} {cA : Nat → ClassId} {sa ad : Nat → Nat} {bs : Nat} {q : (Int × (Nat → Nat → Int))}

end S_X12_feed
set_option maxHeartbeats 4000000 in
set_option maxRecDepth 100000 in
theorem C_X12_feed (l : Launch) (D : va_G) (cA : Nat → ClassId) (sa ad : Nat → Nat) (bs : Nat) (v1 : Int) (c_v1 : Z_I v1) (v2 : Int) (c_v2 : Z_I v2) (v3 : Int) (c_v3 : Z_I v3) (v4 : Int) (c_v4 : Z_I v4) (v5 : Int) (c_v5 : Z_I v5) (σ : Nat → Nat → Int) (q : (Int × (Nat → Nat → Int))) (hf : f_X12_feed v1 v2 v3 v4 v5 σ = some q) : AM l D cA sa ad bs 788 SHp yX12_feed cX12_feed 6 (some .int) 1 [.ref (ad 758), z_i v1, z_i v2, z_i v3, z_i v4, z_i v5] σ (some (z_i q.1)) (Z_I q.1) q.2 := by
  refine am_of (by decide +kernel) (Nat.le_of_ble_eq_true rfl) (fun p e s m args below meth c X hr => ?_)
  refine aw_lv (lv' := [(0, .ref (ad 758)), (1, z_i v1), (2, z_i v2), (3, z_i v3), (4, z_i v4), (5, z_i v5)]) rfl ?_
  unfold f_X12_feed at hf
  refine aw_aload_n X 0 dX12_feed_0 rfl rfl ?_
  refine aw_iconst X dX12_feed_1 ?_
  refine aw_putI X s_758 pX12_101 rfl (z_lit (x := 0) (by decide)) dX12_feed_2 ?_
  refine aw_aload_n X 0 dX12_feed_5 rfl rfl ?_
  refine aw_getI X s_758 fX12_104 rfl dX12_feed_6 (fun c1 => ?_)
  refine aw_iload_n X 1 dX12_feed_9 rfl rfl ?_
  obtain ⟨q2, e3, hf⟩ := z_bd hf
  refine aw_callS X [z_i v1] [z_i ((u2 σ 758 0 0) 758 2)] [z_i q2, z_i ((u2 σ 758 0 0) 758 2)] cX12_107 (C_X12_bytesOf l D cA sa ad bs v1 c_v1 (u2 σ 758 0 0) q2 e3) rfl ⟨(Nat.le_of_ble_eq_true rfl), (Nat.le_of_ble_eq_true rfl), (Nat.le_of_ble_eq_true rfl), (Nat.le_of_ble_eq_true rfl)⟩ rfl (Nat.le_of_ble_eq_true rfl) rfl dX12_feed_10 (fun p4 => ?_)
  refine aw_iadd X dX12_feed_13 ?_
  refine aw_iload_n X 2 dX12_feed_14 rfl rfl ?_
  obtain ⟨q5, e6, hf⟩ := z_bd hf
  refine aw_callS X [z_i v2] [z_i (z_w (((u2 σ 758 0 0) 758 2) + q2))] [z_i q5, z_i (z_w (((u2 σ 758 0 0) 758 2) + q2))] cX12_107 (C_X12_bytesOf l D cA sa ad bs v2 c_v2 (u2 σ 758 0 0) q5 e6) rfl ⟨(Nat.le_of_ble_eq_true rfl), (Nat.le_of_ble_eq_true rfl), (Nat.le_of_ble_eq_true rfl), (Nat.le_of_ble_eq_true rfl)⟩ rfl (Nat.le_of_ble_eq_true rfl) rfl dX12_feed_15 (fun p7 => ?_)
  refine aw_iadd X dX12_feed_18 ?_
  refine aw_iload_n X 3 dX12_feed_19 rfl rfl ?_
  obtain ⟨q8, e9, hf⟩ := z_bd hf
  refine aw_callS X [z_i v3] [z_i (z_w ((z_w (((u2 σ 758 0 0) 758 2) + q2)) + q5))] [z_i q8, z_i (z_w ((z_w (((u2 σ 758 0 0) 758 2) + q2)) + q5))] cX12_107 (C_X12_bytesOf l D cA sa ad bs v3 c_v3 (u2 σ 758 0 0) q8 e9) rfl ⟨(Nat.le_of_ble_eq_true rfl), (Nat.le_of_ble_eq_true rfl), (Nat.le_of_ble_eq_true rfl), (Nat.le_of_ble_eq_true rfl)⟩ rfl (Nat.le_of_ble_eq_true rfl) rfl dX12_feed_20 (fun p10 => ?_)
  refine aw_iadd X dX12_feed_23 ?_
  refine aw_iload X 4 dX12_feed_24 rfl ?_
  obtain ⟨q11, e12, hf⟩ := z_bd hf
  refine aw_callS X [z_i v4] [z_i (z_w ((z_w ((z_w (((u2 σ 758 0 0) 758 2) + q2)) + q5)) + q8))] [z_i q11, z_i (z_w ((z_w ((z_w (((u2 σ 758 0 0) 758 2) + q2)) + q5)) + q8))] cX12_107 (C_X12_bytesOf l D cA sa ad bs v4 c_v4 (u2 σ 758 0 0) q11 e12) rfl ⟨(Nat.le_of_ble_eq_true rfl), (Nat.le_of_ble_eq_true rfl), (Nat.le_of_ble_eq_true rfl), (Nat.le_of_ble_eq_true rfl)⟩ rfl (Nat.le_of_ble_eq_true rfl) rfl dX12_feed_26 (fun p13 => ?_)
  refine aw_iadd X dX12_feed_29 ?_
  refine aw_iload X 5 dX12_feed_30 rfl ?_
  obtain ⟨q14, e15, hf⟩ := z_bd hf
  refine aw_callS X [z_i v5] [z_i (z_w ((z_w ((z_w ((z_w (((u2 σ 758 0 0) 758 2) + q2)) + q5)) + q8)) + q11))] [z_i q14, z_i (z_w ((z_w ((z_w ((z_w (((u2 σ 758 0 0) 758 2) + q2)) + q5)) + q8)) + q11))] cX12_107 (C_X12_bytesOf l D cA sa ad bs v5 c_v5 (u2 σ 758 0 0) q14 e15) rfl ⟨(Nat.le_of_ble_eq_true rfl), (Nat.le_of_ble_eq_true rfl), (Nat.le_of_ble_eq_true rfl), (Nat.le_of_ble_eq_true rfl)⟩ rfl (Nat.le_of_ble_eq_true rfl) rfl dX12_feed_32 (fun p16 => ?_)
  refine aw_iadd X dX12_feed_35 ?_
  refine aw_sipush X dX12_feed_36 (by decide) ?_
  refine aw_icmp_le X (tgt := 44) (z_w_in _) (z_lit (x := 320) (by decide)) dX12_feed_39 (by decide) (fun h17 => ?_) (fun h17 => ?_)
  · rw [if_pos h17] at hf
    refine aw_aload_n X 0 dX12_feed_44 rfl rfl ?_
    refine aw_iload_n X 1 dX12_feed_45 rfl rfl ?_
    obtain ⟨q18, e19, hf⟩ := z_bd hf
    refine aw_callV X [z_i v1] [] [] cX12_111 s_758 ciX12 (C_X12_brings l D cA sa ad bs v1 c_v1 (u2 σ 758 0 0) q18 e19) rfl ⟨(Nat.le_of_ble_eq_true rfl), (Nat.le_of_ble_eq_true rfl), (Nat.le_of_ble_eq_true rfl), (Nat.le_of_ble_eq_true rfl)⟩ rfl (Nat.le_of_ble_eq_true rfl) rfl dX12_feed_46 (fun p20 => ?_)
    refine aw_aload_n X 0 dX12_feed_49 rfl rfl ?_
    refine aw_iload_n X 2 dX12_feed_50 rfl rfl ?_
    obtain ⟨q21, e22, hf⟩ := z_bd hf
    refine aw_callV X [z_i v2] [] [] cX12_111 s_758 ciX12 (C_X12_brings l D cA sa ad bs v2 c_v2 q18 q21 e22) rfl ⟨(Nat.le_of_ble_eq_true rfl), (Nat.le_of_ble_eq_true rfl), (Nat.le_of_ble_eq_true rfl), (Nat.le_of_ble_eq_true rfl)⟩ rfl (Nat.le_of_ble_eq_true rfl) rfl dX12_feed_51 (fun p23 => ?_)
    refine aw_aload_n X 0 dX12_feed_54 rfl rfl ?_
    refine aw_iload_n X 3 dX12_feed_55 rfl rfl ?_
    obtain ⟨q24, e25, hf⟩ := z_bd hf
    refine aw_callV X [z_i v3] [] [] cX12_111 s_758 ciX12 (C_X12_brings l D cA sa ad bs v3 c_v3 q21 q24 e25) rfl ⟨(Nat.le_of_ble_eq_true rfl), (Nat.le_of_ble_eq_true rfl), (Nat.le_of_ble_eq_true rfl), (Nat.le_of_ble_eq_true rfl)⟩ rfl (Nat.le_of_ble_eq_true rfl) rfl dX12_feed_56 (fun p26 => ?_)
    refine aw_aload_n X 0 dX12_feed_59 rfl rfl ?_
    refine aw_iload X 4 dX12_feed_60 rfl ?_
    obtain ⟨q27, e28, hf⟩ := z_bd hf
    refine aw_callV X [z_i v4] [] [] cX12_111 s_758 ciX12 (C_X12_brings l D cA sa ad bs v4 c_v4 q24 q27 e28) rfl ⟨(Nat.le_of_ble_eq_true rfl), (Nat.le_of_ble_eq_true rfl), (Nat.le_of_ble_eq_true rfl), (Nat.le_of_ble_eq_true rfl)⟩ rfl (Nat.le_of_ble_eq_true rfl) rfl dX12_feed_62 (fun p29 => ?_)
    refine aw_aload_n X 0 dX12_feed_65 rfl rfl ?_
    refine aw_iload X 5 dX12_feed_66 rfl ?_
    obtain ⟨q30, e31, hf⟩ := z_bd hf
    refine aw_callV X [z_i v5] [] [] cX12_111 s_758 ciX12 (C_X12_brings l D cA sa ad bs v5 c_v5 q27 q30 e31) rfl ⟨(Nat.le_of_ble_eq_true rfl), (Nat.le_of_ble_eq_true rfl), (Nat.le_of_ble_eq_true rfl), (Nat.le_of_ble_eq_true rfl)⟩ rfl (Nat.le_of_ble_eq_true rfl) rfl dX12_feed_68 (fun p32 => ?_)
    refine aw_aload_n X 0 dX12_feed_71 rfl rfl ?_
    refine aw_getI X s_758 fX12_104 rfl dX12_feed_72 (fun c33 => ?_)
    obtain rfl := Option.some.inj hf
    exact aw_iret X c33 hr rfl dX12_feed_75
  · rw [if_neg h17] at hf
    refine aw_iconst X dX12_feed_42 ?_
    obtain rfl := Option.some.inj hf
    exact aw_iret X (z_lit (x := (-1)) (by decide)) hr rfl dX12_feed_43
-- SpeedDeskModel.end(I)Z
section S_X12_end
variable {p : Program} {l : Launch} {e : Env} {s : State} {m : MethodId} {args : Array Value} {below : List Frame} {meth : Method} {c : Code} {D : va_G} {cA : Nat → ClassId} {sa ad : Nat → Nat} {bs : Nat} {q : (Int × (Nat → Nat → Int))}

end S_X12_end
set_option maxHeartbeats 4000000 in
set_option maxRecDepth 100000 in
theorem C_X12_end (l : Launch) (D : va_G) (cA : Nat → ClassId) (sa ad : Nat → Nat) (bs : Nat) (v1 : Int) (c_v1 : Z_I v1) (σ : Nat → Nat → Int) (q : (Int × (Nat → Nat → Int))) (hf : f_X12_end v1 σ = some q) : AM l D cA sa ad bs 788 SHp yX12_end cX12_end 2 (some .boolean) 0 [.ref (ad 758), z_i v1] σ (some (z_i q.1)) (q.1 = 0 ∨ q.1 = 1) q.2 := by
  refine am_of (by decide +kernel) (Nat.le_of_ble_eq_true rfl) (fun p e s m args below meth c X hr => ?_)
  refine aw_lv (lv' := [(0, .ref (ad 758)), (1, z_i v1)]) rfl ?_
  unfold f_X12_end at hf
  refine aw_aload_n X 0 dX12_end_0 rfl rfl ?_
  refine aw_iconst X dX12_end_1 ?_
  refine aw_putI X s_758 pX12_101 rfl (z_lit (x := 0) (by decide)) dX12_end_2 ?_
  refine aw_iload_n X 1 dX12_end_5 rfl rfl ?_
  refine aw_if_lt X (tgt := 17) c_v1 dX12_end_6 (by decide) (fun h1 => ?_) (fun h1 => ?_)
  · rw [if_pos h1] at hf
    refine aw_iconst X dX12_end_17 ?_
    obtain rfl := Option.some.inj hf
    exact aw_zret X (Or.inl rfl) hr (Or.inl rfl) rfl dX12_end_18
  · rw [if_neg h1] at hf
    refine aw_iload_n X 1 dX12_end_9 rfl rfl ?_
    refine aw_aload_n X 0 dX12_end_10 rfl rfl ?_
    refine aw_getI X s_758 fX12_104 rfl dX12_end_11 (fun c2 => ?_)
    refine aw_icmp_le X (tgt := 19) c_v1 c2 dX12_end_14 (by decide) (fun h3 => ?_) (fun h3 => ?_)
    · rw [if_pos h3] at hf
      refine aw_aload_n X 0 dX12_end_19 rfl rfl ?_
      refine aw_iload_n X 1 dX12_end_20 rfl rfl ?_
      refine aw_putI X s_758 pX12_104 rfl c_v1 dX12_end_21 ?_
      refine aw_iconst X dX12_end_24 ?_
      obtain rfl := Option.some.inj hf
      exact aw_zret X (Or.inr rfl) hr (Or.inr rfl) rfl dX12_end_25
    · rw [if_neg h3] at hf
      refine aw_iconst X dX12_end_17 ?_
      obtain rfl := Option.some.inj hf
      exact aw_zret X (Or.inl rfl) hr (Or.inl rfl) rfl dX12_end_18
-- SpeedDeskModel.here()I
section S_X12_here
variable {p : Program} {l : Launch} {e : Env} {s : State} {m : MethodId} {args : Array Value} {below : List Frame} {meth : Method} {c : Code} {D : va_G} {cA : Nat → ClassId} {sa ad : Nat → Nat} {bs : Nat} {q : Int}

end S_X12_here
set_option maxHeartbeats 4000000 in
set_option maxRecDepth 100000 in
theorem C_X12_here (l : Launch) (D : va_G) (cA : Nat → ClassId) (sa ad : Nat → Nat) (bs : Nat)  (σ : Nat → Nat → Int) (q : Int) (hf : f_X12_here σ = some q) : AM l D cA sa ad bs 788 SHp yX12_here cX12_here 1 (some .int) 0 [.ref (ad 758)] σ (some (z_i q)) (Z_I q) σ := by
  refine am_of (by decide +kernel) (Nat.le_of_ble_eq_true rfl) (fun p e s m args below meth c X hr => ?_)
  refine aw_lv (lv' := [(0, .ref (ad 758))]) rfl ?_
  unfold f_X12_here at hf
  refine aw_aload_n X 0 dX12_here_0 rfl rfl ?_
  refine aw_getI X s_758 fX12_115 rfl dX12_here_1 (fun c1 => ?_)
  refine aw_aload_n X 0 dX12_here_4 rfl rfl ?_
  refine aw_getI X s_758 fX12_104 rfl dX12_here_5 (fun c2 => ?_)
  refine aw_icmp_ge X (tgt := 27) c1 c2 dX12_here_8 (by decide) (fun h3 => ?_) (fun h3 => ?_)
  · rw [if_pos h3] at hf
    refine aw_iconst X dX12_here_27 ?_
    obtain rfl := Option.some.inj hf
    exact aw_iret X (z_lit (x := (-1)) (by decide)) hr rfl dX12_here_28
  · rw [if_neg h3] at hf
    refine aw_aload_n X 0 dX12_here_11 rfl rfl ?_
    refine aw_getR X s_758 fX12_9 rfl dX12_here_12 ?_
    refine aw_aload_n X 0 dX12_here_15 rfl rfl ?_
    refine aw_getI X s_758 fX12_115 rfl dX12_here_16 (fun c4 => ?_)
    obtain ⟨g5, hf⟩ := z_gd hf
    refine aw_bald X (j := (σ 758 3).toNat) s_759 c4 g5.1 g5.2 rfl dX12_here_19 (fun c6 => ?_)
    refine aw_sipush X dX12_here_20 (by decide) ?_
    refine aw_iand X dX12_here_23 ?_
    refine aw_goto X (tgt := 28) dX12_here_24 (by decide) ?_
    obtain rfl := Option.some.inj hf
    exact aw_iret X (z_and_in _ _) hr rfl dX12_here_28
-- SpeedDeskModel.look()I
section S_X12_look
variable {p : Program} {l : Launch} {e : Env} {s : State} {m : MethodId} {args : Array Value} {below : List Frame} {meth : Method} {c : Code} {D : va_G} {cA : Nat → ClassId} {sa ad : Nat → Nat} {bs : Nat} {q : (Int × (Nat → Nat → Int))}
set_option maxHeartbeats 4000000 in
set_option maxRecDepth 100000 in
theorem A_X12_look_0 (X : AX p s m args meth c D cA sa bs cX12_look 1 RX12) (hr : meth.sig.returnType = (some .int)) : ∀ (k : Nat)  (σ : Nat → Nat → Int), f_X12_look_0 k σ = some q → AW p l e (ax_rm 1 0 0) s m args below meth c D cA ad bs 788 SHp 0 0 (ax_MQ below args s D cA ad bs 788 SHp 0 0 (some (z_i q.1)) (Z_I q.1) q.2) 1 0 [(0, .ref (ad 758))] [] σ := by
  intro k
  induction k with
  | zero =>
    intro  σ hf
    unfold f_X12_look_0 at hf
    cases hf
  | succ k ih =>
    intro  σ hf
    unfold f_X12_look_0 at hf
    refine aw_aload_n X 0 dX12_look_0 rfl rfl ?_
    obtain ⟨q1, e2, hf⟩ := z_bd hf
    refine aw_callV X [] [] [z_i q1] cX12_118 s_758 ciX12 (C_X12_here l D cA sa ad bs σ q1 e2) rfl ⟨(Nat.le_of_ble_eq_true rfl), (Nat.le_of_ble_eq_true rfl), (Nat.le_of_ble_eq_true rfl), (Nat.le_of_ble_eq_true rfl)⟩ rfl (Nat.le_of_ble_eq_true rfl) rfl dX12_look_1 (fun p3 => ?_)
    refine aw_bipush X dX12_look_4 (by decide) ?_
    refine aw_icmp_ne X (tgt := 22) p3 (z_lit (x := 32) (by decide)) dX12_look_6 (by decide) (fun h4 => ?_) (fun h4 => ?_)
    · rw [if_neg h4] at hf
      refine aw_aload_n X 0 dX12_look_22 rfl rfl ?_
      obtain ⟨q5, e6, hf⟩ := z_bd hf
      refine aw_callV X [] [] [z_i q5] cX12_118 s_758 ciX12 (C_X12_here l D cA sa ad bs σ q5 e6) rfl ⟨(Nat.le_of_ble_eq_true rfl), (Nat.le_of_ble_eq_true rfl), (Nat.le_of_ble_eq_true rfl), (Nat.le_of_ble_eq_true rfl)⟩ rfl (Nat.le_of_ble_eq_true rfl) rfl dX12_look_23 (fun p7 => ?_)
      obtain rfl := Option.some.inj hf
      exact aw_iret X p7 hr rfl dX12_look_26
    · rw [if_pos h4] at hf
      refine aw_aload_n X 0 dX12_look_9 rfl rfl ?_
      refine aw_dup X dX12_look_10 rfl ?_
      refine aw_getI X s_758 fX12_115 rfl dX12_look_11 (fun c8 => ?_)
      refine aw_iconst X dX12_look_14 ?_
      refine aw_iadd X dX12_look_15 ?_
      refine aw_putI X s_758 pX12_115 rfl (z_w_in _) dX12_look_16 ?_
      refine aw_goto X (tgt := 0) dX12_look_19 (by decide) ?_
      exact ih (u2 σ 758 3 (z_w ((σ 758 3) + 1))) hf
end S_X12_look
set_option maxHeartbeats 4000000 in
set_option maxRecDepth 100000 in
theorem C_X12_look (l : Launch) (D : va_G) (cA : Nat → ClassId) (sa ad : Nat → Nat) (bs : Nat)  (σ : Nat → Nat → Int) (q : (Int × (Nat → Nat → Int))) (hf : f_X12_look σ = some q) : AM l D cA sa ad bs 788 SHp yX12_look cX12_look 1 (some .int) 1 [.ref (ad 758)] σ (some (z_i q.1)) (Z_I q.1) q.2 := by
  refine am_of (by decide +kernel) (Nat.le_of_ble_eq_true rfl) (fun p e s m args below meth c X hr => ?_)
  refine aw_lv (lv' := [(0, .ref (ad 758))]) rfl ?_
  unfold f_X12_look at hf
  exact A_X12_look_0 X hr 100000 σ hf
-- SpeedDeskModel.fails(I)V
section S_X12_fails
variable {p : Program} {l : Launch} {e : Env} {s : State} {m : MethodId} {args : Array Value} {below : List Frame} {meth : Method} {c : Code} {D : va_G} {cA : Nat → ClassId} {sa ad : Nat → Nat} {bs : Nat} {q : (Nat → Nat → Int)}

end S_X12_fails
set_option maxHeartbeats 4000000 in
set_option maxRecDepth 100000 in
theorem C_X12_fails (l : Launch) (D : va_G) (cA : Nat → ClassId) (sa ad : Nat → Nat) (bs : Nat) (v1 : Int) (c_v1 : Z_I v1) (σ : Nat → Nat → Int) (q : (Nat → Nat → Int)) (hf : f_X12_fails v1 σ = some q) : AM l D cA sa ad bs 788 SHp yX12_fails cX12_fails 2 none 0 [.ref (ad 758), z_i v1] σ none True q := by
  refine am_of (by decide +kernel) (Nat.le_of_ble_eq_true rfl) (fun p e s m args below meth c X hr => ?_)
  refine aw_lv (lv' := [(0, .ref (ad 758)), (1, z_i v1)]) rfl ?_
  unfold f_X12_fails at hf
  refine aw_aload_n X 0 dX12_fails_0 rfl rfl ?_
  refine aw_getI X s_758 fX12_122 rfl dX12_fails_1 (fun c1 => ?_)
  refine aw_iconst X dX12_fails_4 ?_
  refine aw_icmp_ne X (tgt := 13) c1 (z_lit (x := (-1)) (by decide)) dX12_fails_5 (by decide) (fun h2 => ?_) (fun h2 => ?_)
  · rw [if_neg h2] at hf
    obtain rfl := Option.some.inj hf
    exact aw_vret X trivial hr rfl dX12_fails_13
  · rw [if_pos h2] at hf
    refine aw_aload_n X 0 dX12_fails_8 rfl rfl ?_
    refine aw_iload_n X 1 dX12_fails_9 rfl rfl ?_
    refine aw_putI X s_758 pX12_122 rfl c_v1 dX12_fails_10 ?_
    obtain rfl := Option.some.inj hf
    exact aw_vret X trivial hr rfl dX12_fails_13
-- SpeedDeskModel.isLetter()Z
section S_X12_isLetter
variable {p : Program} {l : Launch} {e : Env} {s : State} {m : MethodId} {args : Array Value} {below : List Frame} {meth : Method} {c : Code} {D : va_G} {cA : Nat → ClassId} {sa ad : Nat → Nat} {bs : Nat} {q : Int}

end S_X12_isLetter
set_option maxHeartbeats 4000000 in
set_option maxRecDepth 100000 in
theorem C_X12_isLetter (l : Launch) (D : va_G) (cA : Nat → ClassId) (sa ad : Nat → Nat) (bs : Nat)  (σ : Nat → Nat → Int) (q : Int) (hf : f_X12_isLetter σ = some q) : AM l D cA sa ad bs 788 SHp yX12_isLetter cX12_isLetter 1 (some .boolean) 1 [.ref (ad 758)] σ (some (z_i q)) (q = 0 ∨ q = 1) σ := by
  refine am_of (by decide +kernel) (Nat.le_of_ble_eq_true rfl) (fun p e s m args below meth c X hr => ?_)
  refine aw_lv (lv' := [(0, .ref (ad 758))]) rfl ?_
  unfold f_X12_isLetter at hf
  refine aw_aload_n X 0 dX12_isLetter_0 rfl rfl ?_
  obtain ⟨q1, e2, hf⟩ := z_bd hf
  refine aw_callV X [] [] [z_i q1] cX12_118 s_758 ciX12 (C_X12_here l D cA sa ad bs σ q1 e2) rfl ⟨(Nat.le_of_ble_eq_true rfl), (Nat.le_of_ble_eq_true rfl), (Nat.le_of_ble_eq_true rfl), (Nat.le_of_ble_eq_true rfl)⟩ rfl (Nat.le_of_ble_eq_true rfl) rfl dX12_isLetter_1 (fun p3 => ?_)
  refine aw_bipush X dX12_isLetter_4 (by decide) ?_
  refine aw_icmp_lt X (tgt := 22) p3 (z_lit (x := 97) (by decide)) dX12_isLetter_6 (by decide) (fun h4 => ?_) (fun h4 => ?_)
  · rw [if_pos h4] at hf
    refine aw_iconst X dX12_isLetter_22 ?_
    obtain rfl := Option.some.inj hf
    exact aw_zret X (Or.inl rfl) hr (Or.inl rfl) rfl dX12_isLetter_23
  · rw [if_neg h4] at hf
    refine aw_aload_n X 0 dX12_isLetter_9 rfl rfl ?_
    obtain ⟨q5, e6, hf⟩ := z_bd hf
    refine aw_callV X [] [] [z_i q5] cX12_118 s_758 ciX12 (C_X12_here l D cA sa ad bs σ q5 e6) rfl ⟨(Nat.le_of_ble_eq_true rfl), (Nat.le_of_ble_eq_true rfl), (Nat.le_of_ble_eq_true rfl), (Nat.le_of_ble_eq_true rfl)⟩ rfl (Nat.le_of_ble_eq_true rfl) rfl dX12_isLetter_10 (fun p7 => ?_)
    refine aw_bipush X dX12_isLetter_13 (by decide) ?_
    refine aw_icmp_gt X (tgt := 22) p7 (z_lit (x := 122) (by decide)) dX12_isLetter_15 (by decide) (fun h8 => ?_) (fun h8 => ?_)
    · rw [if_pos h8] at hf
      refine aw_iconst X dX12_isLetter_22 ?_
      obtain rfl := Option.some.inj hf
      exact aw_zret X (Or.inl rfl) hr (Or.inl rfl) rfl dX12_isLetter_23
    · rw [if_neg h8] at hf
      refine aw_iconst X dX12_isLetter_18 ?_
      refine aw_goto X (tgt := 23) dX12_isLetter_19 (by decide) ?_
      obtain rfl := Option.some.inj hf
      exact aw_zret X (Or.inr rfl) hr (Or.inr rfl) rfl dX12_isLetter_23
-- SpeedDeskModel.isDigit()Z
section S_X12_isDigit
variable {p : Program} {l : Launch} {e : Env} {s : State} {m : MethodId} {args : Array Value} {below : List Frame} {meth : Method} {c : Code} {D : va_G} {cA : Nat → ClassId} {sa ad : Nat → Nat} {bs : Nat} {q : Int}

end S_X12_isDigit
set_option maxHeartbeats 4000000 in
set_option maxRecDepth 100000 in
theorem C_X12_isDigit (l : Launch) (D : va_G) (cA : Nat → ClassId) (sa ad : Nat → Nat) (bs : Nat)  (σ : Nat → Nat → Int) (q : Int) (hf : f_X12_isDigit σ = some q) : AM l D cA sa ad bs 788 SHp yX12_isDigit cX12_isDigit 1 (some .boolean) 1 [.ref (ad 758)] σ (some (z_i q)) (q = 0 ∨ q = 1) σ := by
  refine am_of (by decide +kernel) (Nat.le_of_ble_eq_true rfl) (fun p e s m args below meth c X hr => ?_)
  refine aw_lv (lv' := [(0, .ref (ad 758))]) rfl ?_
  unfold f_X12_isDigit at hf
  refine aw_aload_n X 0 dX12_isDigit_0 rfl rfl ?_
  obtain ⟨q1, e2, hf⟩ := z_bd hf
  refine aw_callV X [] [] [z_i q1] cX12_118 s_758 ciX12 (C_X12_here l D cA sa ad bs σ q1 e2) rfl ⟨(Nat.le_of_ble_eq_true rfl), (Nat.le_of_ble_eq_true rfl), (Nat.le_of_ble_eq_true rfl), (Nat.le_of_ble_eq_true rfl)⟩ rfl (Nat.le_of_ble_eq_true rfl) rfl dX12_isDigit_1 (fun p3 => ?_)
  refine aw_bipush X dX12_isDigit_4 (by decide) ?_
  refine aw_icmp_lt X (tgt := 22) p3 (z_lit (x := 48) (by decide)) dX12_isDigit_6 (by decide) (fun h4 => ?_) (fun h4 => ?_)
  · rw [if_pos h4] at hf
    refine aw_iconst X dX12_isDigit_22 ?_
    obtain rfl := Option.some.inj hf
    exact aw_zret X (Or.inl rfl) hr (Or.inl rfl) rfl dX12_isDigit_23
  · rw [if_neg h4] at hf
    refine aw_aload_n X 0 dX12_isDigit_9 rfl rfl ?_
    obtain ⟨q5, e6, hf⟩ := z_bd hf
    refine aw_callV X [] [] [z_i q5] cX12_118 s_758 ciX12 (C_X12_here l D cA sa ad bs σ q5 e6) rfl ⟨(Nat.le_of_ble_eq_true rfl), (Nat.le_of_ble_eq_true rfl), (Nat.le_of_ble_eq_true rfl), (Nat.le_of_ble_eq_true rfl)⟩ rfl (Nat.le_of_ble_eq_true rfl) rfl dX12_isDigit_10 (fun p7 => ?_)
    refine aw_bipush X dX12_isDigit_13 (by decide) ?_
    refine aw_icmp_gt X (tgt := 22) p7 (z_lit (x := 57) (by decide)) dX12_isDigit_15 (by decide) (fun h8 => ?_) (fun h8 => ?_)
    · rw [if_pos h8] at hf
      refine aw_iconst X dX12_isDigit_22 ?_
      obtain rfl := Option.some.inj hf
      exact aw_zret X (Or.inl rfl) hr (Or.inl rfl) rfl dX12_isDigit_23
    · rw [if_neg h8] at hf
      refine aw_iconst X dX12_isDigit_18 ?_
      refine aw_goto X (tgt := 23) dX12_isDigit_19 (by decide) ?_
      obtain rfl := Option.some.inj hf
      exact aw_zret X (Or.inr rfl) hr (Or.inr rfl) rfl dX12_isDigit_23
-- SpeedDeskModel.word()V
section S_X12_word
variable {p : Program} {l : Launch} {e : Env} {s : State} {m : MethodId} {args : Array Value} {below : List Frame} {meth : Method} {c : Code} {D : va_G} {cA : Nat → ClassId} {sa ad : Nat → Nat} {bs : Nat} {q : (Nat → Nat → Int)}
set_option maxHeartbeats 4000000 in
set_option maxRecDepth 100000 in
theorem A_X12_word_103 (X : AX p s m args meth c D cA sa bs cX12_word 2 RX12) (hr : meth.sig.returnType = none)  (σ : Nat → Nat → Int) (hf : f_X12_word_103 σ = some q) : AW p l e (ax_rm 2 0 0) s m args below meth c D cA ad bs 788 SHp 0 0 (ax_MQ below args s D cA ad bs 788 SHp 0 0 none True q) 2 103 [(0, .ref (ad 758))] [] σ := by
  unfold f_X12_word_103 at hf
  refine aw_aload_n X 0 dX12_word_103 rfl rfl ?_
  refine aw_aload_n X 0 dX12_word_104 rfl rfl ?_
  refine aw_getI X s_758 fX12_136 rfl dX12_word_105 (fun c24 => ?_)
  obtain ⟨q25, e26, hf⟩ := z_bd hf
  refine aw_callV X [z_i (σ 758 5)] [] [] cX12_147 s_758 ciX12 (C_X12_fails l D cA sa ad bs (σ 758 5) c24 σ q25 e26) rfl ⟨(Nat.le_of_ble_eq_true rfl), (Nat.le_of_ble_eq_true rfl), (Nat.le_of_ble_eq_true rfl), (Nat.le_of_ble_eq_true rfl)⟩ rfl (Nat.le_of_ble_eq_true rfl) rfl dX12_word_108 (fun p27 => ?_)
  obtain rfl := Option.some.inj hf
  exact aw_vret X trivial hr rfl dX12_word_111
set_option maxHeartbeats 4000000 in
set_option maxRecDepth 100000 in
theorem A_X12_word_65 (X : AX p s m args meth c D cA sa bs cX12_word 2 RX12) (hr : meth.sig.returnType = none) (K27 : (Nat → Nat → Int) → Option (Nat → Nat → Int)) (hK27 : ∀  (σ : Nat → Nat → Int), K27 σ = some q → AW p l e (ax_rm 2 0 0) s m args below meth c D cA ad bs 788 SHp 0 0 (ax_MQ below args s D cA ad bs 788 SHp 0 0 none True q) 2 27 [(0, .ref (ad 758))] [] σ)  (σ : Nat → Nat → Int) (hf : f_X12_word_65 K27 σ = some q) : AW p l e (ax_rm 2 0 0) s m args below meth c D cA ad bs 788 SHp 0 0 (ax_MQ below args s D cA ad bs 788 SHp 0 0 none True q) 2 65 [(0, .ref (ad 758))] [] σ := by
  unfold f_X12_word_65 at hf
  refine aw_aload_n X 0 dX12_word_65 rfl rfl ?_
  refine aw_dup X dX12_word_66 rfl ?_
  refine aw_getI X s_758 fX12_115 rfl dX12_word_67 (fun c28 => ?_)
  refine aw_iconst X dX12_word_70 ?_
  refine aw_iadd X dX12_word_71 ?_
  refine aw_putI X s_758 pX12_115 rfl (z_w_in _) dX12_word_72 ?_
  refine aw_goto X (tgt := 27) dX12_word_75 (by decide) ?_
  exact hK27 (u2 σ 758 3 (z_w ((σ 758 3) + 1))) hf
set_option maxHeartbeats 4000000 in
set_option maxRecDepth 100000 in
theorem A_X12_word_27 (X : AX p s m args meth c D cA sa bs cX12_word 2 RX12) (hr : meth.sig.returnType = none) : ∀ (k : Nat)  (σ : Nat → Nat → Int), f_X12_word_27 k σ = some q → AW p l e (ax_rm 2 0 0) s m args below meth c D cA ad bs 788 SHp 0 0 (ax_MQ below args s D cA ad bs 788 SHp 0 0 none True q) 2 27 [(0, .ref (ad 758))] [] σ := by
  intro k
  induction k with
  | zero =>
    intro  σ hf
    unfold f_X12_word_27 at hf
    cases hf
  | succ k ih =>
    intro  σ hf
    unfold f_X12_word_27 at hf
    refine aw_aload_n X 0 dX12_word_27 rfl rfl ?_
    obtain ⟨q7, e8, hf⟩ := z_bd hf
    refine aw_callV X [] [] [z_i q7] cX12_143 s_758 ciX12 (C_X12_isLetter l D cA sa ad bs σ q7 e8) rfl ⟨(Nat.le_of_ble_eq_true rfl), (Nat.le_of_ble_eq_true rfl), (Nat.le_of_ble_eq_true rfl), (Nat.le_of_ble_eq_true rfl)⟩ rfl (Nat.le_of_ble_eq_true rfl) rfl dX12_word_28 (fun p9 => ?_)
    refine aw_if_eq X (tgt := 78) (z_zI p9) dX12_word_31 (by decide) (fun h10 => ?_) (fun h10 => ?_)
    · rw [if_pos h10] at hf
      refine aw_aload_n X 0 dX12_word_78 rfl rfl ?_
      refine aw_getI X s_758 fX12_115 rfl dX12_word_79 (fun c11 => ?_)
      refine aw_aload_n X 0 dX12_word_82 rfl rfl ?_
      refine aw_getI X s_758 fX12_136 rfl dX12_word_83 (fun c12 => ?_)
      refine aw_icmp_eq X (tgt := 103) c11 c12 dX12_word_86 (by decide) (fun h13 => ?_) (fun h13 => ?_)
      · rw [if_pos h13] at hf
        exact A_X12_word_103 X hr σ hf
      · rw [if_neg h13] at hf
        refine aw_aload_n X 0 dX12_word_89 rfl rfl ?_
        refine aw_getI X s_758 fX12_115 rfl dX12_word_90 (fun c14 => ?_)
        refine aw_aload_n X 0 dX12_word_93 rfl rfl ?_
        refine aw_getI X s_758 fX12_136 rfl dX12_word_94 (fun c15 => ?_)
        refine aw_isub X dX12_word_97 ?_
        refine aw_bipush X dX12_word_98 (by decide) ?_
        refine aw_icmp_le X (tgt := 111) (z_w_in _) (z_lit (x := 7) (by decide)) dX12_word_100 (by decide) (fun h16 => ?_) (fun h16 => ?_)
        · rw [if_pos h16] at hf
          obtain rfl := Option.some.inj hf
          exact aw_vret X trivial hr rfl dX12_word_111
        · rw [if_neg h16] at hf
          exact A_X12_word_103 X hr σ hf
    · rw [if_neg h10] at hf
      refine aw_aload_n X 0 dX12_word_34 rfl rfl ?_
      refine aw_getI X s_758 fX12_115 rfl dX12_word_35 (fun c17 => ?_)
      refine aw_aload_n X 0 dX12_word_38 rfl rfl ?_
      refine aw_getI X s_758 fX12_136 rfl dX12_word_39 (fun c18 => ?_)
      refine aw_isub X dX12_word_42 ?_
      refine aw_bipush X dX12_word_43 (by decide) ?_
      refine aw_icmp_ge X (tgt := 65) (z_w_in _) (z_lit (x := 7) (by decide)) dX12_word_45 (by decide) (fun h19 => ?_) (fun h19 => ?_)
      · rw [if_pos h19] at hf
        exact A_X12_word_65 X hr (f_X12_word_27 k) ih σ hf
      · rw [if_neg h19] at hf
        refine aw_aload_n X 0 dX12_word_48 rfl rfl ?_
        refine aw_aload_n X 0 dX12_word_49 rfl rfl ?_
        refine aw_getL X s_758 fX12_139 rfl dX12_word_50 (fun c20 => ?_)
        refine aw_bipush X dX12_word_53 (by decide) ?_
        refine aw_lshl X dX12_word_55 ?_
        refine aw_aload_n X 0 dX12_word_56 rfl rfl ?_
        obtain ⟨q21, e22, hf⟩ := z_bd hf
        refine aw_callV X [] [z_v (z_shlL (σ 758 6) 8), .ref (ad 758)] [z_i q21, z_v (z_shlL (σ 758 6) 8), .ref (ad 758)] cX12_118 s_758 ciX12 (C_X12_here l D cA sa ad bs σ q21 e22) rfl ⟨(Nat.le_of_ble_eq_true rfl), (Nat.le_of_ble_eq_true rfl), (Nat.le_of_ble_eq_true rfl), (Nat.le_of_ble_eq_true rfl)⟩ rfl (Nat.le_of_ble_eq_true rfl) rfl dX12_word_57 (fun p23 => ?_)
        refine aw_i2l X p23 dX12_word_60 ?_
        refine aw_lor X dX12_word_61 ?_
        refine aw_putL X s_758 pX12_139 rfl (z_orL_in _ _) dX12_word_62 ?_
        exact A_X12_word_65 X hr (f_X12_word_27 k) ih (u2 σ 758 6 (z_orL (z_shlL (σ 758 6) 8) q21)) hf
end S_X12_word
set_option maxHeartbeats 4000000 in
set_option maxRecDepth 100000 in
theorem C_X12_word (l : Launch) (D : va_G) (cA : Nat → ClassId) (sa ad : Nat → Nat) (bs : Nat)  (σ : Nat → Nat → Int) (q : (Nat → Nat → Int)) (hf : f_X12_word σ = some q) : AM l D cA sa ad bs 788 SHp yX12_word cX12_word 2 none 2 [.ref (ad 758)] σ none True q := by
  refine am_of (by decide +kernel) (Nat.le_of_ble_eq_true rfl) (fun p e s m args below meth c X hr => ?_)
  refine aw_lv (lv' := [(0, .ref (ad 758))]) rfl ?_
  unfold f_X12_word at hf
  refine aw_aload_n X 0 dX12_word_0 rfl rfl ?_
  refine aw_getI X s_758 fX12_122 rfl dX12_word_1 (fun c1 => ?_)
  refine aw_iconst X dX12_word_4 ?_
  refine aw_icmp_eq X (tgt := 9) c1 (z_lit (x := (-1)) (by decide)) dX12_word_5 (by decide) (fun h2 => ?_) (fun h2 => ?_)
  · rw [if_pos h2] at hf
    refine aw_aload_n X 0 dX12_word_9 rfl rfl ?_
    obtain ⟨q3, e4, hf⟩ := z_bd hf
    refine aw_callV X [] [] [z_i q3.1] cX12_133 s_758 ciX12 (C_X12_look l D cA sa ad bs σ q3 e4) rfl ⟨(Nat.le_of_ble_eq_true rfl), (Nat.le_of_ble_eq_true rfl), (Nat.le_of_ble_eq_true rfl), (Nat.le_of_ble_eq_true rfl)⟩ rfl (Nat.le_of_ble_eq_true rfl) rfl dX12_word_10 (fun p5 => ?_)
    refine aw_istore_n X [(1, z_i q3.1), (0, .ref (ad 758))] dX12_word_13 rfl (by decide) rfl ?_
    refine aw_aload_n X 1 dX12_word_14 rfl rfl ?_
    refine aw_aload_n X 1 dX12_word_15 rfl rfl ?_
    refine aw_getI X s_758 fX12_115 rfl dX12_word_16 (fun c6 => ?_)
    refine aw_putI X s_758 pX12_136 rfl c6 dX12_word_19 ?_
    refine aw_aload_n X 1 dX12_word_22 rfl rfl ?_
    refine aw_lconst X (x := 0) dX12_word_23 (by decide) ?_
    refine aw_putL X s_758 pX12_139 rfl (z_litL (x := 0) (by decide)) dX12_word_24 ?_
    refine aw_sub [1] rfl ?_
    exact A_X12_word_27 X hr 100000 (u2 (u2 q3.2 758 5 (q3.2 758 3)) 758 6 0) hf
  · rw [if_neg h2] at hf
    obtain rfl := Option.some.inj hf
    exact aw_vret X trivial hr rfl dX12_word_8
-- SpeedDeskModel.number(II)I
section S_X12_number
variable {p : Program} {l : Launch} {e : Env} {s : State} {m : MethodId} {args : Array Value} {below : List Frame} {meth : Method} {c : Code} {D : va_G} {cA : Nat → ClassId} {sa ad : Nat → Nat} {bs : Nat} {q : (Int × (Nat → Nat → Int))}
set_option maxHeartbeats 4000000 in
set_option maxRecDepth 100000 in
theorem A_X12_number_111 (X : AX p s m args meth c D cA sa bs cX12_number 5 RX12) (hr : meth.sig.returnType = (some .int)) (v1 : Int) (c_v1 : Z_I v1) (v4 : Int) (c_v4 : Z_I v4) (σ : Nat → Nat → Int) (hf : f_X12_number_111 v1 v4 σ = some q) : AW p l e (ax_rm 2 0 0) s m args below meth c D cA ad bs 788 SHp 0 0 (ax_MQ below args s D cA ad bs 788 SHp 0 0 (some (z_i q.1)) (Z_I q.1) q.2) 5 111 [(0, .ref (ad 758)), (1, z_i v1), (4, z_i v4)] [] σ := by
  unfold f_X12_number_111 at hf
  refine aw_aload_n X 0 dX12_number_111 rfl rfl ?_
  refine aw_getI X s_758 fX12_122 rfl dX12_number_112 (fun c31 => ?_)
  refine aw_iconst X dX12_number_115 ?_
  refine aw_icmp_ne X (tgt := 124) c31 (z_lit (x := (-1)) (by decide)) dX12_number_116 (by decide) (fun h32 => ?_) (fun h32 => ?_)
  · rw [if_neg h32] at hf
    refine aw_iload_n X 1 dX12_number_124 rfl rfl ?_
    obtain rfl := Option.some.inj hf
    exact aw_iret X c_v1 hr rfl dX12_number_125
  · rw [if_pos h32] at hf
    refine aw_iload X 2 dX12_number_119 rfl ?_
    refine aw_goto X (tgt := 125) dX12_number_121 (by decide) ?_
    obtain rfl := Option.some.inj hf
    exact aw_iret X c_v4 hr rfl dX12_number_125
set_option maxHeartbeats 4000000 in
set_option maxRecDepth 100000 in
theorem A_X12_number_75 (X : AX p s m args meth c D cA sa bs cX12_number 5 RX12) (hr : meth.sig.returnType = (some .int)) (K43 : Int → Int → Int → (Nat → Nat → Int) → Option (Int × (Nat → Nat → Int))) (hK43 : ∀ (v1 : Int) (c_v1 : Z_I v1) (v2 : Int) (c_v2 : Z_I v2) (v4 : Int) (c_v4 : Z_I v4) (σ : Nat → Nat → Int), K43 v1 v2 v4 σ = some q → AW p l e (ax_rm 2 0 0) s m args below meth c D cA ad bs 788 SHp 0 0 (ax_MQ below args s D cA ad bs 788 SHp 0 0 (some (z_i q.1)) (Z_I q.1) q.2) 5 43 [(0, .ref (ad 758)), (1, z_i v1), (2, z_i v2), (4, z_i v4)] [] σ) (v1 : Int) (c_v1 : Z_I v1) (v2 : Int) (c_v2 : Z_I v2) (t0 : Int) (c_t0 : Z_I t0) (σ : Nat → Nat → Int) (hf : f_X12_number_75 K43 v1 v2 t0 σ = some q) : AW p l e (ax_rm 2 0 0) s m args below meth c D cA ad bs 788 SHp 0 0 (ax_MQ below args s D cA ad bs 788 SHp 0 0 (some (z_i q.1)) (Z_I q.1) q.2) 5 75 [(0, .ref (ad 758)), (1, z_i v1), (2, z_i v2)] [z_i t0] σ := by
  unfold f_X12_number_75 at hf
  refine aw_istore X [(4, z_i t0), (0, .ref (ad 758)), (1, z_i v1), (2, z_i v2)] dX12_number_75 (by decide) rfl ?_
  refine aw_aload_n X 1 dX12_number_77 rfl rfl ?_
  refine aw_dup X dX12_number_78 rfl ?_
  refine aw_getI X s_758 fX12_115 rfl dX12_number_79 (fun c33 => ?_)
  refine aw_iconst X dX12_number_82 ?_
  refine aw_iadd X dX12_number_83 ?_
  refine aw_putI X s_758 pX12_115 rfl (z_w_in _) dX12_number_84 ?_
  refine aw_goto X (tgt := 43) dX12_number_87 (by decide) ?_
  refine aw_sub [1, 2, 3, 0] rfl ?_
  exact hK43 v1 c_v1 v2 c_v2 t0 c_t0 (u2 σ 758 3 (z_w ((σ 758 3) + 1))) hf
set_option maxHeartbeats 4000000 in
set_option maxRecDepth 100000 in
theorem A_X12_number_43 (X : AX p s m args meth c D cA sa bs cX12_number 5 RX12) (hr : meth.sig.returnType = (some .int)) : ∀ (k : Nat) (v1 : Int) (c_v1 : Z_I v1) (v2 : Int) (c_v2 : Z_I v2) (v4 : Int) (c_v4 : Z_I v4) (σ : Nat → Nat → Int), f_X12_number_43 k v1 v2 v4 σ = some q → AW p l e (ax_rm 2 0 0) s m args below meth c D cA ad bs 788 SHp 0 0 (ax_MQ below args s D cA ad bs 788 SHp 0 0 (some (z_i q.1)) (Z_I q.1) q.2) 5 43 [(0, .ref (ad 758)), (1, z_i v1), (2, z_i v2), (4, z_i v4)] [] σ := by
  intro k
  induction k with
  | zero =>
    intro v1 c_v1 v2 c_v2 v4 c_v4 σ hf
    unfold f_X12_number_43 at hf
    cases hf
  | succ k ih =>
    intro v1 c_v1 v2 c_v2 v4 c_v4 σ hf
    unfold f_X12_number_43 at hf
    refine aw_aload_n X 0 dX12_number_43 rfl rfl ?_
    obtain ⟨q15, e16, hf⟩ := z_bd hf
    refine aw_callV X [] [] [z_i q15] cX12_152 s_758 ciX12 (C_X12_isDigit l D cA sa ad bs σ q15 e16) rfl ⟨(Nat.le_of_ble_eq_true rfl), (Nat.le_of_ble_eq_true rfl), (Nat.le_of_ble_eq_true rfl), (Nat.le_of_ble_eq_true rfl)⟩ rfl (Nat.le_of_ble_eq_true rfl) rfl dX12_number_44 (fun p17 => ?_)
    refine aw_if_eq X (tgt := 90) (z_zI p17) dX12_number_47 (by decide) (fun h18 => ?_) (fun h18 => ?_)
    · rw [if_pos h18] at hf
      refine aw_iload X 3 dX12_number_90 rfl ?_
      refine aw_i2l X c_v4 dX12_number_92 ?_
      refine aw_iload_n X 1 dX12_number_93 rfl rfl ?_
      refine aw_i2l X c_v1 dX12_number_94 ?_
      refine aw_iload_n X 2 dX12_number_95 rfl rfl ?_
      refine aw_i2l X c_v2 dX12_number_96 ?_
      obtain ⟨q19, e20, hf⟩ := z_bd hf
      refine aw_callS X [z_v v4, z_v v1, z_v v2] [] [z_i q19] cX12_156 (C_X12_isIn l D cA sa ad bs v4 (z_IL c_v4) v1 (z_IL c_v1) v2 (z_IL c_v2) σ q19 e20) rfl ⟨(Nat.le_of_ble_eq_true rfl), (Nat.le_of_ble_eq_true rfl), (Nat.le_of_ble_eq_true rfl), (Nat.le_of_ble_eq_true rfl)⟩ rfl (Nat.le_of_ble_eq_true rfl) rfl dX12_number_97 (fun p21 => ?_)
      refine aw_if_ne X (tgt := 111) (z_zI p21) dX12_number_100 (by decide) (fun h22 => ?_) (fun h22 => ?_)
      · rw [if_neg h22] at hf
        refine aw_sub [0, 1, 3] rfl ?_
        exact A_X12_number_111 X hr v1 c_v1 v4 c_v4 σ hf
      · rw [if_pos h22] at hf
        refine aw_aload_n X 0 dX12_number_103 rfl rfl ?_
        refine aw_aload_n X 0 dX12_number_104 rfl rfl ?_
        refine aw_getI X s_758 fX12_136 rfl dX12_number_105 (fun c23 => ?_)
        obtain ⟨q24, e25, hf⟩ := z_bd hf
        refine aw_callV X [z_i (σ 758 5)] [] [] cX12_147 s_758 ciX12 (C_X12_fails l D cA sa ad bs (σ 758 5) c23 σ q24 e25) rfl ⟨(Nat.le_of_ble_eq_true rfl), (Nat.le_of_ble_eq_true rfl), (Nat.le_of_ble_eq_true rfl), (Nat.le_of_ble_eq_true rfl)⟩ rfl (Nat.le_of_ble_eq_true rfl) rfl dX12_number_108 (fun p26 => ?_)
        refine aw_sub [0, 1, 3] rfl ?_
        exact A_X12_number_111 X hr v1 c_v1 v4 c_v4 q24 hf
    · rw [if_neg h18] at hf
      refine aw_iload X 3 dX12_number_50 rfl ?_
      refine aw_ldc X (x := 99999) dX12_number_52 kX12_155 (by decide) ?_
      refine aw_icmp_le X (tgt := 62) c_v4 (z_lit (x := 99999) (by decide)) dX12_number_54 (by decide) (fun h27 => ?_) (fun h27 => ?_)
      · rw [if_pos h27] at hf
        refine aw_bipush X dX12_number_62 (by decide) ?_
        refine aw_iload X 3 dX12_number_64 rfl ?_
        refine aw_imul X dX12_number_66 ?_
        refine aw_aload_n X 0 dX12_number_67 rfl rfl ?_
        obtain ⟨q28, e29, hf⟩ := z_bd hf
        refine aw_callV X [] [z_i (z_w (10 * v4))] [z_i q28, z_i (z_w (10 * v4))] cX12_118 s_758 ciX12 (C_X12_here l D cA sa ad bs σ q28 e29) rfl ⟨(Nat.le_of_ble_eq_true rfl), (Nat.le_of_ble_eq_true rfl), (Nat.le_of_ble_eq_true rfl), (Nat.le_of_ble_eq_true rfl)⟩ rfl (Nat.le_of_ble_eq_true rfl) rfl dX12_number_68 (fun p30 => ?_)
        refine aw_iadd X dX12_number_71 ?_
        refine aw_bipush X dX12_number_72 (by decide) ?_
        refine aw_isub X dX12_number_74 ?_
        refine aw_sub [0, 1, 2] rfl ?_
        exact A_X12_number_75 X hr (f_X12_number_43 k) ih v1 c_v1 v2 c_v2 (z_w ((z_w ((z_w (10 * v4)) + q28)) - 48)) (z_w_in _) σ hf
      · rw [if_neg h27] at hf
        refine aw_iload X 3 dX12_number_57 rfl ?_
        refine aw_goto X (tgt := 75) dX12_number_59 (by decide) ?_
        refine aw_sub [0, 1, 2] rfl ?_
        exact A_X12_number_75 X hr (f_X12_number_43 k) ih v1 c_v1 v2 c_v2 v4 c_v4 σ hf
end S_X12_number
set_option maxHeartbeats 4000000 in
set_option maxRecDepth 100000 in
theorem C_X12_number (l : Launch) (D : va_G) (cA : Nat → ClassId) (sa ad : Nat → Nat) (bs : Nat) (v1 : Int) (c_v1 : Z_I v1) (v2 : Int) (c_v2 : Z_I v2) (σ : Nat → Nat → Int) (q : (Int × (Nat → Nat → Int))) (hf : f_X12_number v1 v2 σ = some q) : AM l D cA sa ad bs 788 SHp yX12_number cX12_number 5 (some .int) 2 [.ref (ad 758), z_i v1, z_i v2] σ (some (z_i q.1)) (Z_I q.1) q.2 := by
  refine am_of (by decide +kernel) (Nat.le_of_ble_eq_true rfl) (fun p e s m args below meth c X hr => ?_)
  refine aw_lv (lv' := [(0, .ref (ad 758)), (1, z_i v1), (2, z_i v2)]) rfl ?_
  unfold f_X12_number at hf
  refine aw_aload_n X 0 dX12_number_0 rfl rfl ?_
  refine aw_getI X s_758 fX12_122 rfl dX12_number_1 (fun c1 => ?_)
  refine aw_iconst X dX12_number_4 ?_
  refine aw_icmp_eq X (tgt := 10) c1 (z_lit (x := (-1)) (by decide)) dX12_number_5 (by decide) (fun h2 => ?_) (fun h2 => ?_)
  · rw [if_pos h2] at hf
    refine aw_aload_n X 0 dX12_number_10 rfl rfl ?_
    obtain ⟨q3, e4, hf⟩ := z_bd hf
    refine aw_callV X [] [] [z_i q3.1] cX12_133 s_758 ciX12 (C_X12_look l D cA sa ad bs σ q3 e4) rfl ⟨(Nat.le_of_ble_eq_true rfl), (Nat.le_of_ble_eq_true rfl), (Nat.le_of_ble_eq_true rfl), (Nat.le_of_ble_eq_true rfl)⟩ rfl (Nat.le_of_ble_eq_true rfl) rfl dX12_number_11 (fun p5 => ?_)
    refine aw_istore_n X [(3, z_i q3.1), (0, .ref (ad 758)), (1, z_i v1), (2, z_i v2)] dX12_number_14 rfl (by decide) rfl ?_
    refine aw_aload_n X 1 dX12_number_15 rfl rfl ?_
    refine aw_aload_n X 1 dX12_number_16 rfl rfl ?_
    refine aw_getI X s_758 fX12_115 rfl dX12_number_17 (fun c6 => ?_)
    refine aw_putI X s_758 pX12_136 rfl c6 dX12_number_20 ?_
    refine aw_aload_n X 1 dX12_number_23 rfl rfl ?_
    obtain ⟨q7, e8, hf⟩ := z_bd hf
    refine aw_callV X [] [] [z_i q7] cX12_152 s_758 ciX12 (C_X12_isDigit l D cA sa ad bs (u2 q3.2 758 5 (q3.2 758 3)) q7 e8) rfl ⟨(Nat.le_of_ble_eq_true rfl), (Nat.le_of_ble_eq_true rfl), (Nat.le_of_ble_eq_true rfl), (Nat.le_of_ble_eq_true rfl)⟩ rfl (Nat.le_of_ble_eq_true rfl) rfl dX12_number_24 (fun p9 => ?_)
    refine aw_if_ne X (tgt := 40) (z_zI p9) dX12_number_27 (by decide) (fun h10 => ?_) (fun h10 => ?_)
    · rw [if_neg h10] at hf
      refine aw_iconst X dX12_number_40 ?_
      refine aw_istore X [(4, z_i 0), (3, z_i q3.1), (0, .ref (ad 758)), (1, z_i v1), (2, z_i v2)] dX12_number_41 (by decide) rfl ?_
      refine aw_sub [2, 3, 4, 0] rfl ?_
      exact A_X12_number_43 X hr 100000 v1 c_v1 v2 c_v2 0 (z_lit (x := 0) (by decide)) (u2 q3.2 758 5 (q3.2 758 3)) hf
    · rw [if_pos h10] at hf
      refine aw_aload_n X 1 dX12_number_30 rfl rfl ?_
      refine aw_aload_n X 1 dX12_number_31 rfl rfl ?_
      refine aw_getI X s_758 fX12_136 rfl dX12_number_32 (fun c11 => ?_)
      obtain ⟨q12, e13, hf⟩ := z_bd hf
      refine aw_callV X [z_i ((u2 q3.2 758 5 (q3.2 758 3)) 758 5)] [] [] cX12_147 s_758 ciX12 (C_X12_fails l D cA sa ad bs ((u2 q3.2 758 5 (q3.2 758 3)) 758 5) c11 (u2 q3.2 758 5 (q3.2 758 3)) q12 e13) rfl ⟨(Nat.le_of_ble_eq_true rfl), (Nat.le_of_ble_eq_true rfl), (Nat.le_of_ble_eq_true rfl), (Nat.le_of_ble_eq_true rfl)⟩ rfl (Nat.le_of_ble_eq_true rfl) rfl dX12_number_35 (fun p14 => ?_)
      refine aw_iload_n X 2 dX12_number_38 rfl rfl ?_
      obtain rfl := Option.some.inj hf
      exact aw_iret X c_v1 hr rfl dX12_number_39
  · rw [if_neg h2] at hf
    refine aw_iload_n X 1 dX12_number_8 rfl rfl ?_
    obtain rfl := Option.some.inj hf
    exact aw_iret X c_v1 hr rfl dX12_number_9
