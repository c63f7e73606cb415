-- SpeedDesk$Chip.hasCluster(I)Z
section S_X1_hasCluster
variable {p : Program} {l : Launch} {e : Env} {s : State} {m : MethodId} {args : Array Value} {below : List Frame} {meth : Method} {c : Code} {D : va_G} {cA : Nat → ClassId} {sa ad : Nat → Nat} {bs : Nat} {q : Int}

end S_X1_hasCluster
set_option maxHeartbeats 4000000 in
set_option maxRecDepth 100000 in
theorem C_X1_hasCluster (l : Launch) (D : va_G) (cA : Nat → ClassId) (sa ad : Nat → Nat) (bs : Nat) (a0 : Nat) (h_a0 : a0 ∈ ax_iX1) (v1 : Int) (c_v1 : Z_I v1) (σ : Nat → Nat → Int) (q : Int) (hf : f_X1_hasCluster a0 v1 σ = some q) : AM l D cA sa ad bs 788 SHp yX1_hasCluster cX1_hasCluster 2 (some .boolean) 0 [.ref (ad a0), z_i v1] σ (some (z_i q)) (q = 0 ∨ q = 1) σ := by
  refine am_of (by decide +kernel) (Nat.le_of_ble_eq_true rfl) (fun p e s m args below meth c X hr => ?_)
  refine aw_lv (lv' := [(0, .ref (ad a0)), (1, z_i v1)]) rfl ?_
  unfold f_X1_hasCluster at hf
  refine aw_iload_n X 1 dX1_hasCluster_0 rfl rfl ?_
  refine aw_if_lt X (tgt := 16) c_v1 dX1_hasCluster_1 (by decide) (fun h1 => ?_) (fun h1 => ?_)
  · rw [if_pos h1] at hf
    refine aw_iconst X dX1_hasCluster_16 ?_
    obtain rfl := Option.some.inj hf
    exact aw_zret X (Or.inl rfl) hr (Or.inl rfl) rfl dX1_hasCluster_17
  · rw [if_neg h1] at hf
    refine aw_iload_n X 1 dX1_hasCluster_4 rfl rfl ?_
    refine aw_aload_n X 0 dX1_hasCluster_5 rfl rfl ?_
    refine aw_getI X (sX1_0 a0 h_a0) fX1_51 rfl dX1_hasCluster_6 (fun c2 => ?_)
    refine aw_icmp_ge X (tgt := 16) c_v1 c2 dX1_hasCluster_9 (by decide) (fun h3 => ?_) (fun h3 => ?_)
    · rw [if_pos h3] at hf
      refine aw_iconst X dX1_hasCluster_16 ?_
      obtain rfl := Option.some.inj hf
      exact aw_zret X (Or.inl rfl) hr (Or.inl rfl) rfl dX1_hasCluster_17
    · rw [if_neg h3] at hf
      refine aw_iconst X dX1_hasCluster_12 ?_
      refine aw_goto X (tgt := 17) dX1_hasCluster_13 (by decide) ?_
      obtain rfl := Option.some.inj hf
      exact aw_zret X (Or.inr rfl) hr (Or.inr rfl) rfl dX1_hasCluster_17
-- SpeedDesk$Chip.addPoint(III)V
section S_X1_addPoint
variable {p : Program} {l : Launch} {e : Env} {s : State} {m : MethodId} {args : Array Value} {below : List Frame} {meth : Method} {c : Code} {D : va_G} {cA : Nat → ClassId} {sa ad : Nat → Nat} {bs : Nat} {q : (Nat → Nat → Int)}
set_option maxHeartbeats 4000000 in
set_option maxRecDepth 100000 in
theorem A_X1_addPoint_18 (X : AX p s m args meth c D cA sa bs cX1_addPoint 5 RX1) (hr : meth.sig.returnType = none) (a0 : Nat) (h_a0 : a0 ∈ ax_iX1) (v1 : Int) (c_v1 : Z_I v1) (v2 : Int) (c_v2 : Z_I v2) (v3 : Int) (c_v3 : Z_I v3) (t0 : Int) (c_t0 : Z_I t0) (σ : Nat → Nat → Int) (hf : f_X1_addPoint_18 a0 v1 v2 v3 t0 σ = some q) : AW p l e (ax_rm 1 0 0) s m args below meth c D cA ad bs 788 SHp 0 0 (ax_MQ below args s D cA ad bs 788 SHp 0 0 none True q) 5 18 [(0, .ref (ad a0)), (1, z_i v1), (2, z_i v2), (3, z_i v3)] [z_i t0] σ := by
  unfold f_X1_addPoint_18 at hf
  refine aw_istore X [(4, z_i t0), (0, .ref (ad a0)), (1, z_i v1), (2, z_i v2), (3, z_i v3)] dX1_addPoint_18 (by decide) rfl ?_
  refine aw_iload X 0 dX1_addPoint_20 rfl ?_
  refine aw_iconst X dX1_addPoint_22 ?_
  refine aw_icmp_lt X (tgt := 27) c_t0 (z_lit (x := 5) (by decide)) dX1_addPoint_23 (by decide) (fun h7 => ?_) (fun h7 => ?_)
  · rw [if_pos h7] at hf
    refine aw_aload_n X 1 dX1_addPoint_27 rfl rfl ?_
    refine aw_getR X (sX1_0 a0 h_a0) fX1_30 rfl dX1_addPoint_28 ?_
    refine aw_iload_n X 2 dX1_addPoint_31 rfl rfl ?_
    obtain ⟨g8, hf⟩ := z_gd hf
    refine aw_aald X (kd := 3) (sX1_6 a0 h_a0) (by decide) c_v1 g8.1 g8.2 (tg_pts7 a0 _ (by omega)) dX1_addPoint_32 ?_
    refine aw_iload X 0 dX1_addPoint_33 rfl ?_
    refine aw_iload_n X 3 dX1_addPoint_35 rfl rfl ?_
    obtain ⟨g9, hf⟩ := z_gd hf
    refine aw_iast X (j := t0.toNat) (sX1_pt7 a0 h_a0 v1.toNat (by omega)) c_t0 g9.1 g9.2 rfl c_v2 dX1_addPoint_36 ?_
    refine aw_aload_n X 1 dX1_addPoint_37 rfl rfl ?_
    refine aw_getR X (sX1_0 a0 h_a0) fX1_33 rfl dX1_addPoint_38 ?_
    refine aw_iload_n X 2 dX1_addPoint_41 rfl rfl ?_
    obtain ⟨g10, hf⟩ := z_gd hf
    refine aw_aald X (kd := 3) (sX1_10 a0 h_a0) (by decide) c_v1 g10.1 g10.2 (tg_pts11 a0 _ (by omega)) dX1_addPoint_42 ?_
    refine aw_iload X 0 dX1_addPoint_43 rfl ?_
    refine aw_iload_n X 4 dX1_addPoint_45 rfl rfl ?_
    obtain ⟨g11, hf⟩ := z_gd hf
    refine aw_iast X (j := t0.toNat) (sX1_pt11 a0 h_a0 v1.toNat (by omega)) c_t0 g11.1 g11.2 rfl c_v3 dX1_addPoint_46 ?_
    refine aw_aload_n X 1 dX1_addPoint_47 rfl rfl ?_
    refine aw_getR X (sX1_0 a0 h_a0) fX1_25 rfl dX1_addPoint_48 ?_
    refine aw_iload_n X 2 dX1_addPoint_51 rfl rfl ?_
    refine aw_iload X 0 dX1_addPoint_52 rfl ?_
    refine aw_iconst X dX1_addPoint_54 ?_
    refine aw_iadd X dX1_addPoint_55 ?_
    obtain ⟨g12, hf⟩ := z_gd hf
    refine aw_iast X (j := v1.toNat) (sX1_5 a0 h_a0) c_v1 g12.1 g12.2 rfl (z_w_in _) dX1_addPoint_56 ?_
    refine aw_aload_n X 1 dX1_addPoint_57 rfl rfl ?_
    refine aw_aload_n X 1 dX1_addPoint_58 rfl rfl ?_
    refine aw_getI X (sX1_0 a0 h_a0) fX1_61 rfl dX1_addPoint_59 (fun c13 => ?_)
    refine aw_iload_n X 3 dX1_addPoint_62 rfl rfl ?_
    refine aw_max X c13 c_v2 cX1_80 ⟨(Nat.le_of_ble_eq_true rfl), (Nat.le_of_ble_eq_true rfl), (Nat.le_of_ble_eq_true rfl), (Nat.le_of_ble_eq_true rfl)⟩ dX1_addPoint_63 ?_
    refine aw_putI X (sX1_0 a0 h_a0) pX1_61 rfl (z_max_in c13 c_v2) dX1_addPoint_66 ?_
    obtain rfl := Option.some.inj hf
    exact aw_vret X trivial hr rfl dX1_addPoint_69
  · rw [if_neg h7] at hf
    obtain rfl := Option.some.inj hf
    exact aw_vret X trivial hr rfl dX1_addPoint_26
end S_X1_addPoint
set_option maxHeartbeats 4000000 in
set_option maxRecDepth 100000 in
theorem C_X1_addPoint (l : Launch) (D : va_G) (cA : Nat → ClassId) (sa ad : Nat → Nat) (bs : Nat) (a0 : Nat) (h_a0 : a0 ∈ ax_iX1) (v1 : Int) (c_v1 : Z_I v1) (v2 : Int) (c_v2 : Z_I v2) (v3 : Int) (c_v3 : Z_I v3) (σ : Nat → Nat → Int) (q : (Nat → Nat → Int)) (hf : f_X1_addPoint a0 v1 v2 v3 σ = some q) : AM l D cA sa ad bs 788 SHp yX1_addPoint cX1_addPoint 5 none 1 [.ref (ad a0), z_i v1, z_i v2, z_i v3] σ none True q := by
  refine am_of (by decide +kernel) (Nat.le_of_ble_eq_true rfl) (fun p e s m args below meth c X hr => ?_)
  refine aw_lv (lv' := [(0, .ref (ad a0)), (1, z_i v1), (2, z_i v2), (3, z_i v3)]) rfl ?_
  unfold f_X1_addPoint at hf
  refine aw_aload_n X 0 dX1_addPoint_0 rfl rfl ?_
  refine aw_iload_n X 1 dX1_addPoint_1 rfl rfl ?_
  obtain ⟨q1, e2, hf⟩ := z_bd hf
  refine aw_callV X [z_i v1] [] [z_i q1] cX1_76 (sX1_0 a0 h_a0) ciX1 (C_X1_hasCluster l D cA sa ad bs a0 h_a0 v1 c_v1 σ q1 e2) rfl ⟨(Nat.le_of_ble_eq_true rfl), (Nat.le_of_ble_eq_true rfl), (Nat.le_of_ble_eq_true rfl), (Nat.le_of_ble_eq_true rfl)⟩ rfl (Nat.le_of_ble_eq_true rfl) rfl dX1_addPoint_2 (fun p3 => ?_)
  refine aw_if_eq X (tgt := 17) (z_zI p3) dX1_addPoint_5 (by decide) (fun h4 => ?_) (fun h4 => ?_)
  · rw [if_pos h4] at hf
    refine aw_iconst X dX1_addPoint_17 ?_
    exact A_X1_addPoint_18 X hr a0 h_a0 v1 c_v1 v2 c_v2 v3 c_v3 5 (z_lit (x := 5) (by decide)) σ hf
  · rw [if_neg h4] at hf
    refine aw_aload_n X 0 dX1_addPoint_8 rfl rfl ?_
    refine aw_getR X (sX1_0 a0 h_a0) fX1_25 rfl dX1_addPoint_9 ?_
    refine aw_iload_n X 1 dX1_addPoint_12 rfl rfl ?_
    obtain ⟨g5, hf⟩ := z_gd hf
    refine aw_iald X (j := v1.toNat) (sX1_5 a0 h_a0) c_v1 g5.1 g5.2 rfl dX1_addPoint_13 (fun c6 => ?_)
    refine aw_goto X (tgt := 18) dX1_addPoint_14 (by decide) ?_
    exact A_X1_addPoint_18 X hr a0 h_a0 v1 c_v1 v2 c_v2 v3 c_v3 (σ (a0 + 5) v1.toNat) c6 σ hf
-- SpeedDesk$Chip.addTask(JII)V
section S_X1_addTask
variable {p : Program} {l : Launch} {e : Env} {s : State} {m : MethodId} {args : Array Value} {below : List Frame} {meth : Method} {c : Code} {D : va_G} {cA : Nat → ClassId} {sa ad : Nat → Nat} {bs : Nat} {q : (Nat → Nat → Int)}

end S_X1_addTask
set_option maxHeartbeats 4000000 in
set_option maxRecDepth 100000 in
theorem C_X1_addTask (l : Launch) (D : va_G) (cA : Nat → ClassId) (sa ad : Nat → Nat) (bs : Nat) (a0 : Nat) (h_a0 : a0 ∈ ax_iX1) (v1 : Int) (c_v1 : Z_L v1) (v3 : Int) (c_v3 : Z_I v3) (v4 : Int) (c_v4 : Z_I v4) (σ : Nat → Nat → Int) (q : (Nat → Nat → Int)) (hf : f_X1_addTask a0 v1 v3 v4 σ = some q) : AM l D cA sa ad bs 788 SHp yX1_addTask cX1_addTask 5 none 0 [.ref (ad a0), z_v v1, z_i v3, z_i v4] σ none True q := by
  refine am_of (by decide +kernel) (Nat.le_of_ble_eq_true rfl) (fun p e s m args below meth c X hr => ?_)
  refine aw_lv (lv' := [(0, .ref (ad a0)), (1, z_v v1), (3, z_i v3), (4, z_i v4)]) rfl ?_
  unfold f_X1_addTask at hf
  refine aw_aload_n X 0 dX1_addTask_0 rfl rfl ?_
  refine aw_getI X (sX1_0 a0 h_a0) fX1_55 rfl dX1_addTask_1 (fun c1 => ?_)
  refine aw_iconst X dX1_addTask_4 ?_
  refine aw_icmp_lt X (tgt := 9) c1 (z_lit (x := 4) (by decide)) dX1_addTask_5 (by decide) (fun h2 => ?_) (fun h2 => ?_)
  · rw [if_pos h2] at hf
    refine aw_aload_n X 0 dX1_addTask_9 rfl rfl ?_
    refine aw_getR X (sX1_0 a0 h_a0) fX1_39 rfl dX1_addTask_10 ?_
    refine aw_aload_n X 0 dX1_addTask_13 rfl rfl ?_
    refine aw_getI X (sX1_0 a0 h_a0) fX1_55 rfl dX1_addTask_14 (fun c3 => ?_)
    refine aw_lload_n X 1 dX1_addTask_17 rfl rfl ?_
    obtain ⟨g4, hf⟩ := z_gd hf
    refine aw_last X (j := (σ a0 1).toNat) (sX1_15 a0 h_a0) c3 g4.1 g4.2 rfl c_v1 dX1_addTask_18 ?_
    refine aw_aload_n X 0 dX1_addTask_19 rfl rfl ?_
    refine aw_getR X (sX1_0 a0 h_a0) fX1_42 rfl dX1_addTask_20 ?_
    refine aw_aload_n X 0 dX1_addTask_23 rfl rfl ?_
    refine aw_getI X (sX1_0 a0 h_a0) fX1_55 rfl dX1_addTask_24 (fun c5 => ?_)
    refine aw_iload_n X 2 dX1_addTask_27 rfl rfl ?_
    obtain ⟨g6, hf⟩ := z_gd hf
    refine aw_iast X (j := ((u2 σ (a0 + 15) (σ a0 1).toNat v1) a0 1).toNat) (sX1_16 a0 h_a0) c5 g6.1 g6.2 rfl c_v3 dX1_addTask_28 ?_
    refine aw_aload_n X 0 dX1_addTask_29 rfl rfl ?_
    refine aw_getR X (sX1_0 a0 h_a0) fX1_45 rfl dX1_addTask_30 ?_
    refine aw_aload_n X 0 dX1_addTask_33 rfl rfl ?_
    refine aw_getI X (sX1_0 a0 h_a0) fX1_55 rfl dX1_addTask_34 (fun c7 => ?_)
    refine aw_iload X 3 dX1_addTask_37 rfl ?_
    obtain ⟨g8, hf⟩ := z_gd hf
    refine aw_iast X (j := ((u2 (u2 σ (a0 + 15) (σ a0 1).toNat v1) (a0 + 16) ((u2 σ (a0 + 15) (σ a0 1).toNat v1) a0 1).toNat v3) a0 1).toNat) (sX1_17 a0 h_a0) c7 g8.1 g8.2 rfl c_v4 dX1_addTask_39 ?_
    refine aw_aload_n X 0 dX1_addTask_40 rfl rfl ?_
    refine aw_dup X dX1_addTask_41 rfl ?_
    refine aw_getI X (sX1_0 a0 h_a0) fX1_55 rfl dX1_addTask_42 (fun c9 => ?_)
    refine aw_iconst X dX1_addTask_45 ?_
    refine aw_iadd X dX1_addTask_46 ?_
    refine aw_putI X (sX1_0 a0 h_a0) pX1_55 rfl (z_w_in _) dX1_addTask_47 ?_
    obtain rfl := Option.some.inj hf
    exact aw_vret X trivial hr rfl dX1_addTask_50
  · rw [if_neg h2] at hf
    obtain rfl := Option.some.inj hf
    exact aw_vret X trivial hr rfl dX1_addTask_8
-- SpeedDesk$Chip.isTold()Z
section S_X1_isTold
variable {p : Program} {l : Launch} {e : Env} {s : State} {m : MethodId} {args : Array Value} {below : List Frame} {meth : Method} {c : Code} {D : va_G} {cA : Nat → ClassId} {sa ad : Nat → Nat} {bs : Nat} {q : Int}

end S_X1_isTold
set_option maxHeartbeats 4000000 in
set_option maxRecDepth 100000 in
theorem C_X1_isTold (l : Launch) (D : va_G) (cA : Nat → ClassId) (sa ad : Nat → Nat) (bs : Nat) (a0 : Nat) (h_a0 : a0 ∈ ax_iX1) (σ : Nat → Nat → Int) (q : Int) (hf : f_X1_isTold a0 σ = some q) : AM l D cA sa ad bs 788 SHp yX1_isTold cX1_isTold 1 (some .boolean) 0 [.ref (ad a0)] σ (some (z_i q)) (q = 0 ∨ q = 1) σ := by
  refine am_of (by decide +kernel) (Nat.le_of_ble_eq_true rfl) (fun p e s m args below meth c X hr => ?_)
  refine aw_lv (lv' := [(0, .ref (ad a0))]) rfl ?_
  unfold f_X1_isTold at hf
  refine aw_aload_n X 0 dX1_isTold_0 rfl rfl ?_
  refine aw_getI X (sX1_0 a0 h_a0) fX1_51 rfl dX1_isTold_1 (fun c1 => ?_)
  refine aw_if_le X (tgt := 11) c1 dX1_isTold_4 (by decide) (fun h2 => ?_) (fun h2 => ?_)
  · rw [if_pos h2] at hf
    refine aw_iconst X dX1_isTold_11 ?_
    obtain rfl := Option.some.inj hf
    exact aw_zret X (Or.inl rfl) hr (Or.inl rfl) rfl dX1_isTold_12
  · rw [if_neg h2] at hf
    refine aw_iconst X dX1_isTold_7 ?_
    refine aw_goto X (tgt := 12) dX1_isTold_8 (by decide) ?_
    obtain rfl := Option.some.inj hf
    exact aw_zret X (Or.inr rfl) hr (Or.inr rfl) rfl dX1_isTold_12
-- SpeedDesk$Chip.isWhole()Z
section S_X1_isWhole
variable {p : Program} {l : Launch} {e : Env} {s : State} {m : MethodId} {args : Array Value} {below : List Frame} {meth : Method} {c : Code} {D : va_G} {cA : Nat → ClassId} {sa ad : Nat → Nat} {bs : Nat} {q : Int}
set_option maxHeartbeats 4000000 in
set_option maxRecDepth 100000 in
theorem A_X1_isWhole_2 (X : AX p s m args meth c D cA sa bs cX1_isWhole 2 RX1) (hr : meth.sig.returnType = (some .boolean)) (σ : Nat → Nat → Int) : ∀ (k : Nat) (a0 : Nat) (h_a0 : a0 ∈ ax_iX1) (v1 : Int) (c_v1 : Z_I v1), f_X1_isWhole_2 k a0 v1 σ = some q → AW p l e (ax_rm 0 0 0) s m args below meth c D cA ad bs 788 SHp 0 0 (ax_MQ below args s D cA ad bs 788 SHp 0 0 (some (z_i q)) (q = 0 ∨ q = 1) σ) 2 2 [(0, .ref (ad a0)), (1, z_i v1)] [] σ := by
  intro k
  induction k with
  | zero =>
    intro a0 h_a0 v1 c_v1 hf
    unfold f_X1_isWhole_2 at hf
    cases hf
  | succ k ih =>
    intro a0 h_a0 v1 c_v1 hf
    unfold f_X1_isWhole_2 at hf
    refine aw_iload_n X 1 dX1_isWhole_2 rfl rfl ?_
    refine aw_aload_n X 0 dX1_isWhole_3 rfl rfl ?_
    refine aw_getI X (sX1_0 a0 h_a0) fX1_51 rfl dX1_isWhole_4 (fun c1 => ?_)
    refine aw_icmp_ge X (tgt := 27) c_v1 c1 dX1_isWhole_7 (by decide) (fun h2 => ?_) (fun h2 => ?_)
    · rw [if_pos h2] at hf
      refine aw_aload_n X 0 dX1_isWhole_27 rfl rfl ?_
      refine aw_getI X (sX1_0 a0 h_a0) fX1_51 rfl dX1_isWhole_28 (fun c3 => ?_)
      refine aw_if_le X (tgt := 38) c3 dX1_isWhole_31 (by decide) (fun h4 => ?_) (fun h4 => ?_)
      · rw [if_pos h4] at hf
        refine aw_iconst X dX1_isWhole_38 ?_
        obtain rfl := Option.some.inj hf
        exact aw_zret X (Or.inl rfl) hr (Or.inl rfl) rfl dX1_isWhole_39
      · rw [if_neg h4] at hf
        refine aw_iconst X dX1_isWhole_34 ?_
        refine aw_goto X (tgt := 39) dX1_isWhole_35 (by decide) ?_
        obtain rfl := Option.some.inj hf
        exact aw_zret X (Or.inr rfl) hr (Or.inr rfl) rfl dX1_isWhole_39
    · rw [if_neg h2] at hf
      refine aw_aload_n X 0 dX1_isWhole_10 rfl rfl ?_
      refine aw_getR X (sX1_0 a0 h_a0) fX1_25 rfl dX1_isWhole_11 ?_
      refine aw_iload_n X 1 dX1_isWhole_14 rfl rfl ?_
      obtain ⟨g5, hf⟩ := z_gd hf
      refine aw_iald X (j := v1.toNat) (sX1_5 a0 h_a0) c_v1 g5.1 g5.2 rfl dX1_isWhole_15 (fun c6 => ?_)
      refine aw_if_ne X (tgt := 21) c6 dX1_isWhole_16 (by decide) (fun h7 => ?_) (fun h7 => ?_)
      · rw [if_neg h7] at hf
        refine aw_iinc X 1 [(1, z_i (z_w (v1 + 1))), (0, .ref (ad a0))] dX1_isWhole_21 rfl (by decide) rfl ?_
        refine aw_goto X (tgt := 2) dX1_isWhole_24 (by decide) ?_
        refine aw_sub [1, 0] rfl ?_
        exact ih a0 h_a0 (z_w (v1 + 1)) (z_w_in _) hf
      · rw [if_pos h7] at hf
        refine aw_iconst X dX1_isWhole_19 ?_
        obtain rfl := Option.some.inj hf
        exact aw_zret X (Or.inl rfl) hr (Or.inl rfl) rfl dX1_isWhole_20
end S_X1_isWhole
set_option maxHeartbeats 4000000 in
set_option maxRecDepth 100000 in
theorem C_X1_isWhole (l : Launch) (D : va_G) (cA : Nat → ClassId) (sa ad : Nat → Nat) (bs : Nat) (a0 : Nat) (h_a0 : a0 ∈ ax_iX1) (σ : Nat → Nat → Int) (q : Int) (hf : f_X1_isWhole a0 σ = some q) : AM l D cA sa ad bs 788 SHp yX1_isWhole cX1_isWhole 2 (some .boolean) 0 [.ref (ad a0)] σ (some (z_i q)) (q = 0 ∨ q = 1) σ := by
  refine am_of (by decide +kernel) (Nat.le_of_ble_eq_true rfl) (fun p e s m args below meth c X hr => ?_)
  refine aw_lv (lv' := [(0, .ref (ad a0))]) rfl ?_
  unfold f_X1_isWhole at hf
  refine aw_iconst X dX1_isWhole_0 ?_
  refine aw_istore_n X [(1, z_i 0), (0, .ref (ad a0))] dX1_isWhole_1 rfl (by decide) rfl ?_
  refine aw_sub [1, 0] rfl ?_
  exact A_X1_isWhole_2 X hr σ 100000 a0 h_a0 0 (z_lit (x := 0) (by decide)) hf
-- SpeedDesk$Chip.hasPoint(II)Z
section S_X1_hasPoint
variable {p : Program} {l : Launch} {e : Env} {s : State} {m : MethodId} {args : Array Value} {below : List Frame} {meth : Method} {c : Code} {D : va_G} {cA : Nat → ClassId} {sa ad : Nat → Nat} {bs : Nat} {q : Int}

end S_X1_hasPoint
set_option maxHeartbeats 4000000 in
set_option maxRecDepth 100000 in
theorem C_X1_hasPoint (l : Launch) (D : va_G) (cA : Nat → ClassId) (sa ad : Nat → Nat) (bs : Nat) (a0 : Nat) (h_a0 : a0 ∈ ax_iX1) (v1 : Int) (c_v1 : Z_I v1) (v2 : Int) (c_v2 : Z_I v2) (σ : Nat → Nat → Int) (q : Int) (hf : f_X1_hasPoint a0 v1 v2 σ = some q) : AM l D cA sa ad bs 788 SHp yX1_hasPoint cX1_hasPoint 3 (some .boolean) 0 [.ref (ad a0), z_i v1, z_i v2] σ (some (z_i q)) (q = 0 ∨ q = 1) σ := by
  refine am_of (by decide +kernel) (Nat.le_of_ble_eq_true rfl) (fun p e s m args below meth c X hr => ?_)
  refine aw_lv (lv' := [(0, .ref (ad a0)), (1, z_i v1), (2, z_i v2)]) rfl ?_
  unfold f_X1_hasPoint at hf
  refine aw_iload_n X 1 dX1_hasPoint_0 rfl rfl ?_
  refine aw_if_lt X (tgt := 30) c_v1 dX1_hasPoint_1 (by decide) (fun h1 => ?_) (fun h1 => ?_)
  · rw [if_pos h1] at hf
    refine aw_iconst X dX1_hasPoint_30 ?_
    obtain rfl := Option.some.inj hf
    exact aw_zret X (Or.inl rfl) hr (Or.inl rfl) rfl dX1_hasPoint_31
  · rw [if_neg h1] at hf
    refine aw_iload_n X 1 dX1_hasPoint_4 rfl rfl ?_
    refine aw_aload_n X 0 dX1_hasPoint_5 rfl rfl ?_
    refine aw_getI X (sX1_0 a0 h_a0) fX1_51 rfl dX1_hasPoint_6 (fun c2 => ?_)
    refine aw_icmp_ge X (tgt := 30) c_v1 c2 dX1_hasPoint_9 (by decide) (fun h3 => ?_) (fun h3 => ?_)
    · rw [if_pos h3] at hf
      refine aw_iconst X dX1_hasPoint_30 ?_
      obtain rfl := Option.some.inj hf
      exact aw_zret X (Or.inl rfl) hr (Or.inl rfl) rfl dX1_hasPoint_31
    · rw [if_neg h3] at hf
      refine aw_iload_n X 2 dX1_hasPoint_12 rfl rfl ?_
      refine aw_if_lt X (tgt := 30) c_v2 dX1_hasPoint_13 (by decide) (fun h4 => ?_) (fun h4 => ?_)
      · rw [if_pos h4] at hf
        refine aw_iconst X dX1_hasPoint_30 ?_
        obtain rfl := Option.some.inj hf
        exact aw_zret X (Or.inl rfl) hr (Or.inl rfl) rfl dX1_hasPoint_31
      · rw [if_neg h4] at hf
        refine aw_iload_n X 2 dX1_hasPoint_16 rfl rfl ?_
        refine aw_aload_n X 0 dX1_hasPoint_17 rfl rfl ?_
        refine aw_getR X (sX1_0 a0 h_a0) fX1_25 rfl dX1_hasPoint_18 ?_
        refine aw_iload_n X 1 dX1_hasPoint_21 rfl rfl ?_
        obtain ⟨g5, hf⟩ := z_gd hf
        refine aw_iald X (j := v1.toNat) (sX1_5 a0 h_a0) c_v1 g5.1 g5.2 rfl dX1_hasPoint_22 (fun c6 => ?_)
        refine aw_icmp_ge X (tgt := 30) c_v2 c6 dX1_hasPoint_23 (by decide) (fun h7 => ?_) (fun h7 => ?_)
        · rw [if_pos h7] at hf
          refine aw_iconst X dX1_hasPoint_30 ?_
          obtain rfl := Option.some.inj hf
          exact aw_zret X (Or.inl rfl) hr (Or.inl rfl) rfl dX1_hasPoint_31
        · rw [if_neg h7] at hf
          refine aw_iconst X dX1_hasPoint_26 ?_
          refine aw_goto X (tgt := 31) dX1_hasPoint_27 (by decide) ?_
          obtain rfl := Option.some.inj hf
          exact aw_zret X (Or.inr rfl) hr (Or.inr rfl) rfl dX1_hasPoint_31
-- SpeedDesk$Chip.hasCore(I)Z
section S_X1_hasCore
variable {p : Program} {l : Launch} {e : Env} {s : State} {m : MethodId} {args : Array Value} {below : List Frame} {meth : Method} {c : Code} {D : va_G} {cA : Nat → ClassId} {sa ad : Nat → Nat} {bs : Nat} {q : Int}

end S_X1_hasCore
set_option maxHeartbeats 4000000 in
set_option maxRecDepth 100000 in
theorem C_X1_hasCore (l : Launch) (D : va_G) (cA : Nat → ClassId) (sa ad : Nat → Nat) (bs : Nat) (a0 : Nat) (h_a0 : a0 ∈ ax_iX1) (v1 : Int) (c_v1 : Z_I v1) (σ : Nat → Nat → Int) (q : Int) (hf : f_X1_hasCore a0 v1 σ = some q) : AM l D cA sa ad bs 788 SHp yX1_hasCore cX1_hasCore 2 (some .boolean) 0 [.ref (ad a0), z_i v1] σ (some (z_i q)) (q = 0 ∨ q = 1) σ := by
  refine am_of (by decide +kernel) (Nat.le_of_ble_eq_true rfl) (fun p e s m args below meth c X hr => ?_)
  refine aw_lv (lv' := [(0, .ref (ad a0)), (1, z_i v1)]) rfl ?_
  unfold f_X1_hasCore at hf
  refine aw_iload_n X 1 dX1_hasCore_0 rfl rfl ?_
  refine aw_if_lt X (tgt := 16) c_v1 dX1_hasCore_1 (by decide) (fun h1 => ?_) (fun h1 => ?_)
  · rw [if_pos h1] at hf
    refine aw_iconst X dX1_hasCore_16 ?_
    obtain rfl := Option.some.inj hf
    exact aw_zret X (Or.inl rfl) hr (Or.inl rfl) rfl dX1_hasCore_17
  · rw [if_neg h1] at hf
    refine aw_iload_n X 1 dX1_hasCore_4 rfl rfl ?_
    refine aw_aload_n X 0 dX1_hasCore_5 rfl rfl ?_
    refine aw_getI X (sX1_0 a0 h_a0) fX1_58 rfl dX1_hasCore_6 (fun c2 => ?_)
    refine aw_icmp_ge X (tgt := 16) c_v1 c2 dX1_hasCore_9 (by decide) (fun h3 => ?_) (fun h3 => ?_)
    · rw [if_pos h3] at hf
      refine aw_iconst X dX1_hasCore_16 ?_
      obtain rfl := Option.some.inj hf
      exact aw_zret X (Or.inl rfl) hr (Or.inl rfl) rfl dX1_hasCore_17
    · rw [if_neg h3] at hf
      refine aw_iconst X dX1_hasCore_12 ?_
      refine aw_goto X (tgt := 17) dX1_hasCore_13 (by decide) ?_
      obtain rfl := Option.some.inj hf
      exact aw_zret X (Or.inr rfl) hr (Or.inr rfl) rfl dX1_hasCore_17
-- SpeedDesk$Chip.hasTask(I)Z
section S_X1_hasTask
variable {p : Program} {l : Launch} {e : Env} {s : State} {m : MethodId} {args : Array Value} {below : List Frame} {meth : Method} {c : Code} {D : va_G} {cA : Nat → ClassId} {sa ad : Nat → Nat} {bs : Nat} {q : Int}

end S_X1_hasTask
set_option maxHeartbeats 4000000 in
set_option maxRecDepth 100000 in
theorem C_X1_hasTask (l : Launch) (D : va_G) (cA : Nat → ClassId) (sa ad : Nat → Nat) (bs : Nat) (a0 : Nat) (h_a0 : a0 ∈ ax_iX1) (v1 : Int) (c_v1 : Z_I v1) (σ : Nat → Nat → Int) (q : Int) (hf : f_X1_hasTask a0 v1 σ = some q) : AM l D cA sa ad bs 788 SHp yX1_hasTask cX1_hasTask 2 (some .boolean) 0 [.ref (ad a0), z_i v1] σ (some (z_i q)) (q = 0 ∨ q = 1) σ := by
  refine am_of (by decide +kernel) (Nat.le_of_ble_eq_true rfl) (fun p e s m args below meth c X hr => ?_)
  refine aw_lv (lv' := [(0, .ref (ad a0)), (1, z_i v1)]) rfl ?_
  unfold f_X1_hasTask at hf
  refine aw_iload_n X 1 dX1_hasTask_0 rfl rfl ?_
  refine aw_if_lt X (tgt := 16) c_v1 dX1_hasTask_1 (by decide) (fun h1 => ?_) (fun h1 => ?_)
  · rw [if_pos h1] at hf
    refine aw_iconst X dX1_hasTask_16 ?_
    obtain rfl := Option.some.inj hf
    exact aw_zret X (Or.inl rfl) hr (Or.inl rfl) rfl dX1_hasTask_17
  · rw [if_neg h1] at hf
    refine aw_iload_n X 1 dX1_hasTask_4 rfl rfl ?_
    refine aw_aload_n X 0 dX1_hasTask_5 rfl rfl ?_
    refine aw_getI X (sX1_0 a0 h_a0) fX1_55 rfl dX1_hasTask_6 (fun c2 => ?_)
    refine aw_icmp_ge X (tgt := 16) c_v1 c2 dX1_hasTask_9 (by decide) (fun h3 => ?_) (fun h3 => ?_)
    · rw [if_pos h3] at hf
      refine aw_iconst X dX1_hasTask_16 ?_
      obtain rfl := Option.some.inj hf
      exact aw_zret X (Or.inl rfl) hr (Or.inl rfl) rfl dX1_hasTask_17
    · rw [if_neg h3] at hf
      refine aw_iconst X dX1_hasTask_12 ?_
      refine aw_goto X (tgt := 17) dX1_hasTask_13 (by decide) ?_
      obtain rfl := Option.some.inj hf
      exact aw_zret X (Or.inr rfl) hr (Or.inr rfl) rfl dX1_hasTask_17
-- SpeedDesk$Chip.clusterNamed(J)I
section S_X1_clusterNamed
variable {p : Program} {l : Launch} {e : Env} {s : State} {m : MethodId} {args : Array Value} {below : List Frame} {meth : Method} {c : Code} {D : va_G} {cA : Nat → ClassId} {sa ad : Nat → Nat} {bs : Nat} {q : Int}
set_option maxHeartbeats 4000000 in
set_option maxRecDepth 100000 in
theorem A_X1_clusterNamed_2 (X : AX p s m args meth c D cA sa bs cX1_clusterNamed 4 RX1) (hr : meth.sig.returnType = (some .int)) (σ : Nat → Nat → Int) : ∀ (k : Nat) (a0 : Nat) (h_a0 : a0 ∈ ax_iX1) (v1 : Int) (c_v1 : Z_L v1) (v3 : Int) (c_v3 : Z_I v3), f_X1_clusterNamed_2 k a0 v1 v3 σ = some q → AW p l e (ax_rm 0 0 0) s m args below meth c D cA ad bs 788 SHp 0 0 (ax_MQ below args s D cA ad bs 788 SHp 0 0 (some (z_i q)) (Z_I q) σ) 4 2 [(0, .ref (ad a0)), (1, z_v v1), (3, z_i v3)] [] σ := by
  intro k
  induction k with
  | zero =>
    intro a0 h_a0 v1 c_v1 v3 c_v3 hf
    unfold f_X1_clusterNamed_2 at hf
    cases hf
  | succ k ih =>
    intro a0 h_a0 v1 c_v1 v3 c_v3 hf
    unfold f_X1_clusterNamed_2 at hf
    refine aw_iload_n X 2 dX1_clusterNamed_2 rfl rfl ?_
    refine aw_aload_n X 0 dX1_clusterNamed_3 rfl rfl ?_
    refine aw_getI X (sX1_0 a0 h_a0) fX1_51 rfl dX1_clusterNamed_4 (fun c1 => ?_)
    refine aw_icmp_ge X (tgt := 29) c_v3 c1 dX1_clusterNamed_7 (by decide) (fun h2 => ?_) (fun h2 => ?_)
    · rw [if_pos h2] at hf
      refine aw_iconst X dX1_clusterNamed_29 ?_
      obtain rfl := Option.some.inj hf
      exact aw_iret X (z_lit (x := (-1)) (by decide)) hr rfl dX1_clusterNamed_30
    · rw [if_neg h2] at hf
      refine aw_aload_n X 0 dX1_clusterNamed_10 rfl rfl ?_
      refine aw_getR X (sX1_0 a0 h_a0) fX1_9 rfl dX1_clusterNamed_11 ?_
      refine aw_iload_n X 2 dX1_clusterNamed_14 rfl rfl ?_
      obtain ⟨g3, hf⟩ := z_gd hf
      refine aw_lald X (j := v3.toNat) (sX1_1 a0 h_a0) c_v3 g3.1 g3.2 rfl dX1_clusterNamed_15 (fun c4 => ?_)
      refine aw_lload_n X 1 dX1_clusterNamed_16 rfl rfl ?_
      refine aw_lcmp X c4 c_v1 dX1_clusterNamed_17 ?_
      refine aw_if_ne X (tgt := 23) (z_cmp_in _ _) dX1_clusterNamed_18 (by decide) (fun h5 => ?_) (fun h5 => ?_)
      · rw [if_neg h5] at hf
        refine aw_iinc X 2 [(3, z_i (z_w (v3 + 1))), (0, .ref (ad a0)), (1, z_v v1)] dX1_clusterNamed_23 rfl (by decide) rfl ?_
        refine aw_goto X (tgt := 2) dX1_clusterNamed_26 (by decide) ?_
        refine aw_sub [1, 2, 0] rfl ?_
        exact ih a0 h_a0 v1 c_v1 (z_w (v3 + 1)) (z_w_in _) hf
      · rw [if_pos h5] at hf
        refine aw_iload_n X 2 dX1_clusterNamed_21 rfl rfl ?_
        obtain rfl := Option.some.inj hf
        exact aw_iret X c_v3 hr rfl dX1_clusterNamed_22
end S_X1_clusterNamed
set_option maxHeartbeats 4000000 in
set_option maxRecDepth 100000 in
theorem C_X1_clusterNamed (l : Launch) (D : va_G) (cA : Nat → ClassId) (sa ad : Nat → Nat) (bs : Nat) (a0 : Nat) (h_a0 : a0 ∈ ax_iX1) (v1 : Int) (c_v1 : Z_L v1) (σ : Nat → Nat → Int) (q : Int) (hf : f_X1_clusterNamed a0 v1 σ = some q) : AM l D cA sa ad bs 788 SHp yX1_clusterNamed cX1_clusterNamed 4 (some .int) 0 [.ref (ad a0), z_v v1] σ (some (z_i q)) (Z_I q) σ := by
  refine am_of (by decide +kernel) (Nat.le_of_ble_eq_true rfl) (fun p e s m args below meth c X hr => ?_)
  refine aw_lv (lv' := [(0, .ref (ad a0)), (1, z_v v1)]) rfl ?_
  unfold f_X1_clusterNamed at hf
  refine aw_iconst X dX1_clusterNamed_0 ?_
  refine aw_istore_n X [(3, z_i 0), (0, .ref (ad a0)), (1, z_v v1)] dX1_clusterNamed_1 rfl (by decide) rfl ?_
  refine aw_sub [1, 2, 0] rfl ?_
  exact A_X1_clusterNamed_2 X hr σ 100000 a0 h_a0 v1 c_v1 0 (z_lit (x := 0) (by decide)) hf
-- SpeedDesk$Chip.hasName(J)Z
section S_X1_hasName
variable {p : Program} {l : Launch} {e : Env} {s : State} {m : MethodId} {args : Array Value} {below : List Frame} {meth : Method} {c : Code} {D : va_G} {cA : Nat → ClassId} {sa ad : Nat → Nat} {bs : Nat} {q : Int}
set_option maxHeartbeats 4000000 in
set_option maxRecDepth 100000 in
theorem A_X1_hasName_2 (X : AX p s m args meth c D cA sa bs cX1_hasName 4 RX1) (hr : meth.sig.returnType = (some .boolean)) (σ : Nat → Nat → Int) : ∀ (k : Nat) (a0 : Nat) (h_a0 : a0 ∈ ax_iX1) (v1 : Int) (c_v1 : Z_L v1) (v3 : Int) (c_v3 : Z_I v3), f_X1_hasName_2 k a0 v1 v3 σ = some q → AW p l e (ax_rm 1 0 0) s m args below meth c D cA ad bs 788 SHp 0 0 (ax_MQ below args s D cA ad bs 788 SHp 0 0 (some (z_i q)) (q = 0 ∨ q = 1) σ) 4 2 [(0, .ref (ad a0)), (1, z_v v1), (3, z_i v3)] [] σ := by
  intro k
  induction k with
  | zero =>
    intro a0 h_a0 v1 c_v1 v3 c_v3 hf
    unfold f_X1_hasName_2 at hf
    cases hf
  | succ k ih =>
    intro a0 h_a0 v1 c_v1 v3 c_v3 hf
    unfold f_X1_hasName_2 at hf
    refine aw_iload_n X 2 dX1_hasName_2 rfl rfl ?_
    refine aw_aload_n X 0 dX1_hasName_3 rfl rfl ?_
    refine aw_getI X (sX1_0 a0 h_a0) fX1_55 rfl dX1_hasName_4 (fun c1 => ?_)
    refine aw_icmp_ge X (tgt := 29) c_v3 c1 dX1_hasName_7 (by decide) (fun h2 => ?_) (fun h2 => ?_)
    · rw [if_pos h2] at hf
      refine aw_aload_n X 0 dX1_hasName_29 rfl rfl ?_
      refine aw_lload_n X 1 dX1_hasName_30 rfl rfl ?_
      obtain ⟨q3, e4, hf⟩ := z_bd hf
      refine aw_callV X [z_v v1] [] [z_i q3] cX1_86 (sX1_0 a0 h_a0) ciX1 (C_X1_clusterNamed l D cA sa ad bs a0 h_a0 v1 c_v1 σ q3 e4) rfl ⟨(Nat.le_of_ble_eq_true rfl), (Nat.le_of_ble_eq_true rfl), (Nat.le_of_ble_eq_true rfl), (Nat.le_of_ble_eq_true rfl)⟩ rfl (Nat.le_of_ble_eq_true rfl) rfl dX1_hasName_31 (fun p5 => ?_)
      refine aw_iconst X dX1_hasName_34 ?_
      refine aw_icmp_eq X (tgt := 42) p5 (z_lit (x := (-1)) (by decide)) dX1_hasName_35 (by decide) (fun h6 => ?_) (fun h6 => ?_)
      · rw [if_pos h6] at hf
        refine aw_iconst X dX1_hasName_42 ?_
        obtain rfl := Option.some.inj hf
        exact aw_zret X (Or.inl rfl) hr (Or.inl rfl) rfl dX1_hasName_43
      · rw [if_neg h6] at hf
        refine aw_iconst X dX1_hasName_38 ?_
        refine aw_goto X (tgt := 43) dX1_hasName_39 (by decide) ?_
        obtain rfl := Option.some.inj hf
        exact aw_zret X (Or.inr rfl) hr (Or.inr rfl) rfl dX1_hasName_43
    · rw [if_neg h2] at hf
      refine aw_aload_n X 0 dX1_hasName_10 rfl rfl ?_
      refine aw_getR X (sX1_0 a0 h_a0) fX1_39 rfl dX1_hasName_11 ?_
      refine aw_iload_n X 2 dX1_hasName_14 rfl rfl ?_
      obtain ⟨g7, hf⟩ := z_gd hf
      refine aw_lald X (j := v3.toNat) (sX1_15 a0 h_a0) c_v3 g7.1 g7.2 rfl dX1_hasName_15 (fun c8 => ?_)
      refine aw_lload_n X 1 dX1_hasName_16 rfl rfl ?_
      refine aw_lcmp X c8 c_v1 dX1_hasName_17 ?_
      refine aw_if_ne X (tgt := 23) (z_cmp_in _ _) dX1_hasName_18 (by decide) (fun h9 => ?_) (fun h9 => ?_)
      · rw [if_neg h9] at hf
        refine aw_iinc X 2 [(3, z_i (z_w (v3 + 1))), (0, .ref (ad a0)), (1, z_v v1)] dX1_hasName_23 rfl (by decide) rfl ?_
        refine aw_goto X (tgt := 2) dX1_hasName_26 (by decide) ?_
        refine aw_sub [1, 2, 0] rfl ?_
        exact ih a0 h_a0 v1 c_v1 (z_w (v3 + 1)) (z_w_in _) hf
      · rw [if_pos h9] at hf
        refine aw_iconst X dX1_hasName_21 ?_
        obtain rfl := Option.some.inj hf
        exact aw_zret X (Or.inr rfl) hr (Or.inr rfl) rfl dX1_hasName_22
end S_X1_hasName
set_option maxHeartbeats 4000000 in
set_option maxRecDepth 100000 in
theorem C_X1_hasName (l : Launch) (D : va_G) (cA : Nat → ClassId) (sa ad : Nat → Nat) (bs : Nat) (a0 : Nat) (h_a0 : a0 ∈ ax_iX1) (v1 : Int) (c_v1 : Z_L v1) (σ : Nat → Nat → Int) (q : Int) (hf : f_X1_hasName a0 v1 σ = some q) : AM l D cA sa ad bs 788 SHp yX1_hasName cX1_hasName 4 (some .boolean) 1 [.ref (ad a0), z_v v1] σ (some (z_i q)) (q = 0 ∨ q = 1) σ := by
  refine am_of (by decide +kernel) (Nat.le_of_ble_eq_true rfl) (fun p e s m args below meth c X hr => ?_)
  refine aw_lv (lv' := [(0, .ref (ad a0)), (1, z_v v1)]) rfl ?_
  unfold f_X1_hasName at hf
  refine aw_iconst X dX1_hasName_0 ?_
  refine aw_istore_n X [(3, z_i 0), (0, .ref (ad a0)), (1, z_v v1)] dX1_hasName_1 rfl (by decide) rfl ?_
  refine aw_sub [1, 2, 0] rfl ?_
  exact A_X1_hasName_2 X hr σ 100000 a0 h_a0 v1 c_v1 0 (z_lit (x := 0) (by decide)) hf
-- SpeedDesk$Chip.lastSpeed(I)I
section S_X1_lastSpeed
variable {p : Program} {l : Launch} {e : Env} {s : State} {m : MethodId} {args : Array Value} {below : List Frame} {meth : Method} {c : Code} {D : va_G} {cA : Nat → ClassId} {sa ad : Nat → Nat} {bs : Nat} {q : Int}
set_option maxHeartbeats 4000000 in
set_option maxRecDepth 100000 in
theorem A_X1_lastSpeed_20 (X : AX p s m args meth c D cA sa bs cX1_lastSpeed 3 RX1) (hr : meth.sig.returnType = (some .int)) (σ : Nat → Nat → Int) (a0 : Nat) (h_a0 : a0 ∈ ax_iX1) (v1 : Int) (c_v1 : Z_I v1) (t0 : Int) (c_t0 : Z_I t0) (hf : f_X1_lastSpeed_20 a0 v1 t0 σ = some q) : AW p l e (ax_rm 1 0 0) s m args below meth c D cA ad bs 788 SHp 0 0 (ax_MQ below args s D cA ad bs 788 SHp 0 0 (some (z_i q)) (Z_I q) σ) 3 20 [(0, .ref (ad a0)), (1, z_i v1)] [z_i t0] σ := by
  unfold f_X1_lastSpeed_20 at hf
  refine aw_istore_n X [(2, z_i t0), (0, .ref (ad a0)), (1, z_i v1)] dX1_lastSpeed_20 rfl (by decide) rfl ?_
  refine aw_aload_n X 1 dX1_lastSpeed_21 rfl rfl ?_
  refine aw_iload_n X 2 dX1_lastSpeed_22 rfl rfl ?_
  refine aw_iload_n X 0 dX1_lastSpeed_23 rfl rfl ?_
  obtain ⟨q7, e8, hf⟩ := z_bd hf
  refine aw_callV X [z_i v1, z_i t0] [] [z_i q7] cX1_90 (sX1_0 a0 h_a0) ciX1 (C_X1_hasPoint l D cA sa ad bs a0 h_a0 v1 c_v1 t0 c_t0 σ q7 e8) rfl ⟨(Nat.le_of_ble_eq_true rfl), (Nat.le_of_ble_eq_true rfl), (Nat.le_of_ble_eq_true rfl), (Nat.le_of_ble_eq_true rfl)⟩ rfl (Nat.le_of_ble_eq_true rfl) rfl dX1_lastSpeed_24 (fun p9 => ?_)
  refine aw_if_eq X (tgt := 41) (z_zI p9) dX1_lastSpeed_27 (by decide) (fun h10 => ?_) (fun h10 => ?_)
  · rw [if_pos h10] at hf
    refine aw_iconst X dX1_lastSpeed_41 ?_
    obtain rfl := Option.some.inj hf
    exact aw_iret X (z_lit (x := 0) (by decide)) hr rfl dX1_lastSpeed_42
  · rw [if_neg h10] at hf
    refine aw_aload_n X 1 dX1_lastSpeed_30 rfl rfl ?_
    refine aw_getR X (sX1_0 a0 h_a0) fX1_30 rfl dX1_lastSpeed_31 ?_
    refine aw_iload_n X 2 dX1_lastSpeed_34 rfl rfl ?_
    obtain ⟨g11, hf⟩ := z_gd hf
    refine aw_aald X (kd := 3) (sX1_6 a0 h_a0) (by decide) c_v1 g11.1 g11.2 (tg_pts7 a0 _ (by omega)) dX1_lastSpeed_35 ?_
    refine aw_iload_n X 0 dX1_lastSpeed_36 rfl rfl ?_
    obtain ⟨g12, hf⟩ := z_gd hf
    refine aw_iald X (j := t0.toNat) (sX1_pt7 a0 h_a0 v1.toNat (by omega)) c_t0 g12.1 g12.2 rfl dX1_lastSpeed_37 (fun c13 => ?_)
    refine aw_goto X (tgt := 42) dX1_lastSpeed_38 (by decide) ?_
    obtain rfl := Option.some.inj hf
    exact aw_iret X c13 hr rfl dX1_lastSpeed_42
end S_X1_lastSpeed
set_option maxHeartbeats 4000000 in
set_option maxRecDepth 100000 in
theorem C_X1_lastSpeed (l : Launch) (D : va_G) (cA : Nat → ClassId) (sa ad : Nat → Nat) (bs : Nat) (a0 : Nat) (h_a0 : a0 ∈ ax_iX1) (v1 : Int) (c_v1 : Z_I v1) (σ : Nat → Nat → Int) (q : Int) (hf : f_X1_lastSpeed a0 v1 σ = some q) : AM l D cA sa ad bs 788 SHp yX1_lastSpeed cX1_lastSpeed 3 (some .int) 1 [.ref (ad a0), z_i v1] σ (some (z_i q)) (Z_I q) σ := by
  refine am_of (by decide +kernel) (Nat.le_of_ble_eq_true rfl) (fun p e s m args below meth c X hr => ?_)
  refine aw_lv (lv' := [(0, .ref (ad a0)), (1, z_i v1)]) rfl ?_
  unfold f_X1_lastSpeed at hf
  refine aw_aload_n X 0 dX1_lastSpeed_0 rfl rfl ?_
  refine aw_iload_n X 1 dX1_lastSpeed_1 rfl rfl ?_
  obtain ⟨q1, e2, hf⟩ := z_bd hf
  refine aw_callV X [z_i v1] [] [z_i q1] cX1_76 (sX1_0 a0 h_a0) ciX1 (C_X1_hasCluster l D cA sa ad bs a0 h_a0 v1 c_v1 σ q1 e2) rfl ⟨(Nat.le_of_ble_eq_true rfl), (Nat.le_of_ble_eq_true rfl), (Nat.le_of_ble_eq_true rfl), (Nat.le_of_ble_eq_true rfl)⟩ rfl (Nat.le_of_ble_eq_true rfl) rfl dX1_lastSpeed_2 (fun p3 => ?_)
  refine aw_if_eq X (tgt := 19) (z_zI p3) dX1_lastSpeed_5 (by decide) (fun h4 => ?_) (fun h4 => ?_)
  · rw [if_pos h4] at hf
    refine aw_iconst X dX1_lastSpeed_19 ?_
    exact A_X1_lastSpeed_20 X hr σ a0 h_a0 v1 c_v1 (-1) (z_lit (x := (-1)) (by decide)) hf
  · rw [if_neg h4] at hf
    refine aw_aload_n X 0 dX1_lastSpeed_8 rfl rfl ?_
    refine aw_getR X (sX1_0 a0 h_a0) fX1_25 rfl dX1_lastSpeed_9 ?_
    refine aw_iload_n X 1 dX1_lastSpeed_12 rfl rfl ?_
    obtain ⟨g5, hf⟩ := z_gd hf
    refine aw_iald X (j := v1.toNat) (sX1_5 a0 h_a0) c_v1 g5.1 g5.2 rfl dX1_lastSpeed_13 (fun c6 => ?_)
    refine aw_iconst X dX1_lastSpeed_14 ?_
    refine aw_isub X dX1_lastSpeed_15 ?_
    refine aw_goto X (tgt := 20) dX1_lastSpeed_16 (by decide) ?_
    exact A_X1_lastSpeed_20 X hr σ a0 h_a0 v1 c_v1 (z_w ((σ (a0 + 5) v1.toNat) - 1)) (z_w_in _) hf
-- SpeedDesk$Chip.clusterFact(II)I
section S_X1_clusterFact
variable {p : Program} {l : Launch} {e : Env} {s : State} {m : MethodId} {args : Array Value} {below : List Frame} {meth : Method} {c : Code} {D : va_G} {cA : Nat → ClassId} {sa ad : Nat → Nat} {bs : Nat} {q : Int}

end S_X1_clusterFact
set_option maxHeartbeats 4000000 in
set_option maxRecDepth 100000 in
theorem C_X1_clusterFact (l : Launch) (D : va_G) (cA : Nat → ClassId) (sa ad : Nat → Nat) (bs : Nat) (a0 : Nat) (h_a0 : a0 ∈ ax_iX1) (v1 : Int) (c_v1 : Z_I v1) (v2 : Int) (c_v2 : Z_I v2) (σ : Nat → Nat → Int) (q : Int) (hf : f_X1_clusterFact a0 v1 v2 σ = some q) : AM l D cA sa ad bs 788 SHp yX1_clusterFact cX1_clusterFact 3 (some .int) 1 [.ref (ad a0), z_i v1, z_i v2] σ (some (z_i q)) (Z_I q) σ := by
  refine am_of (by decide +kernel) (Nat.le_of_ble_eq_true rfl) (fun p e s m args below meth c X hr => ?_)
  refine aw_lv (lv' := [(0, .ref (ad a0)), (1, z_i v1), (2, z_i v2)]) rfl ?_
  unfold f_X1_clusterFact at hf
  refine aw_aload_n X 0 dX1_clusterFact_0 rfl rfl ?_
  refine aw_iload_n X 1 dX1_clusterFact_1 rfl rfl ?_
  obtain ⟨q1, e2, hf⟩ := z_bd hf
  refine aw_callV X [z_i v1] [] [z_i q1] cX1_76 (sX1_0 a0 h_a0) ciX1 (C_X1_hasCluster l D cA sa ad bs a0 h_a0 v1 c_v1 σ q1 e2) rfl ⟨(Nat.le_of_ble_eq_true rfl), (Nat.le_of_ble_eq_true rfl), (Nat.le_of_ble_eq_true rfl), (Nat.le_of_ble_eq_true rfl)⟩ rfl (Nat.le_of_ble_eq_true rfl) rfl dX1_clusterFact_2 (fun p3 => ?_)
  refine aw_if_ne X (tgt := 10) (z_zI p3) dX1_clusterFact_5 (by decide) (fun h4 => ?_) (fun h4 => ?_)
  · rw [if_neg h4] at hf
    refine aw_iload_n X 2 dX1_clusterFact_10 rfl rfl ?_
    by_cases h5 : v2 = 0
    · rw [if_pos h5] at hf
      refine aw_tabIn X (tgt := 36) c_v2 dX1_clusterFact_11 (by omega) (by omega) (by rw [h5]; rfl) (by decide) ?_
      refine aw_aload_n X 0 dX1_clusterFact_36 rfl rfl ?_
      refine aw_getR X (sX1_0 a0 h_a0) fX1_15 rfl dX1_clusterFact_37 ?_
      refine aw_iload_n X 1 dX1_clusterFact_40 rfl rfl ?_
      obtain ⟨g6, hf⟩ := z_gd hf
      refine aw_iald X (j := v1.toNat) (sX1_2 a0 h_a0) c_v1 g6.1 g6.2 rfl dX1_clusterFact_41 (fun c7 => ?_)
      obtain rfl := Option.some.inj hf
      exact aw_iret X c7 hr rfl dX1_clusterFact_42
    rw [if_neg h5] at hf
    by_cases h8 : v2 = 1
    · rw [if_pos h8] at hf
      refine aw_tabIn X (tgt := 43) c_v2 dX1_clusterFact_11 (by omega) (by omega) (by rw [h8]; rfl) (by decide) ?_
      refine aw_aload_n X 0 dX1_clusterFact_43 rfl rfl ?_
      refine aw_getR X (sX1_0 a0 h_a0) fX1_19 rfl dX1_clusterFact_44 ?_
      refine aw_iload_n X 1 dX1_clusterFact_47 rfl rfl ?_
      obtain ⟨g9, hf⟩ := z_gd hf
      refine aw_iald X (j := v1.toNat) (sX1_3 a0 h_a0) c_v1 g9.1 g9.2 rfl dX1_clusterFact_48 (fun c10 => ?_)
      obtain rfl := Option.some.inj hf
      exact aw_iret X c10 hr rfl dX1_clusterFact_49
    rw [if_neg h8] at hf
    by_cases h11 : v2 = 2
    · rw [if_pos h11] at hf
      refine aw_tabIn X (tgt := 50) c_v2 dX1_clusterFact_11 (by omega) (by omega) (by rw [h11]; rfl) (by decide) ?_
      refine aw_aload_n X 0 dX1_clusterFact_50 rfl rfl ?_
      refine aw_getR X (sX1_0 a0 h_a0) fX1_22 rfl dX1_clusterFact_51 ?_
      refine aw_iload_n X 1 dX1_clusterFact_54 rfl rfl ?_
      obtain ⟨g12, hf⟩ := z_gd hf
      refine aw_iald X (j := v1.toNat) (sX1_4 a0 h_a0) c_v1 g12.1 g12.2 rfl dX1_clusterFact_55 (fun c13 => ?_)
      obtain rfl := Option.some.inj hf
      exact aw_iret X c13 hr rfl dX1_clusterFact_56
    rw [if_neg h11] at hf
    refine aw_tabOut X (tgt := 57) c_v2 dX1_clusterFact_11 (by omega) (by decide) ?_
    refine aw_aload_n X 0 dX1_clusterFact_57 rfl rfl ?_
    refine aw_getR X (sX1_0 a0 h_a0) fX1_25 rfl dX1_clusterFact_58 ?_
    refine aw_iload_n X 1 dX1_clusterFact_61 rfl rfl ?_
    obtain ⟨g14, hf⟩ := z_gd hf
    refine aw_iald X (j := v1.toNat) (sX1_5 a0 h_a0) c_v1 g14.1 g14.2 rfl dX1_clusterFact_62 (fun c15 => ?_)
    obtain rfl := Option.some.inj hf
    exact aw_iret X c15 hr rfl dX1_clusterFact_63
  · rw [if_pos h4] at hf
    refine aw_iconst X dX1_clusterFact_8 ?_
    obtain rfl := Option.some.inj hf
    exact aw_iret X (z_lit (x := (-1)) (by decide)) hr rfl dX1_clusterFact_9
-- SpeedDesk.roundedUp(II)I
section S_X11_roundedUp
variable {p : Program} {l : Launch} {e : Env} {s : State} {m : MethodId} {args : Array Value} {below : List Frame} {meth : Method} {c : Code} {D : va_G} {cA : Nat → ClassId} {sa ad : Nat → Nat} {bs : Nat} {q : Int}

end S_X11_roundedUp
set_option maxHeartbeats 4000000 in
set_option maxRecDepth 100000 in
theorem C_X11_roundedUp (l : Launch) (D : va_G) (cA : Nat → ClassId) (sa ad : Nat → Nat) (bs : Nat) (v0 : Int) (c_v0 : Z_I v0) (v1 : Int) (c_v1 : Z_I v1) (σ : Nat → Nat → Int) (q : Int) (hf : f_X11_roundedUp v0 v1 σ = some q) : AM l D cA sa ad bs 788 SHp yX11_roundedUp cX11_roundedUp 2 (some .int) 0 [z_i v0, z_i v1] σ (some (z_i q)) (Z_I q) σ := by
  refine am_of (by decide +kernel) (Nat.le_of_ble_eq_true rfl) (fun p e s m args below meth c X hr => ?_)
  refine aw_lv (lv' := [(0, z_i v0), (1, z_i v1)]) rfl ?_
  unfold f_X11_roundedUp at hf
  refine aw_iload_n X 1 dX11_roundedUp_0 rfl rfl ?_
  refine aw_iconst X dX11_roundedUp_1 ?_
  refine aw_icmp_ge X (tgt := 9) c_v1 (z_lit (x := 1) (by decide)) dX11_roundedUp_2 (by decide) (fun h1 => ?_) (fun h1 => ?_)
  · rw [if_pos h1] at hf
    refine aw_iload_n X 0 dX11_roundedUp_9 rfl rfl ?_
    refine aw_iload_n X 1 dX11_roundedUp_10 rfl rfl ?_
    refine aw_iadd X dX11_roundedUp_11 ?_
    refine aw_iconst X dX11_roundedUp_12 ?_
    refine aw_isub X dX11_roundedUp_13 ?_
    refine aw_iload_n X 1 dX11_roundedUp_14 rfl rfl ?_
    obtain ⟨g2, hf⟩ := z_gd hf
    refine aw_idiv X (z_w_in _) c_v1 g2 dX11_roundedUp_15 ?_
    obtain rfl := Option.some.inj hf
    exact aw_iret X (z_w_in _) hr rfl dX11_roundedUp_16
  · rw [if_neg h1] at hf
    refine aw_iconst X dX11_roundedUp_5 ?_
    refine aw_goto X (tgt := 16) dX11_roundedUp_6 (by decide) ?_
    obtain rfl := Option.some.inj hf
    exact aw_iret X (z_lit (x := 0) (by decide)) hr rfl dX11_roundedUp_16
-- SpeedDesk$Chip.shareOf(I)I
section S_X1_shareOf
variable {p : Program} {l : Launch} {e : Env} {s : State} {m : MethodId} {args : Array Value} {below : List Frame} {meth : Method} {c : Code} {D : va_G} {cA : Nat → ClassId} {sa ad : Nat → Nat} {bs : Nat} {q : Int}

end S_X1_shareOf
set_option maxHeartbeats 4000000 in
set_option maxRecDepth 100000 in
theorem C_X1_shareOf (l : Launch) (D : va_G) (cA : Nat → ClassId) (sa ad : Nat → Nat) (bs : Nat) (a0 : Nat) (h_a0 : a0 ∈ ax_iX1) (v1 : Int) (c_v1 : Z_I v1) (σ : Nat → Nat → Int) (q : Int) (hf : f_X1_shareOf a0 v1 σ = some q) : AM l D cA sa ad bs 788 SHp yX1_shareOf cX1_shareOf 2 (some .int) 1 [.ref (ad a0), z_i v1] σ (some (z_i q)) (Z_I q) σ := by
  refine am_of (by decide +kernel) (Nat.le_of_ble_eq_true rfl) (fun p e s m args below meth c X hr => ?_)
  refine aw_lv (lv' := [(0, .ref (ad a0)), (1, z_i v1)]) rfl ?_
  unfold f_X1_shareOf at hf
  refine aw_aload_n X 0 dX1_shareOf_0 rfl rfl ?_
  refine aw_iload_n X 1 dX1_shareOf_1 rfl rfl ?_
  obtain ⟨q1, e2, hf⟩ := z_bd hf
  refine aw_callV X [z_i v1] [] [z_i q1] cX1_94 (sX1_0 a0 h_a0) ciX1 (C_X1_hasTask l D cA sa ad bs a0 h_a0 v1 c_v1 σ q1 e2) rfl ⟨(Nat.le_of_ble_eq_true rfl), (Nat.le_of_ble_eq_true rfl), (Nat.le_of_ble_eq_true rfl), (Nat.le_of_ble_eq_true rfl)⟩ rfl (Nat.le_of_ble_eq_true rfl) rfl dX1_shareOf_2 (fun p3 => ?_)
  refine aw_if_eq X (tgt := 26) (z_zI p3) dX1_shareOf_5 (by decide) (fun h4 => ?_) (fun h4 => ?_)
  · rw [if_pos h4] at hf
    refine aw_iconst X dX1_shareOf_26 ?_
    obtain rfl := Option.some.inj hf
    exact aw_iret X (z_lit (x := 0) (by decide)) hr rfl dX1_shareOf_27
  · rw [if_neg h4] at hf
    refine aw_aload_n X 0 dX1_shareOf_8 rfl rfl ?_
    refine aw_getR X (sX1_0 a0 h_a0) fX1_42 rfl dX1_shareOf_9 ?_
    refine aw_iload_n X 1 dX1_shareOf_12 rfl rfl ?_
    obtain ⟨g5, hf⟩ := z_gd hf
    refine aw_iald X (j := v1.toNat) (sX1_16 a0 h_a0) c_v1 g5.1 g5.2 rfl dX1_shareOf_13 (fun c6 => ?_)
    refine aw_aload_n X 0 dX1_shareOf_14 rfl rfl ?_
    refine aw_getR X (sX1_0 a0 h_a0) fX1_45 rfl dX1_shareOf_15 ?_
    refine aw_iload_n X 1 dX1_shareOf_18 rfl rfl ?_
    obtain ⟨g7, hf⟩ := z_gd hf
    refine aw_iald X (j := v1.toNat) (sX1_17 a0 h_a0) c_v1 g7.1 g7.2 rfl dX1_shareOf_19 (fun c8 => ?_)
    obtain ⟨q9, e10, hf⟩ := z_bd hf
    refine aw_callN X [z_i (σ (a0 + 16) v1.toNat), z_i (σ (a0 + 17) v1.toNat)] [] [z_i q9] cX1_97 (C_X11_roundedUp l D cA sa ad bs (σ (a0 + 16) v1.toNat) c6 (σ (a0 + 17) v1.toNat) c8 σ q9 e10) rfl ⟨(Nat.le_of_ble_eq_true rfl), (Nat.le_of_ble_eq_true rfl), (Nat.le_of_ble_eq_true rfl), (Nat.le_of_ble_eq_true rfl)⟩ rfl (Nat.le_of_ble_eq_true rfl) rfl dX1_shareOf_20 (fun p11 => ?_)
    refine aw_goto X (tgt := 27) dX1_shareOf_23 (by decide) ?_
    obtain rfl := Option.some.inj hf
    exact aw_iret X p11 hr rfl dX1_shareOf_27
-- SpeedDesk$Chip.firstPointFor(II)I
section S_X1_firstPointFor
variable {p : Program} {l : Launch} {e : Env} {s : State} {m : MethodId} {args : Array Value} {below : List Frame} {meth : Method} {c : Code} {D : va_G} {cA : Nat → ClassId} {sa ad : Nat → Nat} {bs : Nat} {q : Int}
set_option maxHeartbeats 4000000 in
set_option maxRecDepth 100000 in
theorem A_X1_firstPointFor_26 (X : AX p s m args meth c D cA sa bs cX1_firstPointFor 5 RX1) (hr : meth.sig.returnType = (some .int)) (σ : Nat → Nat → Int) : ∀ (k : Nat) (a0 : Nat) (h_a0 : a0 ∈ ax_iX1) (v1 : Int) (c_v1 : Z_I v1) (v2 : Int) (c_v2 : Z_I v2) (v3 : Int) (c_v3 : Z_I v3) (v4 : Int) (c_v4 : Z_I v4), f_X1_firstPointFor_26 k a0 v1 v2 v3 v4 σ = some q → AW p l e (ax_rm 0 0 0) s m args below meth c D cA ad bs 788 SHp 0 0 (ax_MQ below args s D cA ad bs 788 SHp 0 0 (some (z_i q)) (Z_I q) σ) 5 26 [(0, .ref (ad a0)), (1, z_i v1), (2, z_i v2), (3, z_i v3), (4, z_i v4)] [] σ := by
  intro k
  induction k with
  | zero =>
    intro a0 h_a0 v1 c_v1 v2 c_v2 v3 c_v3 v4 c_v4 hf
    unfold f_X1_firstPointFor_26 at hf
    cases hf
  | succ k ih =>
    intro a0 h_a0 v1 c_v1 v2 c_v2 v3 c_v3 v4 c_v4 hf
    unfold f_X1_firstPointFor_26 at hf
    refine aw_iload X 4 dX1_firstPointFor_26 rfl ?_
    refine aw_iload_n X 3 dX1_firstPointFor_28 rfl rfl ?_
    refine aw_icmp_ge X (tgt := 54) c_v4 c_v3 dX1_firstPointFor_29 (by decide) (fun h6 => ?_) (fun h6 => ?_)
    · rw [if_pos h6] at hf
      refine aw_iconst X dX1_firstPointFor_54 ?_
      obtain rfl := Option.some.inj hf
      exact aw_iret X (z_lit (x := (-1)) (by decide)) hr rfl dX1_firstPointFor_55
    · rw [if_neg h6] at hf
      refine aw_aload_n X 0 dX1_firstPointFor_32 rfl rfl ?_
      refine aw_getR X (sX1_0 a0 h_a0) fX1_30 rfl dX1_firstPointFor_33 ?_
      refine aw_iload_n X 1 dX1_firstPointFor_36 rfl rfl ?_
      obtain ⟨g7, hf⟩ := z_gd hf
      refine aw_aald X (kd := 3) (sX1_6 a0 h_a0) (by decide) c_v1 g7.1 g7.2 (tg_pts7 a0 _ (by omega)) dX1_firstPointFor_37 ?_
      refine aw_iload X 4 dX1_firstPointFor_38 rfl ?_
      obtain ⟨g8, hf⟩ := z_gd hf
      refine aw_iald X (j := v4.toNat) (sX1_pt7 a0 h_a0 v1.toNat (by omega)) c_v4 g8.1 g8.2 rfl dX1_firstPointFor_40 (fun c9 => ?_)
      refine aw_iload_n X 2 dX1_firstPointFor_41 rfl rfl ?_
      refine aw_icmp_lt X (tgt := 48) c9 c_v2 dX1_firstPointFor_42 (by decide) (fun h10 => ?_) (fun h10 => ?_)
      · rw [if_pos h10] at hf
        refine aw_iinc X 4 [(4, z_i (z_w (v4 + 1))), (0, .ref (ad a0)), (1, z_i v1), (2, z_i v2), (3, z_i v3)] dX1_firstPointFor_48 rfl (by decide) rfl ?_
        refine aw_goto X (tgt := 26) dX1_firstPointFor_51 (by decide) ?_
        refine aw_sub [1, 2, 3, 4, 0] rfl ?_
        exact ih a0 h_a0 v1 c_v1 v2 c_v2 v3 c_v3 (z_w (v4 + 1)) (z_w_in _) hf
      · rw [if_neg h10] at hf
        refine aw_iload X 4 dX1_firstPointFor_45 rfl ?_
        obtain rfl := Option.some.inj hf
        exact aw_iret X c_v4 hr rfl dX1_firstPointFor_47
end S_X1_firstPointFor
set_option maxHeartbeats 4000000 in
set_option maxRecDepth 100000 in
theorem C_X1_firstPointFor (l : Launch) (D : va_G) (cA : Nat → ClassId) (sa ad : Nat → Nat) (bs : Nat) (a0 : Nat) (h_a0 : a0 ∈ ax_iX1) (v1 : Int) (c_v1 : Z_I v1) (v2 : Int) (c_v2 : Z_I v2) (σ : Nat → Nat → Int) (q : Int) (hf : f_X1_firstPointFor a0 v1 v2 σ = some q) : AM l D cA sa ad bs 788 SHp yX1_firstPointFor cX1_firstPointFor 5 (some .int) 0 [.ref (ad a0), z_i v1, z_i v2] σ (some (z_i q)) (Z_I q) σ := by
  refine am_of (by decide +kernel) (Nat.le_of_ble_eq_true rfl) (fun p e s m args below meth c X hr => ?_)
  refine aw_lv (lv' := [(0, .ref (ad a0)), (1, z_i v1), (2, z_i v2)]) rfl ?_
  unfold f_X1_firstPointFor at hf
  refine aw_iload_n X 1 dX1_firstPointFor_0 rfl rfl ?_
  refine aw_if_lt X (tgt := 21) c_v1 dX1_firstPointFor_1 (by decide) (fun h1 => ?_) (fun h1 => ?_)
  · rw [if_pos h1] at hf
    refine aw_iconst X dX1_firstPointFor_21 ?_
    refine aw_istore_n X [(3, z_i 0), (0, .ref (ad a0)), (1, z_i v1), (2, z_i v2)] dX1_firstPointFor_22 rfl (by decide) rfl ?_
    refine aw_iconst X dX1_firstPointFor_23 ?_
    refine aw_istore X [(4, z_i 0), (3, z_i 0), (0, .ref (ad a0)), (1, z_i v1), (2, z_i v2)] dX1_firstPointFor_24 (by decide) rfl ?_
    refine aw_sub [2, 3, 4, 1, 0] rfl ?_
    exact A_X1_firstPointFor_26 X hr σ 100000 a0 h_a0 v1 c_v1 v2 c_v2 0 (z_lit (x := 0) (by decide)) 0 (z_lit (x := 0) (by decide)) hf
  · rw [if_neg h1] at hf
    refine aw_iload_n X 1 dX1_firstPointFor_4 rfl rfl ?_
    refine aw_aload_n X 0 dX1_firstPointFor_5 rfl rfl ?_
    refine aw_getI X (sX1_0 a0 h_a0) fX1_51 rfl dX1_firstPointFor_6 (fun c2 => ?_)
    refine aw_icmp_ge X (tgt := 21) c_v1 c2 dX1_firstPointFor_9 (by decide) (fun h3 => ?_) (fun h3 => ?_)
    · rw [if_pos h3] at hf
      refine aw_iconst X dX1_firstPointFor_21 ?_
      refine aw_istore_n X [(3, z_i 0), (0, .ref (ad a0)), (1, z_i v1), (2, z_i v2)] dX1_firstPointFor_22 rfl (by decide) rfl ?_
      refine aw_iconst X dX1_firstPointFor_23 ?_
      refine aw_istore X [(4, z_i 0), (3, z_i 0), (0, .ref (ad a0)), (1, z_i v1), (2, z_i v2)] dX1_firstPointFor_24 (by decide) rfl ?_
      refine aw_sub [2, 3, 4, 1, 0] rfl ?_
      exact A_X1_firstPointFor_26 X hr σ 100000 a0 h_a0 v1 c_v1 v2 c_v2 0 (z_lit (x := 0) (by decide)) 0 (z_lit (x := 0) (by decide)) hf
    · rw [if_neg h3] at hf
      refine aw_aload_n X 0 dX1_firstPointFor_12 rfl rfl ?_
      refine aw_getR X (sX1_0 a0 h_a0) fX1_25 rfl dX1_firstPointFor_13 ?_
      refine aw_iload_n X 1 dX1_firstPointFor_16 rfl rfl ?_
      obtain ⟨g4, hf⟩ := z_gd hf
      refine aw_iald X (j := v1.toNat) (sX1_5 a0 h_a0) c_v1 g4.1 g4.2 rfl dX1_firstPointFor_17 (fun c5 => ?_)
      refine aw_goto X (tgt := 22) dX1_firstPointFor_18 (by decide) ?_
      refine aw_istore_n X [(3, z_i (σ (a0 + 5) v1.toNat)), (0, .ref (ad a0)), (1, z_i v1), (2, z_i v2)] dX1_firstPointFor_22 rfl (by decide) rfl ?_
      refine aw_iconst X dX1_firstPointFor_23 ?_
      refine aw_istore X [(4, z_i 0), (3, z_i (σ (a0 + 5) v1.toNat)), (0, .ref (ad a0)), (1, z_i v1), (2, z_i v2)] dX1_firstPointFor_24 (by decide) rfl ?_
      refine aw_sub [2, 3, 4, 1, 0] rfl ?_
      exact A_X1_firstPointFor_26 X hr σ 100000 a0 h_a0 v1 c_v1 v2 c_v2 (σ (a0 + 5) v1.toNat) c5 0 (z_lit (x := 0) (by decide)) hf
