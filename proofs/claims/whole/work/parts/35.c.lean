-- SpeedDesk.ahead(II)I
section S_X11_ahead
variable {p : Program} {l : Launch} {e : Env} {s : State} {m : MethodId} {args : Array Value} {below : List Frame} {meth : Method} {c : Code} {D : va_G} {cA : Nat → ClassId} {sa ad : Nat → Nat} {bs : Nat} {q : (Int × (Nat → Nat → Int))}
set_option maxHeartbeats 4000000 in
set_option maxRecDepth 100000 in
theorem A_X11_ahead_77 (X : AX p s m args meth c D cA sa bs cX11_ahead 4 RX11) (hr : meth.sig.returnType = (some .int)) (v1 : Int) (c_v1 : Z_I v1) (v2 : Int) (c_v2 : Z_I v2) (σ : Nat → Nat → Int) (hf : f_X11_ahead_77 v1 v2 σ = some q) : AW p l e (ax_rm 4 0 0) s m args below meth c D cA ad bs 788 SHp 0 0 (ax_MQ below args s D cA ad bs 788 SHp 0 0 (some (z_i q.1)) (Z_I q.1) q.2) 4 77 [(0, .ref (ad 0)), (1, z_i v1), (2, z_i v2)] [] σ := by
  unfold f_X11_ahead_77 at hf
  refine aw_aload_n X 0 dX11_ahead_77 rfl rfl ?_
  refine aw_getR X s_0 fX11_46 rfl dX11_ahead_78 ?_
  refine aw_aload_n X 0 dX11_ahead_81 rfl rfl ?_
  refine aw_getR X s_0 fX11_42 rfl dX11_ahead_82 ?_
  obtain ⟨q19, e20, hf⟩ := z_bd hf
  refine aw_callV X [.ref (ad 173)] [] [] cX11_331 (sX7_0 186 (by decide)) ciX7 (C_X7_copyFrom l D cA sa ad bs 186 (by decide) 173 (by decide) σ q19 e20) rfl ⟨(Nat.le_of_ble_eq_true rfl), (Nat.le_of_ble_eq_true rfl), (Nat.le_of_ble_eq_true rfl), (Nat.le_of_ble_eq_true rfl)⟩ rfl (Nat.le_of_ble_eq_true rfl) rfl dX11_ahead_85 (fun p21 => ?_)
  refine aw_aload_n X 0 dX11_ahead_88 rfl rfl ?_
  refine aw_getR X s_0 fX11_80 rfl dX11_ahead_89 ?_
  refine aw_aload_n X 0 dX11_ahead_92 rfl rfl ?_
  obtain ⟨g22, hf⟩ := z_gd hf
  refine aw_getV X s_0 fX11_24 rfl dX11_ahead_93 ?_
  refine aw_aload_n X 0 dX11_ahead_96 rfl rfl ?_
  refine aw_getR X s_0 fX11_46 rfl dX11_ahead_97 ?_
  refine aw_iload_n X 1 dX11_ahead_100 rfl rfl ?_
  obtain ⟨q23, e24, hf⟩ := z_bd hf
  refine aw_callV X [.ref (ad ((q19 0 2).toNat)), .ref (ad 186), z_i v1] [] [z_i q23.1] cX11_335 s_743 ciX2 (C_X2_passMany l D cA sa ad bs ((q19 0 2).toNat) g22 186 (by decide) v1 c_v1 q19 q23 e24) rfl ⟨(Nat.le_of_ble_eq_true rfl), (Nat.le_of_ble_eq_true rfl), (Nat.le_of_ble_eq_true rfl), (Nat.le_of_ble_eq_true rfl)⟩ rfl (Nat.le_of_ble_eq_true rfl) rfl dX11_ahead_101 (fun p25 => ?_)
  refine aw_pop X dX11_ahead_104 rfl ?_
  refine aw_iload_n X 2 dX11_ahead_105 rfl rfl ?_
  by_cases h26 : v2 = 0
  · rw [if_pos h26] at hf
    refine aw_tabIn X (tgt := 132) c_v2 dX11_ahead_106 (by omega) (by omega) (by rw [h26]; rfl) (by decide) ?_
    refine aw_aload_n X 0 dX11_ahead_132 rfl rfl ?_
    refine aw_getR X s_0 fX11_46 rfl dX11_ahead_133 ?_
    refine aw_getI X (sX7_0 186 (by decide)) fX11_338 rfl dX11_ahead_136 (fun c27 => ?_)
    obtain rfl := Option.some.inj hf
    exact aw_iret X c27 hr rfl dX11_ahead_139
  rw [if_neg h26] at hf
  by_cases h28 : v2 = 1
  · rw [if_pos h28] at hf
    refine aw_tabIn X (tgt := 140) c_v2 dX11_ahead_106 (by omega) (by omega) (by rw [h28]; rfl) (by decide) ?_
    refine aw_aload_n X 0 dX11_ahead_140 rfl rfl ?_
    refine aw_getR X s_0 fX11_46 rfl dX11_ahead_141 ?_
    refine aw_aload_n X 0 dX11_ahead_144 rfl rfl ?_
    obtain ⟨g29, hf⟩ := z_gd hf
    refine aw_getV X s_0 fX11_24 rfl dX11_ahead_145 ?_
    obtain ⟨q30, e31, hf⟩ := z_bd hf
    refine aw_callV X [.ref (ad ((q23.2 0 2).toNat))] [] [z_i q30] cX11_341 (sX7_0 186 (by decide)) ciX7 (C_X7_lateOfAll l D cA sa ad bs 186 (by decide) ((q23.2 0 2).toNat) g29 q23.2 q30 e31) rfl ⟨(Nat.le_of_ble_eq_true rfl), (Nat.le_of_ble_eq_true rfl), (Nat.le_of_ble_eq_true rfl), (Nat.le_of_ble_eq_true rfl)⟩ rfl (Nat.le_of_ble_eq_true rfl) rfl dX11_ahead_148 (fun p32 => ?_)
    obtain rfl := Option.some.inj hf
    exact aw_iret X p32 hr rfl dX11_ahead_151
  rw [if_neg h28] at hf
  by_cases h33 : v2 = 2
  · rw [if_pos h33] at hf
    refine aw_tabIn X (tgt := 152) c_v2 dX11_ahead_106 (by omega) (by omega) (by rw [h33]; rfl) (by decide) ?_
    refine aw_aload_n X 0 dX11_ahead_152 rfl rfl ?_
    refine aw_getR X s_0 fX11_46 rfl dX11_ahead_153 ?_
    refine aw_getI X (sX7_0 186 (by decide)) fX11_344 rfl dX11_ahead_156 (fun c34 => ?_)
    obtain rfl := Option.some.inj hf
    exact aw_iret X c34 hr rfl dX11_ahead_159
  rw [if_neg h33] at hf
  refine aw_tabOut X (tgt := 160) c_v2 dX11_ahead_106 (by omega) (by decide) ?_
  refine aw_aload_n X 0 dX11_ahead_160 rfl rfl ?_
  refine aw_getR X s_0 fX11_46 rfl dX11_ahead_161 ?_
  refine aw_getR X (sX7_0 186 (by decide)) fX11_347 rfl dX11_ahead_164 ?_
  refine aw_iload_n X 2 dX11_ahead_167 rfl rfl ?_
  refine aw_iconst X dX11_ahead_168 ?_
  refine aw_isub X dX11_ahead_169 ?_
  obtain ⟨g35, hf⟩ := z_gd hf
  refine aw_iald X (j := (z_w (v2 - 3)).toNat) (sX7_5 186 (by decide)) (z_w_in _) g35.1 g35.2 rfl dX11_ahead_170 (fun c36 => ?_)
  obtain rfl := Option.some.inj hf
  exact aw_iret X c36 hr rfl dX11_ahead_171
set_option maxHeartbeats 4000000 in
set_option maxRecDepth 100000 in
theorem A_X11_ahead_25 (X : AX p s m args meth c D cA sa bs cX11_ahead 4 RX11) (hr : meth.sig.returnType = (some .int)) (v1 : Int) (c_v1 : Z_I v1) (v2 : Int) (c_v2 : Z_I v2) (t0 : Int) (c_t0 : Z_I t0) (σ : Nat → Nat → Int) (hf : f_X11_ahead_25 v1 v2 t0 σ = some q) : AW p l e (ax_rm 4 0 0) s m args below meth c D cA ad bs 788 SHp 0 0 (ax_MQ below args s D cA ad bs 788 SHp 0 0 (some (z_i q.1)) (Z_I q.1) q.2) 4 25 [(0, .ref (ad 0)), (1, z_i v1), (2, z_i v2)] [z_i t0] σ := by
  unfold f_X11_ahead_25 at hf
  refine aw_istore_n X [(3, z_i t0), (0, .ref (ad 0)), (1, z_i v1), (2, z_i v2)] dX11_ahead_25 rfl (by decide) rfl ?_
  refine aw_aload_n X 1 dX11_ahead_26 rfl rfl ?_
  obtain ⟨g5, hf⟩ := z_gd hf
  refine aw_getV X s_0 fX11_24 rfl dX11_ahead_27 ?_
  obtain ⟨q6, e7, hf⟩ := z_bd hf
  refine aw_callV X [] [] [z_i q6] cX11_140 (sX1_0 ((σ 0 2).toNat) g5) ciX1 (C_X1_isTold l D cA sa ad bs ((σ 0 2).toNat) g5 σ q6 e7) rfl ⟨(Nat.le_of_ble_eq_true rfl), (Nat.le_of_ble_eq_true rfl), (Nat.le_of_ble_eq_true rfl), (Nat.le_of_ble_eq_true rfl)⟩ rfl (Nat.le_of_ble_eq_true rfl) rfl dX11_ahead_30 (fun p8 => ?_)
  refine aw_if_eq X (tgt := 55) (z_zI p8) dX11_ahead_33 (by decide) (fun h9 => ?_) (fun h9 => ?_)
  · rw [if_pos h9] at hf
    refine aw_iconst X dX11_ahead_55 ?_
    obtain rfl := Option.some.inj hf
    exact aw_iret X (z_lit (x := (-1)) (by decide)) hr rfl dX11_ahead_56
  · rw [if_neg h9] at hf
    refine aw_iload_n X 0 dX11_ahead_36 rfl rfl ?_
    refine aw_if_eq X (tgt := 55) c_t0 dX11_ahead_37 (by decide) (fun h10 => ?_) (fun h10 => ?_)
    · rw [if_pos h10] at hf
      refine aw_iconst X dX11_ahead_55 ?_
      obtain rfl := Option.some.inj hf
      exact aw_iret X (z_lit (x := (-1)) (by decide)) hr rfl dX11_ahead_56
    · rw [if_neg h10] at hf
      refine aw_aload_n X 1 dX11_ahead_40 rfl rfl ?_
      refine aw_getR X s_0 fX11_42 rfl dX11_ahead_41 ?_
      refine aw_getI X (sX7_0 173 (by decide)) fX11_277 rfl dX11_ahead_44 (fun c11 => ?_)
      refine aw_iload_n X 2 dX11_ahead_47 rfl rfl ?_
      refine aw_iadd X dX11_ahead_48 ?_
      refine aw_sipush X dX11_ahead_49 (by decide) ?_
      refine aw_icmp_le X (tgt := 57) (z_w_in _) (z_lit (x := 9999) (by decide)) dX11_ahead_52 (by decide) (fun h12 => ?_) (fun h12 => ?_)
      · rw [if_pos h12] at hf
        refine aw_iload_n X 3 dX11_ahead_57 rfl rfl ?_
        refine aw_iconst X dX11_ahead_58 ?_
        refine aw_icmp_lt X (tgt := 77) c_v2 (z_lit (x := 3) (by decide)) dX11_ahead_59 (by decide) (fun h13 => ?_) (fun h13 => ?_)
        · rw [if_pos h13] at hf
          refine aw_sub [1, 2, 3] rfl ?_
          exact A_X11_ahead_77 X hr v1 c_v1 v2 c_v2 σ hf
        · rw [if_neg h13] at hf
          refine aw_aload_n X 1 dX11_ahead_62 rfl rfl ?_
          obtain ⟨g14, hf⟩ := z_gd hf
          refine aw_getV X s_0 fX11_24 rfl dX11_ahead_63 ?_
          refine aw_iload_n X 3 dX11_ahead_66 rfl rfl ?_
          refine aw_iconst X dX11_ahead_67 ?_
          refine aw_isub X dX11_ahead_68 ?_
          obtain ⟨q15, e16, hf⟩ := z_bd hf
          refine aw_callV X [z_i (z_w (v2 - 3))] [] [z_i q15] cX11_153 (sX1_0 ((σ 0 2).toNat) g14) ciX1 (C_X1_hasCluster l D cA sa ad bs ((σ 0 2).toNat) g14 (z_w (v2 - 3)) (z_w_in _) σ q15 e16) rfl ⟨(Nat.le_of_ble_eq_true rfl), (Nat.le_of_ble_eq_true rfl), (Nat.le_of_ble_eq_true rfl), (Nat.le_of_ble_eq_true rfl)⟩ rfl (Nat.le_of_ble_eq_true rfl) rfl dX11_ahead_69 (fun p17 => ?_)
          refine aw_if_ne X (tgt := 77) (z_zI p17) dX11_ahead_72 (by decide) (fun h18 => ?_) (fun h18 => ?_)
          · rw [if_neg h18] at hf
            refine aw_sub [1, 2, 3] rfl ?_
            exact A_X11_ahead_77 X hr v1 c_v1 v2 c_v2 σ hf
          · rw [if_pos h18] at hf
            refine aw_iconst X dX11_ahead_75 ?_
            obtain rfl := Option.some.inj hf
            exact aw_iret X (z_lit (x := (-1)) (by decide)) hr rfl dX11_ahead_76
      · rw [if_neg h12] at hf
        refine aw_iconst X dX11_ahead_55 ?_
        obtain rfl := Option.some.inj hf
        exact aw_iret X (z_lit (x := (-1)) (by decide)) hr rfl dX11_ahead_56
end S_X11_ahead
set_option maxHeartbeats 4000000 in
set_option maxRecDepth 100000 in
theorem C_X11_ahead (l : Launch) (D : va_G) (cA : Nat → ClassId) (sa ad : Nat → Nat) (bs : Nat) (v1 : Int) (c_v1 : Z_I v1) (v2 : Int) (c_v2 : Z_I v2) (σ : Nat → Nat → Int) (q : (Int × (Nat → Nat → Int))) (hf : f_X11_ahead v1 v2 σ = some q) : AM l D cA sa ad bs 788 SHp yX11_ahead cX11_ahead 4 (some .int) 4 [.ref (ad 0), z_i v1, z_i v2] σ (some (z_i q.1)) (Z_I q.1) q.2 := by
  refine am_of (by decide +kernel) (Nat.le_of_ble_eq_true rfl) (fun p e s m args below meth c X hr => ?_)
  refine aw_lv (lv' := [(0, .ref (ad 0)), (1, z_i v1), (2, z_i v2)]) rfl ?_
  unfold f_X11_ahead at hf
  refine aw_iload_n X 1 dX11_ahead_0 rfl rfl ?_
  refine aw_if_lt X (tgt := 24) c_v1 dX11_ahead_1 (by decide) (fun h1 => ?_) (fun h1 => ?_)
  · simp only [if_pos h1] at hf
    refine aw_iconst X dX11_ahead_24 ?_
    exact A_X11_ahead_25 X hr v1 c_v1 v2 c_v2 0 (z_lit (x := 0) (by decide)) σ hf
  · simp only [if_neg h1] at hf
    refine aw_iload_n X 1 dX11_ahead_4 rfl rfl ?_
    refine aw_sipush X dX11_ahead_5 (by decide) ?_
    refine aw_icmp_gt X (tgt := 24) c_v1 (z_lit (x := 200) (by decide)) dX11_ahead_8 (by decide) (fun h2 => ?_) (fun h2 => ?_)
    · simp only [if_pos h2] at hf
      refine aw_iconst X dX11_ahead_24 ?_
      exact A_X11_ahead_25 X hr v1 c_v1 v2 c_v2 0 (z_lit (x := 0) (by decide)) σ hf
    · simp only [if_neg h2] at hf
      refine aw_iload_n X 2 dX11_ahead_11 rfl rfl ?_
      refine aw_if_lt X (tgt := 24) c_v2 dX11_ahead_12 (by decide) (fun h3 => ?_) (fun h3 => ?_)
      · simp only [if_pos h3] at hf
        refine aw_iconst X dX11_ahead_24 ?_
        exact A_X11_ahead_25 X hr v1 c_v1 v2 c_v2 0 (z_lit (x := 0) (by decide)) σ hf
      · simp only [if_neg h3] at hf
        refine aw_iload_n X 2 dX11_ahead_15 rfl rfl ?_
        refine aw_iconst X dX11_ahead_16 ?_
        refine aw_icmp_gt X (tgt := 24) c_v2 (z_lit (x := 5) (by decide)) dX11_ahead_17 (by decide) (fun h4 => ?_) (fun h4 => ?_)
        · simp only [if_pos h4] at hf
          refine aw_iconst X dX11_ahead_24 ?_
          exact A_X11_ahead_25 X hr v1 c_v1 v2 c_v2 0 (z_lit (x := 0) (by decide)) σ hf
        · simp only [if_neg h4] at hf
          refine aw_iconst X dX11_ahead_20 ?_
          refine aw_goto X (tgt := 25) dX11_ahead_21 (by decide) ?_
          exact A_X11_ahead_25 X hr v1 c_v1 v2 c_v2 1 (z_lit (x := 1) (by decide)) σ hf
-- SpeedDesk.bound(II)I
section S_X11_bound
variable {p : Program} {l : Launch} {e : Env} {s : State} {m : MethodId} {args : Array Value} {below : List Frame} {meth : Method} {c : Code} {D : va_G} {cA : Nat → ClassId} {sa ad : Nat → Nat} {bs : Nat} {q : (Int × (Nat → Nat → Int))}
set_option maxHeartbeats 4000000 in
set_option maxRecDepth 100000 in
theorem A_X11_bound_41 (X : AX p s m args meth c D cA sa bs cX11_bound 4 RX11) (hr : meth.sig.returnType = (some .int)) : ∀ (k : Nat) (v1 : Int) (c_v1 : Z_I v1) (v2 : Int) (c_v2 : Z_I v2) (v3 : Int) (c_v3 : Z_I v3) (σ : Nat → Nat → Int), f_X11_bound_41 k v1 v2 v3 σ = some q → AW p l e (ax_rm 4 0 0) s m args below meth c D cA ad bs 788 SHp 0 0 (ax_MQ below args s D cA ad bs 788 SHp 0 0 (some (z_i q.1)) (Z_I q.1) q.2) 4 41 [(0, .ref (ad 0)), (1, z_i v1), (2, z_i v2), (3, z_i v3)] [] σ := by
  intro k
  induction k with
  | zero =>
    intro v1 c_v1 v2 c_v2 v3 c_v3 σ hf
    unfold f_X11_bound_41 at hf
    cases hf
  | succ k ih =>
    intro v1 c_v1 v2 c_v2 v3 c_v3 σ hf
    unfold f_X11_bound_41 at hf
    refine aw_iload_n X 3 dX11_bound_41 rfl rfl ?_
    refine aw_aload_n X 0 dX11_bound_42 rfl rfl ?_
    obtain ⟨g10, hf⟩ := z_gd hf
    refine aw_getV X s_0 fX11_24 rfl dX11_bound_43 ?_
    refine aw_getR X (sX1_0 ((σ 0 2).toNat) g10) fX11_350 rfl dX11_bound_46 ?_
    refine aw_iload_n X 1 dX11_bound_49 rfl rfl ?_
    obtain ⟨g11, hf⟩ := z_gd hf
    refine aw_iald X (j := v1.toNat) (sX1_5 ((σ 0 2).toNat) g10) c_v1 g11.1 g11.2 rfl dX11_bound_50 (fun c12 => ?_)
    refine aw_icmp_ge X (tgt := 120) c_v3 c12 dX11_bound_51 (by decide) (fun h13 => ?_) (fun h13 => ?_)
    · rw [if_pos h13] at hf
      refine aw_iconst X dX11_bound_120 ?_
      obtain rfl := Option.some.inj hf
      exact aw_iret X (z_lit (x := (-1)) (by decide)) hr rfl dX11_bound_121
    · rw [if_neg h13] at hf
      refine aw_aload_n X 0 dX11_bound_54 rfl rfl ?_
      refine aw_getR X s_0 fX11_46 rfl dX11_bound_55 ?_
      refine aw_aload_n X 0 dX11_bound_58 rfl rfl ?_
      refine aw_getR X s_0 fX11_42 rfl dX11_bound_59 ?_
      obtain ⟨q14, e15, hf⟩ := z_bd hf
      refine aw_callV X [.ref (ad 173)] [] [] cX11_331 (sX7_0 186 (by decide)) ciX7 (C_X7_copyFrom l D cA sa ad bs 186 (by decide) 173 (by decide) σ q14 e15) rfl ⟨(Nat.le_of_ble_eq_true rfl), (Nat.le_of_ble_eq_true rfl), (Nat.le_of_ble_eq_true rfl), (Nat.le_of_ble_eq_true rfl)⟩ rfl (Nat.le_of_ble_eq_true rfl) rfl dX11_bound_62 (fun p16 => ?_)
      refine aw_aload_n X 0 dX11_bound_65 rfl rfl ?_
      refine aw_getR X s_0 fX11_46 rfl dX11_bound_66 ?_
      refine aw_lconst X (x := 0) dX11_bound_69 (by decide) ?_
      refine aw_iload_n X 1 dX11_bound_70 rfl rfl ?_
      refine aw_iconst X dX11_bound_71 ?_
      refine aw_iload_n X 3 dX11_bound_72 rfl rfl ?_
      obtain ⟨q17, e18, hf⟩ := z_bd hf
      refine aw_callV X [z_v 0, z_i v1, z_i 0, z_i v3] [] [z_i q17.1] cX11_353 (sX7_0 186 (by decide)) ciX7 (C_X7_tell l D cA sa ad bs 186 (by decide) 0 (z_litL (x := 0) (by decide)) v1 c_v1 0 (z_lit (x := 0) (by decide)) v3 c_v3 q14 q17 e18) rfl ⟨(Nat.le_of_ble_eq_true rfl), (Nat.le_of_ble_eq_true rfl), (Nat.le_of_ble_eq_true rfl), (Nat.le_of_ble_eq_true rfl)⟩ rfl (Nat.le_of_ble_eq_true rfl) rfl dX11_bound_73 (fun p19 => ?_)
      refine aw_pop X dX11_bound_76 rfl ?_
      refine aw_aload_n X 0 dX11_bound_77 rfl rfl ?_
      refine aw_getR X s_0 fX11_80 rfl dX11_bound_78 ?_
      refine aw_aload_n X 0 dX11_bound_81 rfl rfl ?_
      obtain ⟨g20, hf⟩ := z_gd hf
      refine aw_getV X s_0 fX11_24 rfl dX11_bound_82 ?_
      refine aw_aload_n X 0 dX11_bound_85 rfl rfl ?_
      refine aw_getR X s_0 fX11_46 rfl dX11_bound_86 ?_
      refine aw_iload_n X 2 dX11_bound_89 rfl rfl ?_
      obtain ⟨q21, e22, hf⟩ := z_bd hf
      refine aw_callV X [.ref (ad ((q17.2 0 2).toNat)), .ref (ad 186), z_i v2] [] [z_i q21.1] cX11_335 s_743 ciX2 (C_X2_passMany l D cA sa ad bs ((q17.2 0 2).toNat) g20 186 (by decide) v2 c_v2 q17.2 q21 e22) rfl ⟨(Nat.le_of_ble_eq_true rfl), (Nat.le_of_ble_eq_true rfl), (Nat.le_of_ble_eq_true rfl), (Nat.le_of_ble_eq_true rfl)⟩ rfl (Nat.le_of_ble_eq_true rfl) rfl dX11_bound_90 (fun p23 => ?_)
      refine aw_pop X dX11_bound_93 rfl ?_
      refine aw_aload_n X 0 dX11_bound_94 rfl rfl ?_
      refine aw_getR X s_0 fX11_46 rfl dX11_bound_95 ?_
      refine aw_aload_n X 0 dX11_bound_98 rfl rfl ?_
      obtain ⟨g24, hf⟩ := z_gd hf
      refine aw_getV X s_0 fX11_24 rfl dX11_bound_99 ?_
      refine aw_aload_n X 0 dX11_bound_102 rfl rfl ?_
      refine aw_getR X s_0 fX11_42 rfl dX11_bound_103 ?_
      obtain ⟨q25, e26, hf⟩ := z_bd hf
      refine aw_callV X [.ref (ad ((q21.2 0 2).toNat)), .ref (ad 173)] [] [z_i q25] cX11_357 (sX7_0 186 (by decide)) ciX7 (C_X7_isNoLater l D cA sa ad bs 186 (by decide) ((q21.2 0 2).toNat) g24 173 (by decide) q21.2 q25 e26) rfl ⟨(Nat.le_of_ble_eq_true rfl), (Nat.le_of_ble_eq_true rfl), (Nat.le_of_ble_eq_true rfl), (Nat.le_of_ble_eq_true rfl)⟩ rfl (Nat.le_of_ble_eq_true rfl) rfl dX11_bound_106 (fun p27 => ?_)
      refine aw_if_eq X (tgt := 114) (z_zI p27) dX11_bound_109 (by decide) (fun h28 => ?_) (fun h28 => ?_)
      · rw [if_pos h28] at hf
        refine aw_iinc X 3 [(3, z_i (z_w (v3 + 1))), (0, .ref (ad 0)), (1, z_i v1), (2, z_i v2)] dX11_bound_114 rfl (by decide) rfl ?_
        refine aw_goto X (tgt := 41) dX11_bound_117 (by decide) ?_
        refine aw_sub [1, 2, 3, 0] rfl ?_
        exact ih v1 c_v1 v2 c_v2 (z_w (v3 + 1)) (z_w_in _) q21.2 hf
      · rw [if_neg h28] at hf
        refine aw_iload_n X 3 dX11_bound_112 rfl rfl ?_
        obtain rfl := Option.some.inj hf
        exact aw_iret X c_v3 hr rfl dX11_bound_113
end S_X11_bound
set_option maxHeartbeats 4000000 in
set_option maxRecDepth 100000 in
theorem C_X11_bound (l : Launch) (D : va_G) (cA : Nat → ClassId) (sa ad : Nat → Nat) (bs : Nat) (v1 : Int) (c_v1 : Z_I v1) (v2 : Int) (c_v2 : Z_I v2) (σ : Nat → Nat → Int) (q : (Int × (Nat → Nat → Int))) (hf : f_X11_bound v1 v2 σ = some q) : AM l D cA sa ad bs 788 SHp yX11_bound cX11_bound 4 (some .int) 4 [.ref (ad 0), z_i v1, z_i v2] σ (some (z_i q.1)) (Z_I q.1) q.2 := by
  refine am_of (by decide +kernel) (Nat.le_of_ble_eq_true rfl) (fun p e s m args below meth c X hr => ?_)
  refine aw_lv (lv' := [(0, .ref (ad 0)), (1, z_i v1), (2, z_i v2)]) rfl ?_
  unfold f_X11_bound at hf
  refine aw_aload_n X 0 dX11_bound_0 rfl rfl ?_
  obtain ⟨g1, hf⟩ := z_gd hf
  refine aw_getV X s_0 fX11_24 rfl dX11_bound_1 ?_
  refine aw_iload_n X 1 dX11_bound_4 rfl rfl ?_
  obtain ⟨q2, e3, hf⟩ := z_bd hf
  refine aw_callV X [z_i v1] [] [z_i q2] cX11_153 (sX1_0 ((σ 0 2).toNat) g1) ciX1 (C_X1_hasCluster l D cA sa ad bs ((σ 0 2).toNat) g1 v1 c_v1 σ q2 e3) rfl ⟨(Nat.le_of_ble_eq_true rfl), (Nat.le_of_ble_eq_true rfl), (Nat.le_of_ble_eq_true rfl), (Nat.le_of_ble_eq_true rfl)⟩ rfl (Nat.le_of_ble_eq_true rfl) rfl dX11_bound_5 (fun p4 => ?_)
  refine aw_if_eq X (tgt := 37) (z_zI p4) dX11_bound_8 (by decide) (fun h5 => ?_) (fun h5 => ?_)
  · rw [if_pos h5] at hf
    refine aw_iconst X dX11_bound_37 ?_
    obtain rfl := Option.some.inj hf
    exact aw_iret X (z_lit (x := (-1)) (by decide)) hr rfl dX11_bound_38
  · rw [if_neg h5] at hf
    refine aw_iload_n X 2 dX11_bound_11 rfl rfl ?_
    refine aw_iconst X dX11_bound_12 ?_
    refine aw_icmp_lt X (tgt := 37) c_v2 (z_lit (x := 1) (by decide)) dX11_bound_13 (by decide) (fun h6 => ?_) (fun h6 => ?_)
    · rw [if_pos h6] at hf
      refine aw_iconst X dX11_bound_37 ?_
      obtain rfl := Option.some.inj hf
      exact aw_iret X (z_lit (x := (-1)) (by decide)) hr rfl dX11_bound_38
    · rw [if_neg h6] at hf
      refine aw_iload_n X 2 dX11_bound_16 rfl rfl ?_
      refine aw_bipush X dX11_bound_17 (by decide) ?_
      refine aw_icmp_gt X (tgt := 37) c_v2 (z_lit (x := 100) (by decide)) dX11_bound_19 (by decide) (fun h7 => ?_) (fun h7 => ?_)
      · rw [if_pos h7] at hf
        refine aw_iconst X dX11_bound_37 ?_
        obtain rfl := Option.some.inj hf
        exact aw_iret X (z_lit (x := (-1)) (by decide)) hr rfl dX11_bound_38
      · rw [if_neg h7] at hf
        refine aw_aload_n X 0 dX11_bound_22 rfl rfl ?_
        refine aw_getR X s_0 fX11_42 rfl dX11_bound_23 ?_
        refine aw_getI X (sX7_0 173 (by decide)) fX11_277 rfl dX11_bound_26 (fun c8 => ?_)
        refine aw_iload_n X 2 dX11_bound_29 rfl rfl ?_
        refine aw_iadd X dX11_bound_30 ?_
        refine aw_sipush X dX11_bound_31 (by decide) ?_
        refine aw_icmp_le X (tgt := 39) (z_w_in _) (z_lit (x := 9999) (by decide)) dX11_bound_34 (by decide) (fun h9 => ?_) (fun h9 => ?_)
        · rw [if_pos h9] at hf
          refine aw_iconst X dX11_bound_39 ?_
          refine aw_istore_n X [(3, z_i 0), (0, .ref (ad 0)), (1, z_i v1), (2, z_i v2)] dX11_bound_40 rfl (by decide) rfl ?_
          refine aw_sub [1, 2, 3, 0] rfl ?_
          exact A_X11_bound_41 X hr 100000 v1 c_v1 v2 c_v2 0 (z_lit (x := 0) (by decide)) σ hf
        · rw [if_neg h9] at hf
          refine aw_iconst X dX11_bound_37 ?_
          obtain rfl := Option.some.inj hf
          exact aw_iret X (z_lit (x := (-1)) (by decide)) hr rfl dX11_bound_38
-- SpeedDesk.odds(I)I
section S_X11_odds
variable {p : Program} {l : Launch} {e : Env} {s : State} {m : MethodId} {args : Array Value} {below : List Frame} {meth : Method} {c : Code} {D : va_G} {cA : Nat → ClassId} {sa ad : Nat → Nat} {bs : Nat} {q : (Int × (Nat → Nat → Int))}

end S_X11_odds
set_option maxHeartbeats 4000000 in
set_option maxRecDepth 100000 in
theorem C_X11_odds (l : Launch) (D : va_G) (cA : Nat → ClassId) (sa ad : Nat → Nat) (bs : Nat) (v1 : Int) (c_v1 : Z_I v1) (σ : Nat → Nat → Int) (q : (Int × (Nat → Nat → Int))) (hf : f_X11_odds v1 σ = some q) : AM l D cA sa ad bs 788 SHp yX11_odds cX11_odds 2 (some .int) 5 [.ref (ad 0), z_i v1] σ (some (z_i q.1)) (Z_I q.1) q.2 := by
  refine am_of (by decide +kernel) (Nat.le_of_ble_eq_true rfl) (fun p e s m args below meth c X hr => ?_)
  refine aw_lv (lv' := [(0, .ref (ad 0)), (1, z_i v1)]) rfl ?_
  unfold f_X11_odds at hf
  refine aw_aload_n X 0 dX11_odds_0 rfl rfl ?_
  obtain ⟨g1, hf⟩ := z_gd hf
  refine aw_getV X s_0 fX11_24 rfl dX11_odds_1 ?_
  obtain ⟨q2, e3, hf⟩ := z_bd hf
  refine aw_callV X [] [] [z_i q2] cX11_140 (sX1_0 ((σ 0 2).toNat) g1) ciX1 (C_X1_isTold l D cA sa ad bs ((σ 0 2).toNat) g1 σ q2 e3) rfl ⟨(Nat.le_of_ble_eq_true rfl), (Nat.le_of_ble_eq_true rfl), (Nat.le_of_ble_eq_true rfl), (Nat.le_of_ble_eq_true rfl)⟩ rfl (Nat.le_of_ble_eq_true rfl) rfl dX11_odds_4 (fun p4 => ?_)
  refine aw_if_eq X (tgt := 39) (z_zI p4) dX11_odds_7 (by decide) (fun h5 => ?_) (fun h5 => ?_)
  · rw [if_pos h5] at hf
    refine aw_iconst X dX11_odds_39 ?_
    obtain rfl := Option.some.inj hf
    exact aw_iret X (z_lit (x := (-1)) (by decide)) hr rfl dX11_odds_40
  · rw [if_neg h5] at hf
    refine aw_iload_n X 1 dX11_odds_10 rfl rfl ?_
    refine aw_if_lt X (tgt := 39) c_v1 dX11_odds_11 (by decide) (fun h6 => ?_) (fun h6 => ?_)
    · rw [if_pos h6] at hf
      refine aw_iconst X dX11_odds_39 ?_
      obtain rfl := Option.some.inj hf
      exact aw_iret X (z_lit (x := (-1)) (by decide)) hr rfl dX11_odds_40
    · rw [if_neg h6] at hf
      refine aw_iload_n X 1 dX11_odds_14 rfl rfl ?_
      refine aw_bipush X dX11_odds_15 (by decide) ?_
      refine aw_icmp_gt X (tgt := 39) c_v1 (z_lit (x := 100) (by decide)) dX11_odds_17 (by decide) (fun h7 => ?_) (fun h7 => ?_)
      · rw [if_pos h7] at hf
        refine aw_iconst X dX11_odds_39 ?_
        obtain rfl := Option.some.inj hf
        exact aw_iret X (z_lit (x := (-1)) (by decide)) hr rfl dX11_odds_40
      · rw [if_neg h7] at hf
        refine aw_aload_n X 0 dX11_odds_20 rfl rfl ?_
        refine aw_getR X s_0 fX11_85 rfl dX11_odds_21 ?_
        refine aw_aload_n X 0 dX11_odds_24 rfl rfl ?_
        obtain ⟨g8, hf⟩ := z_gd hf
        refine aw_getV X s_0 fX11_24 rfl dX11_odds_25 ?_
        refine aw_aload_n X 0 dX11_odds_28 rfl rfl ?_
        refine aw_getR X s_0 fX11_42 rfl dX11_odds_29 ?_
        refine aw_iload_n X 1 dX11_odds_32 rfl rfl ?_
        obtain ⟨q9, e10, hf⟩ := z_bd hf
        refine aw_callV X [.ref (ad ((σ 0 2).toNat)), .ref (ad 173), z_i v1] [] [z_i q9.1] cX11_360 s_745 ciX5 (C_X5_oddsBy l D cA sa ad bs ((σ 0 2).toNat) g8 173 (by decide) v1 c_v1 σ q9 e10) rfl ⟨(Nat.le_of_ble_eq_true rfl), (Nat.le_of_ble_eq_true rfl), (Nat.le_of_ble_eq_true rfl), (Nat.le_of_ble_eq_true rfl)⟩ rfl (Nat.le_of_ble_eq_true rfl) rfl dX11_odds_33 (fun p11 => ?_)
        refine aw_goto X (tgt := 40) dX11_odds_36 (by decide) ?_
        obtain rfl := Option.some.inj hf
        exact aw_iret X p11 hr rfl dX11_odds_40
-- SpeedDesk.step(III)I
section S_X11_step
variable {p : Program} {l : Launch} {e : Env} {s : State} {m : MethodId} {args : Array Value} {below : List Frame} {meth : Method} {c : Code} {D : va_G} {cA : Nat → ClassId} {sa ad : Nat → Nat} {bs : Nat} {q : Int}

end S_X11_step
set_option maxHeartbeats 4000000 in
set_option maxRecDepth 100000 in
theorem C_X11_step (l : Launch) (D : va_G) (cA : Nat → ClassId) (sa ad : Nat → Nat) (bs : Nat) (v1 : Int) (c_v1 : Z_I v1) (v2 : Int) (c_v2 : Z_I v2) (v3 : Int) (c_v3 : Z_I v3) (σ : Nat → Nat → Int) (q : Int) (hf : f_X11_step v1 v2 v3 σ = some q) : AM l D cA sa ad bs 788 SHp yX11_step cX11_step 5 (some .int) 1 [.ref (ad 0), z_i v1, z_i v2, z_i v3] σ (some (z_i q)) (Z_I q) σ := by
  refine am_of (by decide +kernel) (Nat.le_of_ble_eq_true rfl) (fun p e s m args below meth c X hr => ?_)
  refine aw_lv (lv' := [(0, .ref (ad 0)), (1, z_i v1), (2, z_i v2), (3, z_i v3)]) rfl ?_
  unfold f_X11_step at hf
  refine aw_iload_n X 1 dX11_step_0 rfl rfl ?_
  refine aw_if_lt X (tgt := 29) c_v1 dX11_step_1 (by decide) (fun h1 => ?_) (fun h1 => ?_)
  · rw [if_pos h1] at hf
    refine aw_ldc X (x := (-1000000)) dX11_step_29 kX11_181 (by decide) ?_
    obtain rfl := Option.some.inj hf
    exact aw_iret X (z_lit (x := (-1000000)) (by decide)) hr rfl dX11_step_31
  · rw [if_neg h1] at hf
    refine aw_iload_n X 1 dX11_step_4 rfl rfl ?_
    refine aw_aload_n X 0 dX11_step_5 rfl rfl ?_
    refine aw_getI X s_0 fX11_134 rfl dX11_step_6 (fun c2 => ?_)
    refine aw_icmp_ge X (tgt := 29) c_v1 c2 dX11_step_9 (by decide) (fun h3 => ?_) (fun h3 => ?_)
    · rw [if_pos h3] at hf
      refine aw_ldc X (x := (-1000000)) dX11_step_29 kX11_181 (by decide) ?_
      obtain rfl := Option.some.inj hf
      exact aw_iret X (z_lit (x := (-1000000)) (by decide)) hr rfl dX11_step_31
    · rw [if_neg h3] at hf
      refine aw_iload_n X 2 dX11_step_12 rfl rfl ?_
      refine aw_if_lt X (tgt := 29) c_v2 dX11_step_13 (by decide) (fun h4 => ?_) (fun h4 => ?_)
      · rw [if_pos h4] at hf
        refine aw_ldc X (x := (-1000000)) dX11_step_29 kX11_181 (by decide) ?_
        obtain rfl := Option.some.inj hf
        exact aw_iret X (z_lit (x := (-1000000)) (by decide)) hr rfl dX11_step_31
      · rw [if_neg h4] at hf
        refine aw_iload_n X 2 dX11_step_16 rfl rfl ?_
        refine aw_aload_n X 0 dX11_step_17 rfl rfl ?_
        refine aw_getR X s_0 fX11_35 rfl dX11_step_18 ?_
        refine aw_iload_n X 1 dX11_step_21 rfl rfl ?_
        obtain ⟨g5, hf⟩ := z_gd hf
        refine aw_aald X (kd := 0) s_42 (by decide) c_v1 g5.1 g5.2 (tg_script _ (by omega)) dX11_step_22 ?_
        refine aw_getI X (sX6_0 (43 + 26 * v1.toNat) (s_script v1.toNat (by omega))) fX11_363 rfl dX11_step_23 (fun c6 => ?_)
        refine aw_icmp_lt X (tgt := 32) c_v2 c6 dX11_step_26 (by decide) (fun h7 => ?_) (fun h7 => ?_)
        · rw [if_pos h7] at hf
          refine aw_aload_n X 0 dX11_step_32 rfl rfl ?_
          refine aw_getR X s_0 fX11_35 rfl dX11_step_33 ?_
          refine aw_iload_n X 1 dX11_step_36 rfl rfl ?_
          obtain ⟨g8, hf⟩ := z_gd hf
          refine aw_aald X (kd := 0) s_42 (by decide) c_v1 g8.1 g8.2 (tg_script _ (by omega)) dX11_step_37 ?_
          refine aw_getR X (sX6_0 (43 + 26 * v1.toNat) (s_script v1.toNat (by omega))) fX11_366 rfl dX11_step_38 ?_
          refine aw_iload_n X 2 dX11_step_41 rfl rfl ?_
          obtain ⟨g9, hf⟩ := z_gd hf
          refine aw_aald X (kd := 2) (sX6_1 (43 + 26 * v1.toNat) (s_script v1.toNat (by omega))) (by decide) c_v2 g9.1 g9.2 (tg_steps (43 + 26 * v1.toNat) _ (by omega)) dX11_step_42 ?_
          refine aw_astore X [(4, .ref (ad (43 + 26 * v1.toNat + 2 + 2 * v2.toNat))), (0, .ref (ad 0)), (1, z_i v1), (2, z_i v2), (3, z_i v3)] dX11_step_43 (by decide) rfl ?_
          refine aw_iload_n X 4 dX11_step_45 rfl rfl ?_
          refine aw_if_ne X (tgt := 55) c_v3 dX11_step_46 (by decide) (fun h10 => ?_) (fun h10 => ?_)
          · rw [if_neg h10] at hf
            refine aw_iload_n X 4 dX11_step_55 rfl rfl ?_
            refine aw_iconst X dX11_step_56 ?_
            refine aw_icmp_lt X (tgt := 70) c_v3 (z_lit (x := 1) (by decide)) dX11_step_57 (by decide) (fun h11 => ?_) (fun h11 => ?_)
            · rw [if_pos h11] at hf
              refine aw_ldc X (x := (-1000000)) dX11_step_70 kX11_181 (by decide) ?_
              obtain rfl := Option.some.inj hf
              exact aw_iret X (z_lit (x := (-1000000)) (by decide)) hr rfl dX11_step_72
            · rw [if_neg h11] at hf
              refine aw_iload_n X 4 dX11_step_60 rfl rfl ?_
              refine aw_aload X 0 dX11_step_61 rfl ?_
              refine aw_getR X (sX8_0 (43 + 26 * v1.toNat + 2 + 2 * v2.toNat) (sX6_step (43 + 26 * v1.toNat) (s_script v1.toNat (by omega)) v2.toNat (by omega))) fX11_373 rfl dX11_step_63 ?_
              refine aw_alenI X (x := 3) (sX8_1 (43 + 26 * v1.toNat + 2 + 2 * v2.toNat) (sX6_step (43 + 26 * v1.toNat) (s_script v1.toNat (by omega)) v2.toNat (by omega))) rfl dX11_step_66 ?_
              refine aw_icmp_le X (tgt := 73) c_v3 (z_lit (x := 3) (by decide)) dX11_step_67 (by decide) (fun h12 => ?_) (fun h12 => ?_)
              · rw [if_pos h12] at hf
                refine aw_iload_n X 4 dX11_step_73 rfl rfl ?_
                refine aw_aload X 0 dX11_step_74 rfl ?_
                obtain ⟨q13, e14, hf⟩ := z_bd hf
                refine aw_callV X [] [z_i v3] [z_i q13, z_i v3] cX11_376 (sX8_0 (43 + 26 * v1.toNat + 2 + 2 * v2.toNat) (sX6_step (43 + 26 * v1.toNat) (s_script v1.toNat (by omega)) v2.toNat (by omega))) ciX8 (C_X8_numbersTold l D cA sa ad bs (43 + 26 * v1.toNat + 2 + 2 * v2.toNat) (sX6_step (43 + 26 * v1.toNat) (s_script v1.toNat (by omega)) v2.toNat (by omega)) σ q13 e14) rfl ⟨(Nat.le_of_ble_eq_true rfl), (Nat.le_of_ble_eq_true rfl), (Nat.le_of_ble_eq_true rfl), (Nat.le_of_ble_eq_true rfl)⟩ rfl (Nat.le_of_ble_eq_true rfl) rfl dX11_step_76 (fun p15 => ?_)
                refine aw_icmp_gt X (tgt := 94) c_v3 p15 dX11_step_79 (by decide) (fun h16 => ?_) (fun h16 => ?_)
                · rw [if_pos h16] at hf
                  refine aw_iconst X dX11_step_94 ?_
                  obtain rfl := Option.some.inj hf
                  exact aw_iret X (z_lit (x := (-1)) (by decide)) hr rfl dX11_step_95
                · rw [if_neg h16] at hf
                  refine aw_aload X 0 dX11_step_82 rfl ?_
                  refine aw_getR X (sX8_0 (43 + 26 * v1.toNat + 2 + 2 * v2.toNat) (sX6_step (43 + 26 * v1.toNat) (s_script v1.toNat (by omega)) v2.toNat (by omega))) fX11_373 rfl dX11_step_84 ?_
                  refine aw_iload_n X 4 dX11_step_87 rfl rfl ?_
                  refine aw_iconst X dX11_step_88 ?_
                  refine aw_isub X dX11_step_89 ?_
                  obtain ⟨g17, hf⟩ := z_gd hf
                  refine aw_iald X (j := (z_w (v3 - 1)).toNat) (sX8_1 (43 + 26 * v1.toNat + 2 + 2 * v2.toNat) (sX6_step (43 + 26 * v1.toNat) (s_script v1.toNat (by omega)) v2.toNat (by omega))) (z_w_in _) g17.1 g17.2 rfl dX11_step_90 (fun c18 => ?_)
                  refine aw_goto X (tgt := 95) dX11_step_91 (by decide) ?_
                  obtain rfl := Option.some.inj hf
                  exact aw_iret X c18 hr rfl dX11_step_95
              · rw [if_neg h12] at hf
                refine aw_ldc X (x := (-1000000)) dX11_step_70 kX11_181 (by decide) ?_
                obtain rfl := Option.some.inj hf
                exact aw_iret X (z_lit (x := (-1000000)) (by decide)) hr rfl dX11_step_72
          · rw [if_pos h10] at hf
            refine aw_aload X 0 dX11_step_49 rfl ?_
            refine aw_getI X (sX8_0 (43 + 26 * v1.toNat + 2 + 2 * v2.toNat) (sX6_step (43 + 26 * v1.toNat) (s_script v1.toNat (by omega)) v2.toNat (by omega))) fX11_370 rfl dX11_step_51 (fun c19 => ?_)
            obtain rfl := Option.some.inj hf
            exact aw_iret X c19 hr rfl dX11_step_54
        · rw [if_neg h7] at hf
          refine aw_ldc X (x := (-1000000)) dX11_step_29 kX11_181 (by decide) ?_
          obtain rfl := Option.some.inj hf
          exact aw_iret X (z_lit (x := (-1000000)) (by decide)) hr rfl dX11_step_31
-- SpeedDesk.runOnTrial(LSpeedDesk$Script;)I
section S_X11_runOnTrial
variable {p : Program} {l : Launch} {e : Env} {s : State} {m : MethodId} {args : Array Value} {below : List Frame} {meth : Method} {c : Code} {D : va_G} {cA : Nat → ClassId} {sa ad : Nat → Nat} {bs : Nat} {q : (Int × (Nat → Nat → Int))}
set_option maxHeartbeats 4000000 in
set_option maxRecDepth 100000 in
theorem A_X11_runOnTrial_2 (X : AX p s m args meth c D cA sa bs cX11_runOnTrial 3 RX11) (hr : meth.sig.returnType = (some .int)) : ∀ (k : Nat) (a1 : Nat) (h_a1 : a1 ∈ ax_iX6) (v2 : Int) (c_v2 : Z_I v2) (σ : Nat → Nat → Int), f_X11_runOnTrial_2 k a1 v2 σ = some q → AW p l e (ax_rm 6 0 0) s m args below meth c D cA ad bs 788 SHp 0 0 (ax_MQ below args s D cA ad bs 788 SHp 0 0 (some (z_i q.1)) (Z_I q.1) q.2) 3 2 [(0, .ref (ad 0)), (1, .ref (ad a1)), (2, z_i v2)] [] σ := by
  intro k
  induction k with
  | zero =>
    intro a1 h_a1 v2 c_v2 σ hf
    unfold f_X11_runOnTrial_2 at hf
    cases hf
  | succ k ih =>
    intro a1 h_a1 v2 c_v2 σ hf
    unfold f_X11_runOnTrial_2 at hf
    refine aw_iload_n X 2 dX11_runOnTrial_2 rfl rfl ?_
    refine aw_aload_n X 1 dX11_runOnTrial_3 rfl rfl ?_
    refine aw_getI X (sX6_0 a1 h_a1) fX11_363 rfl dX11_runOnTrial_4 (fun c1 => ?_)
    refine aw_icmp_ge X (tgt := 65) c_v2 c1 dX11_runOnTrial_7 (by decide) (fun h2 => ?_) (fun h2 => ?_)
    · rw [if_pos h2] at hf
      refine aw_aload_n X 1 dX11_runOnTrial_65 rfl rfl ?_
      refine aw_getI X (sX6_0 a1 h_a1) fX11_363 rfl dX11_runOnTrial_66 (fun c3 => ?_)
      obtain rfl := Option.some.inj hf
      exact aw_iret X c3 hr rfl dX11_runOnTrial_69
    · rw [if_neg h2] at hf
      refine aw_aload_n X 0 dX11_runOnTrial_10 rfl rfl ?_
      refine aw_getR X s_0 fX11_72 rfl dX11_runOnTrial_11 ?_
      refine aw_aload_n X 0 dX11_runOnTrial_14 rfl rfl ?_
      obtain ⟨g4, hf⟩ := z_gd hf
      refine aw_getV X s_0 fX11_24 rfl dX11_runOnTrial_15 ?_
      refine aw_aload_n X 0 dX11_runOnTrial_18 rfl rfl ?_
      refine aw_getR X s_0 fX11_46 rfl dX11_runOnTrial_19 ?_
      refine aw_aload_n X 1 dX11_runOnTrial_22 rfl rfl ?_
      refine aw_getR X (sX6_0 a1 h_a1) fX11_366 rfl dX11_runOnTrial_23 ?_
      refine aw_iload_n X 2 dX11_runOnTrial_26 rfl rfl ?_
      obtain ⟨g5, hf⟩ := z_gd hf
      refine aw_aald X (kd := 2) (sX6_1 a1 h_a1) (by decide) c_v2 g5.1 g5.2 (tg_steps a1 _ (by omega)) dX11_runOnTrial_27 ?_
      obtain ⟨q6, e7, hf⟩ := z_bd hf
      refine aw_callV X [.ref (ad ((σ 0 2).toNat)), .ref (ad 186), .ref (ad (a1 + 2 + 2 * v2.toNat))] [] [z_i q6.1] cX11_382 s_742 ciX0 (C_X0_refusalOf l D cA sa ad bs ((σ 0 2).toNat) g4 186 (by decide) (a1 + 2 + 2 * v2.toNat) (sX6_step a1 h_a1 v2.toNat (by omega)) σ q6 e7) rfl ⟨(Nat.le_of_ble_eq_true rfl), (Nat.le_of_ble_eq_true rfl), (Nat.le_of_ble_eq_true rfl), (Nat.le_of_ble_eq_true rfl)⟩ rfl (Nat.le_of_ble_eq_true rfl) rfl dX11_runOnTrial_28 (fun p8 => ?_)
      refine aw_iconst X dX11_runOnTrial_31 ?_
      refine aw_icmp_eq X (tgt := 37) p8 (z_lit (x := (-1)) (by decide)) dX11_runOnTrial_32 (by decide) (fun h9 => ?_) (fun h9 => ?_)
      · rw [if_pos h9] at hf
        refine aw_aload_n X 0 dX11_runOnTrial_37 rfl rfl ?_
        refine aw_getR X s_0 fX11_72 rfl dX11_runOnTrial_38 ?_
        refine aw_aload_n X 0 dX11_runOnTrial_41 rfl rfl ?_
        obtain ⟨g10, hf⟩ := z_gd hf
        refine aw_getV X s_0 fX11_24 rfl dX11_runOnTrial_42 ?_
        refine aw_aload_n X 0 dX11_runOnTrial_45 rfl rfl ?_
        refine aw_getR X s_0 fX11_46 rfl dX11_runOnTrial_46 ?_
        refine aw_aload_n X 1 dX11_runOnTrial_49 rfl rfl ?_
        refine aw_getR X (sX6_0 a1 h_a1) fX11_366 rfl dX11_runOnTrial_50 ?_
        refine aw_iload_n X 2 dX11_runOnTrial_53 rfl rfl ?_
        obtain ⟨g11, hf⟩ := z_gd hf
        refine aw_aald X (kd := 2) (sX6_1 a1 h_a1) (by decide) c_v2 g11.1 g11.2 (tg_steps a1 _ (by omega)) dX11_runOnTrial_54 ?_
        obtain ⟨q12, e13, hf⟩ := z_bd hf
        refine aw_callV X [.ref (ad ((q6.2 0 2).toNat)), .ref (ad 186), .ref (ad (a1 + 2 + 2 * v2.toNat))] [] [z_i q12.1] cX11_458 s_742 ciX0 (C_X0_carryOut l D cA sa ad bs ((q6.2 0 2).toNat) g10 186 (by decide) (a1 + 2 + 2 * v2.toNat) (sX6_step a1 h_a1 v2.toNat (by omega)) q6.2 q12 e13) rfl ⟨(Nat.le_of_ble_eq_true rfl), (Nat.le_of_ble_eq_true rfl), (Nat.le_of_ble_eq_true rfl), (Nat.le_of_ble_eq_true rfl)⟩ rfl (Nat.le_of_ble_eq_true rfl) rfl dX11_runOnTrial_55 (fun p14 => ?_)
        refine aw_pop X dX11_runOnTrial_58 rfl ?_
        refine aw_iinc X 2 [(2, z_i (z_w (v2 + 1))), (0, .ref (ad 0)), (1, .ref (ad a1))] dX11_runOnTrial_59 rfl (by decide) rfl ?_
        refine aw_goto X (tgt := 2) dX11_runOnTrial_62 (by decide) ?_
        refine aw_sub [1, 2, 0] rfl ?_
        exact ih a1 h_a1 (z_w (v2 + 1)) (z_w_in _) q12.2 hf
      · rw [if_neg h9] at hf
        refine aw_iload_n X 2 dX11_runOnTrial_35 rfl rfl ?_
        obtain rfl := Option.some.inj hf
        exact aw_iret X c_v2 hr rfl dX11_runOnTrial_36
end S_X11_runOnTrial
set_option maxHeartbeats 4000000 in
set_option maxRecDepth 100000 in
theorem C_X11_runOnTrial (l : Launch) (D : va_G) (cA : Nat → ClassId) (sa ad : Nat → Nat) (bs : Nat) (a1 : Nat) (h_a1 : a1 ∈ ax_iX6) (σ : Nat → Nat → Int) (q : (Int × (Nat → Nat → Int))) (hf : f_X11_runOnTrial a1 σ = some q) : AM l D cA sa ad bs 788 SHp yX11_runOnTrial cX11_runOnTrial 3 (some .int) 6 [.ref (ad 0), .ref (ad a1)] σ (some (z_i q.1)) (Z_I q.1) q.2 := by
  refine am_of (by decide +kernel) (Nat.le_of_ble_eq_true rfl) (fun p e s m args below meth c X hr => ?_)
  refine aw_lv (lv' := [(0, .ref (ad 0)), (1, .ref (ad a1))]) rfl ?_
  unfold f_X11_runOnTrial at hf
  refine aw_iconst X dX11_runOnTrial_0 ?_
  refine aw_istore_n X [(2, z_i 0), (0, .ref (ad 0)), (1, .ref (ad a1))] dX11_runOnTrial_1 rfl (by decide) rfl ?_
  refine aw_sub [1, 2, 0] rfl ?_
  exact A_X11_runOnTrial_2 X hr 100000 a1 h_a1 0 (z_lit (x := 0) (by decide)) σ hf
-- SpeedDesk.run(II)I
section S_X11_run
variable {p : Program} {l : Launch} {e : Env} {s : State} {m : MethodId} {args : Array Value} {below : List Frame} {meth : Method} {c : Code} {D : va_G} {cA : Nat → ClassId} {sa ad : Nat → Nat} {bs : Nat} {q : (Int × (Nat → Nat → Int))}

end S_X11_run
set_option maxHeartbeats 4000000 in
set_option maxRecDepth 100000 in
theorem C_X11_run (l : Launch) (D : va_G) (cA : Nat → ClassId) (sa ad : Nat → Nat) (bs : Nat) (v1 : Int) (c_v1 : Z_I v1) (v2 : Int) (c_v2 : Z_I v2) (σ : Nat → Nat → Int) (q : (Int × (Nat → Nat → Int))) (hf : f_X11_run v1 v2 σ = some q) : AM l D cA sa ad bs 788 SHp yX11_run cX11_run 4 (some .int) 7 [.ref (ad 0), z_i v1, z_i v2] σ (some (z_i q.1)) (Z_I q.1) q.2 := by
  refine am_of (by decide +kernel) (Nat.le_of_ble_eq_true rfl) (fun p e s m args below meth c X hr => ?_)
  refine aw_lv (lv' := [(0, .ref (ad 0)), (1, z_i v1), (2, z_i v2)]) rfl ?_
  unfold f_X11_run at hf
  refine aw_aload_n X 0 dX11_run_0 rfl rfl ?_
  obtain ⟨g1, hf⟩ := z_gd hf
  refine aw_getV X s_0 fX11_24 rfl dX11_run_1 ?_
  obtain ⟨q2, e3, hf⟩ := z_bd hf
  refine aw_callV X [] [] [z_i q2] cX11_140 (sX1_0 ((σ 0 2).toNat) g1) ciX1 (C_X1_isTold l D cA sa ad bs ((σ 0 2).toNat) g1 σ q2 e3) rfl ⟨(Nat.le_of_ble_eq_true rfl), (Nat.le_of_ble_eq_true rfl), (Nat.le_of_ble_eq_true rfl), (Nat.le_of_ble_eq_true rfl)⟩ rfl (Nat.le_of_ble_eq_true rfl) rfl dX11_run_4 (fun p4 => ?_)
  refine aw_if_eq X (tgt := 31) (z_zI p4) dX11_run_7 (by decide) (fun h5 => ?_) (fun h5 => ?_)
  · rw [if_pos h5] at hf
    refine aw_ldc X (x := (-1000000)) dX11_run_31 kX11_181 (by decide) ?_
    obtain rfl := Option.some.inj hf
    exact aw_iret X (z_lit (x := (-1000000)) (by decide)) hr rfl dX11_run_33
  · rw [if_neg h5] at hf
    refine aw_iload_n X 1 dX11_run_10 rfl rfl ?_
    refine aw_if_lt X (tgt := 31) c_v1 dX11_run_11 (by decide) (fun h6 => ?_) (fun h6 => ?_)
    · rw [if_pos h6] at hf
      refine aw_ldc X (x := (-1000000)) dX11_run_31 kX11_181 (by decide) ?_
      obtain rfl := Option.some.inj hf
      exact aw_iret X (z_lit (x := (-1000000)) (by decide)) hr rfl dX11_run_33
    · rw [if_neg h6] at hf
      refine aw_iload_n X 1 dX11_run_14 rfl rfl ?_
      refine aw_aload_n X 0 dX11_run_15 rfl rfl ?_
      refine aw_getI X s_0 fX11_134 rfl dX11_run_16 (fun c7 => ?_)
      refine aw_icmp_ge X (tgt := 31) c_v1 c7 dX11_run_19 (by decide) (fun h8 => ?_) (fun h8 => ?_)
      · rw [if_pos h8] at hf
        refine aw_ldc X (x := (-1000000)) dX11_run_31 kX11_181 (by decide) ?_
        obtain rfl := Option.some.inj hf
        exact aw_iret X (z_lit (x := (-1000000)) (by decide)) hr rfl dX11_run_33
      · rw [if_neg h8] at hf
        refine aw_iload_n X 2 dX11_run_22 rfl rfl ?_
        refine aw_if_lt X (tgt := 31) c_v2 dX11_run_23 (by decide) (fun h9 => ?_) (fun h9 => ?_)
        · rw [if_pos h9] at hf
          refine aw_ldc X (x := (-1000000)) dX11_run_31 kX11_181 (by decide) ?_
          obtain rfl := Option.some.inj hf
          exact aw_iret X (z_lit (x := (-1000000)) (by decide)) hr rfl dX11_run_33
        · rw [if_neg h9] at hf
          refine aw_iload_n X 2 dX11_run_26 rfl rfl ?_
          refine aw_iconst X dX11_run_27 ?_
          refine aw_icmp_le X (tgt := 34) c_v2 (z_lit (x := 1) (by decide)) dX11_run_28 (by decide) (fun h10 => ?_) (fun h10 => ?_)
          · rw [if_pos h10] at hf
            refine aw_aload_n X 0 dX11_run_34 rfl rfl ?_
            refine aw_getR X s_0 fX11_46 rfl dX11_run_35 ?_
            refine aw_aload_n X 0 dX11_run_38 rfl rfl ?_
            refine aw_getR X s_0 fX11_42 rfl dX11_run_39 ?_
            obtain ⟨q11, e12, hf⟩ := z_bd hf
            refine aw_callV X [.ref (ad 173)] [] [] cX11_331 (sX7_0 186 (by decide)) ciX7 (C_X7_copyFrom l D cA sa ad bs 186 (by decide) 173 (by decide) σ q11 e12) rfl ⟨(Nat.le_of_ble_eq_true rfl), (Nat.le_of_ble_eq_true rfl), (Nat.le_of_ble_eq_true rfl), (Nat.le_of_ble_eq_true rfl)⟩ rfl (Nat.le_of_ble_eq_true rfl) rfl dX11_run_42 (fun p13 => ?_)
            refine aw_aload_n X 0 dX11_run_45 rfl rfl ?_
            refine aw_aload_n X 0 dX11_run_46 rfl rfl ?_
            refine aw_getR X s_0 fX11_35 rfl dX11_run_47 ?_
            refine aw_iload_n X 1 dX11_run_50 rfl rfl ?_
            obtain ⟨g14, hf⟩ := z_gd hf
            refine aw_aald X (kd := 0) s_42 (by decide) c_v1 g14.1 g14.2 (tg_script _ (by omega)) dX11_run_51 ?_
            obtain ⟨q15, e16, hf⟩ := z_bd hf
            refine aw_callV X [.ref (ad (43 + 26 * v1.toNat))] [] [z_i q15.1] cX11_379 s_0 ciX11 (C_X11_runOnTrial l D cA sa ad bs (43 + 26 * v1.toNat) (s_script v1.toNat (by omega)) q11 q15 e16) rfl ⟨(Nat.le_of_ble_eq_true rfl), (Nat.le_of_ble_eq_true rfl), (Nat.le_of_ble_eq_true rfl), (Nat.le_of_ble_eq_true rfl)⟩ rfl (Nat.le_of_ble_eq_true rfl) rfl dX11_run_52 (fun p17 => ?_)
            refine aw_istore_n X [(3, z_i q15.1), (0, .ref (ad 0)), (1, z_i v1), (2, z_i v2)] dX11_run_55 rfl (by decide) rfl ?_
            refine aw_iload_n X 3 dX11_run_56 rfl rfl ?_
            refine aw_iconst X dX11_run_57 ?_
            refine aw_icmp_ne X (tgt := 69) c_v2 (z_lit (x := 1) (by decide)) dX11_run_58 (by decide) (fun h18 => ?_) (fun h18 => ?_)
            · rw [if_neg h18] at hf
              refine aw_iload_n X 0 dX11_run_69 rfl rfl ?_
              refine aw_aload_n X 1 dX11_run_70 rfl rfl ?_
              refine aw_getR X s_0 fX11_35 rfl dX11_run_71 ?_
              refine aw_iload_n X 2 dX11_run_74 rfl rfl ?_
              obtain ⟨g19, hf⟩ := z_gd hf
              refine aw_aald X (kd := 0) s_42 (by decide) c_v1 g19.1 g19.2 (tg_script _ (by omega)) dX11_run_75 ?_
              refine aw_getI X (sX6_0 (43 + 26 * v1.toNat) (s_script v1.toNat (by omega))) fX11_363 rfl dX11_run_76 (fun c20 => ?_)
              refine aw_icmp_ne X (tgt := 86) p17 c20 dX11_run_79 (by decide) (fun h21 => ?_) (fun h21 => ?_)
              · rw [if_neg h21] at hf
                refine aw_iload_n X 0 dX11_run_86 rfl rfl ?_
                obtain rfl := Option.some.inj hf
                exact aw_iret X p17 hr rfl dX11_run_87
              · rw [if_pos h21] at hf
                refine aw_iconst X dX11_run_82 ?_
                refine aw_goto X (tgt := 87) dX11_run_83 (by decide) ?_
                obtain rfl := Option.some.inj hf
                exact aw_iret X (z_lit (x := (-1)) (by decide)) hr rfl dX11_run_87
            · rw [if_pos h18] at hf
              refine aw_aload_n X 1 dX11_run_61 rfl rfl ?_
              refine aw_getR X s_0 fX11_46 rfl dX11_run_62 ?_
              refine aw_getI X (sX7_0 186 (by decide)) fX11_338 rfl dX11_run_65 (fun c22 => ?_)
              obtain rfl := Option.some.inj hf
              exact aw_iret X c22 hr rfl dX11_run_68
          · rw [if_neg h10] at hf
            refine aw_ldc X (x := (-1000000)) dX11_run_31 kX11_181 (by decide) ?_
            obtain rfl := Option.some.inj hf
            exact aw_iret X (z_lit (x := (-1000000)) (by decide)) hr rfl dX11_run_33
-- SpeedDesk.perform(I)I
section S_X11_perform
variable {p : Program} {l : Launch} {e : Env} {s : State} {m : MethodId} {args : Array Value} {below : List Frame} {meth : Method} {c : Code} {D : va_G} {cA : Nat → ClassId} {sa ad : Nat → Nat} {bs : Nat} {q : (Int × (Nat → Nat → Int))}
set_option maxHeartbeats 4000000 in
set_option maxRecDepth 100000 in
theorem A_X11_perform_33 (X : AX p s m args meth c D cA sa bs cX11_perform 4 RX11) (hr : meth.sig.returnType = (some .int)) : ∀ (k : Nat) (a2 : Nat) (h_a2 : a2 ∈ ax_iX6) (v3 : Int) (c_v3 : Z_I v3) (σ : Nat → Nat → Int), f_X11_perform_33 k a2 v3 σ = some q → AW p l e (ax_rm 6 0 0) s m args below meth c D cA ad bs 788 SHp 0 0 (ax_MQ below args s D cA ad bs 788 SHp 0 0 (some (z_i q.1)) (Z_I q.1) q.2) 4 33 [(0, .ref (ad 0)), (2, .ref (ad a2)), (3, z_i v3)] [] σ := by
  intro k
  induction k with
  | zero =>
    intro a2 h_a2 v3 c_v3 σ hf
    unfold f_X11_perform_33 at hf
    cases hf
  | succ k ih =>
    intro a2 h_a2 v3 c_v3 σ hf
    unfold f_X11_perform_33 at hf
    refine aw_iload_n X 2 dX11_perform_33 rfl rfl ?_
    refine aw_aload_n X 1 dX11_perform_34 rfl rfl ?_
    refine aw_getI X (sX6_0 a2 h_a2) fX11_363 rfl dX11_perform_35 (fun c10 => ?_)
    refine aw_icmp_ge X (tgt := 85) c_v3 c10 dX11_perform_38 (by decide) (fun h11 => ?_) (fun h11 => ?_)
    · rw [if_pos h11] at hf
      refine aw_aload_n X 1 dX11_perform_85 rfl rfl ?_
      refine aw_getI X (sX6_0 a2 h_a2) fX11_363 rfl dX11_perform_86 (fun c12 => ?_)
      obtain rfl := Option.some.inj hf
      exact aw_iret X c12 hr rfl dX11_perform_89
    · rw [if_neg h11] at hf
      refine aw_aload_n X 0 dX11_perform_41 rfl rfl ?_
      refine aw_getR X s_0 fX11_72 rfl dX11_perform_42 ?_
      refine aw_aload_n X 0 dX11_perform_45 rfl rfl ?_
      obtain ⟨g13, hf⟩ := z_gd hf
      refine aw_getV X s_0 fX11_24 rfl dX11_perform_46 ?_
      refine aw_aload_n X 0 dX11_perform_49 rfl rfl ?_
      refine aw_getR X s_0 fX11_42 rfl dX11_perform_50 ?_
      refine aw_aload_n X 1 dX11_perform_53 rfl rfl ?_
      refine aw_getR X (sX6_0 a2 h_a2) fX11_366 rfl dX11_perform_54 ?_
      refine aw_iload_n X 2 dX11_perform_57 rfl rfl ?_
      obtain ⟨g14, hf⟩ := z_gd hf
      refine aw_aald X (kd := 2) (sX6_1 a2 h_a2) (by decide) c_v3 g14.1 g14.2 (tg_steps a2 _ (by omega)) dX11_perform_58 ?_
      obtain ⟨q15, e16, hf⟩ := z_bd hf
      refine aw_callV X [.ref (ad ((σ 0 2).toNat)), .ref (ad 173), .ref (ad (a2 + 2 + 2 * v3.toNat))] [] [z_i q15.1] cX11_382 s_742 ciX0 (C_X0_refusalOf l D cA sa ad bs ((σ 0 2).toNat) g13 173 (by decide) (a2 + 2 + 2 * v3.toNat) (sX6_step a2 h_a2 v3.toNat (by omega)) σ q15 e16) rfl ⟨(Nat.le_of_ble_eq_true rfl), (Nat.le_of_ble_eq_true rfl), (Nat.le_of_ble_eq_true rfl), (Nat.le_of_ble_eq_true rfl)⟩ rfl (Nat.le_of_ble_eq_true rfl) rfl dX11_perform_59 (fun p17 => ?_)
      refine aw_iconst X dX11_perform_62 ?_
      refine aw_icmp_eq X (tgt := 68) p17 (z_lit (x := (-1)) (by decide)) dX11_perform_63 (by decide) (fun h18 => ?_) (fun h18 => ?_)
      · rw [if_pos h18] at hf
        refine aw_aload_n X 0 dX11_perform_68 rfl rfl ?_
        refine aw_aload_n X 1 dX11_perform_69 rfl rfl ?_
        refine aw_getR X (sX6_0 a2 h_a2) fX11_366 rfl dX11_perform_70 ?_
        refine aw_iload_n X 2 dX11_perform_73 rfl rfl ?_
        obtain ⟨g19, hf⟩ := z_gd hf
        refine aw_aald X (kd := 2) (sX6_1 a2 h_a2) (by decide) c_v3 g19.1 g19.2 (tg_steps a2 _ (by omega)) dX11_perform_74 ?_
        obtain ⟨q20, e21, hf⟩ := z_bd hf
        refine aw_callV X [.ref (ad (a2 + 2 + 2 * v3.toNat))] [] [z_i q20.1] cX11_386 s_0 ciX11 (C_X11_doAct l D cA sa ad bs (a2 + 2 + 2 * v3.toNat) (sX6_step a2 h_a2 v3.toNat (by omega)) q15.2 q20 e21) rfl ⟨(Nat.le_of_ble_eq_true rfl), (Nat.le_of_ble_eq_true rfl), (Nat.le_of_ble_eq_true rfl), (Nat.le_of_ble_eq_true rfl)⟩ rfl (Nat.le_of_ble_eq_true rfl) rfl dX11_perform_75 (fun p22 => ?_)
        refine aw_pop X dX11_perform_78 rfl ?_
        refine aw_iinc X 2 [(3, z_i (z_w (v3 + 1))), (0, .ref (ad 0)), (2, .ref (ad a2))] dX11_perform_79 rfl (by decide) rfl ?_
        refine aw_goto X (tgt := 33) dX11_perform_82 (by decide) ?_
        refine aw_sub [1, 2, 0] rfl ?_
        exact ih a2 h_a2 (z_w (v3 + 1)) (z_w_in _) q20.2 hf
      · rw [if_neg h18] at hf
        refine aw_iload_n X 2 dX11_perform_66 rfl rfl ?_
        obtain rfl := Option.some.inj hf
        exact aw_iret X c_v3 hr rfl dX11_perform_67
end S_X11_perform
set_option maxHeartbeats 4000000 in
set_option maxRecDepth 100000 in
theorem C_X11_perform (l : Launch) (D : va_G) (cA : Nat → ClassId) (sa ad : Nat → Nat) (bs : Nat) (v1 : Int) (c_v1 : Z_I v1) (σ : Nat → Nat → Int) (q : (Int × (Nat → Nat → Int))) (hf : f_X11_perform v1 σ = some q) : AM l D cA sa ad bs 788 SHp yX11_perform cX11_perform 4 (some .int) 6 [.ref (ad 0), z_i v1] σ (some (z_i q.1)) (Z_I q.1) q.2 := by
  refine am_of (by decide +kernel) (Nat.le_of_ble_eq_true rfl) (fun p e s m args below meth c X hr => ?_)
  refine aw_lv (lv' := [(0, .ref (ad 0)), (1, z_i v1)]) rfl ?_
  unfold f_X11_perform at hf
  refine aw_aload_n X 0 dX11_perform_0 rfl rfl ?_
  obtain ⟨g1, hf⟩ := z_gd hf
  refine aw_getV X s_0 fX11_24 rfl dX11_perform_1 ?_
  obtain ⟨q2, e3, hf⟩ := z_bd hf
  refine aw_callV X [] [] [z_i q2] cX11_140 (sX1_0 ((σ 0 2).toNat) g1) ciX1 (C_X1_isTold l D cA sa ad bs ((σ 0 2).toNat) g1 σ q2 e3) rfl ⟨(Nat.le_of_ble_eq_true rfl), (Nat.le_of_ble_eq_true rfl), (Nat.le_of_ble_eq_true rfl), (Nat.le_of_ble_eq_true rfl)⟩ rfl (Nat.le_of_ble_eq_true rfl) rfl dX11_perform_4 (fun p4 => ?_)
  refine aw_if_eq X (tgt := 22) (z_zI p4) dX11_perform_7 (by decide) (fun h5 => ?_) (fun h5 => ?_)
  · rw [if_pos h5] at hf
    refine aw_iconst X dX11_perform_22 ?_
    obtain rfl := Option.some.inj hf
    exact aw_iret X (z_lit (x := (-1)) (by decide)) hr rfl dX11_perform_23
  · rw [if_neg h5] at hf
    refine aw_iload_n X 1 dX11_perform_10 rfl rfl ?_
    refine aw_if_lt X (tgt := 22) c_v1 dX11_perform_11 (by decide) (fun h6 => ?_) (fun h6 => ?_)
    · rw [if_pos h6] at hf
      refine aw_iconst X dX11_perform_22 ?_
      obtain rfl := Option.some.inj hf
      exact aw_iret X (z_lit (x := (-1)) (by decide)) hr rfl dX11_perform_23
    · rw [if_neg h6] at hf
      refine aw_iload_n X 1 dX11_perform_14 rfl rfl ?_
      refine aw_aload_n X 0 dX11_perform_15 rfl rfl ?_
      refine aw_getI X s_0 fX11_134 rfl dX11_perform_16 (fun c7 => ?_)
      refine aw_icmp_lt X (tgt := 24) c_v1 c7 dX11_perform_19 (by decide) (fun h8 => ?_) (fun h8 => ?_)
      · rw [if_pos h8] at hf
        refine aw_aload_n X 0 dX11_perform_24 rfl rfl ?_
        refine aw_getR X s_0 fX11_35 rfl dX11_perform_25 ?_
        refine aw_iload_n X 1 dX11_perform_28 rfl rfl ?_
        obtain ⟨g9, hf⟩ := z_gd hf
        refine aw_aald X (kd := 0) s_42 (by decide) c_v1 g9.1 g9.2 (tg_script _ (by omega)) dX11_perform_29 ?_
        refine aw_astore_n X [(2, .ref (ad (43 + 26 * v1.toNat))), (0, .ref (ad 0)), (1, z_i v1)] dX11_perform_30 rfl (by decide) rfl ?_
        refine aw_iconst X dX11_perform_31 ?_
        refine aw_istore_n X [(3, z_i 0), (2, .ref (ad (43 + 26 * v1.toNat))), (0, .ref (ad 0)), (1, z_i v1)] dX11_perform_32 rfl (by decide) rfl ?_
        refine aw_sub [2, 1, 0] rfl ?_
        exact A_X11_perform_33 X hr 100000 (43 + 26 * v1.toNat) (s_script v1.toNat (by omega)) 0 (z_lit (x := 0) (by decide)) σ hf
      · rw [if_neg h8] at hf
        refine aw_iconst X dX11_perform_22 ?_
        obtain rfl := Option.some.inj hf
        exact aw_iret X (z_lit (x := (-1)) (by decide)) hr rfl dX11_perform_23
