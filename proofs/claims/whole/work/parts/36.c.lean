-- SpeedDesk.count(I)I
def f_X11_count (v1 : Int) (σ : Nat → Nat → Int) : Option Int := if v1 = 0 then (if (σ 0 2).toNat ∈ ax_iX1 then some (σ ((σ 0 2).toNat) 0) else none) else if v1 = 1 then (some (σ 0 5)) else if v1 = 2 then (some (σ 2 1)) else if v1 = 3 then ((f_X11_logLength σ).bind fun q9 => some q9) else if v1 = 4 then (some (σ 220 2)) else if v1 = 5 then (if (σ 0 2).toNat ∈ ax_iX1 then some (σ ((σ 0 2).toNat) 1) else none) else if v1 = 6 then (some (σ 173 4)) else (some (-1000000))
section S_X11_count
variable {p : Program} {l : Launch} {e : Env} {s : State} {m : MethodId} {args : Array Value} {below : List Frame} {meth : Method} {c : Code} {D : va_G} {cA : Nat → ClassId} {sa : Nat → Nat} {bs : Nat} {q : Int}

end S_X11_count
set_option maxHeartbeats 4000000 in
set_option maxRecDepth 100000 in
theorem C_X11_count (l : Launch) (D : va_G) (cA : Nat → ClassId) (sa : Nat → Nat) (bs : Nat) (v1 : Int) (c_v1 : Z_I v1) (σ : Nat → Nat → Int) (q : Int) (hf : f_X11_count v1 σ = some q) : AM l D cA sa bs 787 SH yX11_count cX11_count 2 (some .int) 2 [.ref (bs + 0), z_i v1] σ (some (z_i q)) (Z_I q) σ := by
  refine am_of (by decide +kernel) (Nat.le_of_ble_eq_true rfl) (fun p e s m args below meth c X hr => ?_)
  refine aw_lv (lv' := [(0, .ref (bs + 0)), (1, z_i v1)]) rfl ?_
  unfold f_X11_count at hf
  refine aw_iload_n X 1 dX11_count_0 rfl rfl ?_
  by_cases h1 : v1 = 0
  · rw [if_pos h1] at hf
    refine aw_tabIn X (tgt := 44) c_v1 dX11_count_1 (by omega) (by omega) (by rw [h1]; rfl) (by decide) ?_
    refine aw_aload_n X 0 dX11_count_44 rfl rfl ?_
    obtain ⟨g2, hf⟩ := z_gd hf
    refine aw_getV X s_0 fX11_24 rfl dX11_count_45 ?_
    refine aw_getI X (sX1_0 ((σ 0 2).toNat) g2) fX11_411 rfl dX11_count_48 (fun c3 => ?_)
    obtain rfl := Option.some.inj hf
    exact aw_iret X c3 hr rfl dX11_count_51
  rw [if_neg h1] at hf
  by_cases h4 : v1 = 1
  · rw [if_pos h4] at hf
    refine aw_tabIn X (tgt := 52) c_v1 dX11_count_1 (by omega) (by omega) (by rw [h4]; rfl) (by decide) ?_
    refine aw_aload_n X 0 dX11_count_52 rfl rfl ?_
    refine aw_getI X s_0 fX11_360 rfl dX11_count_53 (fun c5 => ?_)
    obtain rfl := Option.some.inj hf
    exact aw_iret X c5 hr rfl dX11_count_56
  rw [if_neg h4] at hf
  by_cases h6 : v1 = 2
  · rw [if_pos h6] at hf
    refine aw_tabIn X (tgt := 57) c_v1 dX11_count_1 (by omega) (by omega) (by rw [h6]; rfl) (by decide) ?_
    refine aw_aload_n X 0 dX11_count_57 rfl rfl ?_
    refine aw_getR X s_0 fX11_20 rfl dX11_count_58 ?_
    refine aw_getI X s_2 fX11_103 rfl dX11_count_61 (fun c7 => ?_)
    obtain rfl := Option.some.inj hf
    exact aw_iret X c7 hr rfl dX11_count_64
  rw [if_neg h6] at hf
  by_cases h8 : v1 = 3
  · rw [if_pos h8] at hf
    refine aw_tabIn X (tgt := 65) c_v1 dX11_count_1 (by omega) (by omega) (by rw [h8]; rfl) (by decide) ?_
    refine aw_aload_n X 0 dX11_count_65 rfl rfl ?_
    obtain ⟨q9, e10, hf⟩ := z_bd hf
    refine aw_callV X [] [] [z_i q9] cX11_284 s_0 ciX11 (C_X11_logLength l D cA sa bs σ q9 e10) rfl ⟨(Nat.le_of_ble_eq_true rfl), (Nat.le_of_ble_eq_true rfl)⟩ rfl (Nat.le_of_ble_eq_true rfl) rfl dX11_count_66 (fun p11 => ?_)
    obtain rfl := Option.some.inj hf
    exact aw_iret X p11 hr rfl dX11_count_69
  rw [if_neg h8] at hf
  by_cases h12 : v1 = 4
  · rw [if_pos h12] at hf
    refine aw_tabIn X (tgt := 70) c_v1 dX11_count_1 (by omega) (by omega) (by rw [h12]; rfl) (by decide) ?_
    refine aw_aload_n X 0 dX11_count_70 rfl rfl ?_
    refine aw_getR X s_0 fX11_65 rfl dX11_count_71 ?_
    refine aw_getI X s_220 fX11_281 rfl dX11_count_74 (fun c13 => ?_)
    obtain rfl := Option.some.inj hf
    exact aw_iret X c13 hr rfl dX11_count_77
  rw [if_neg h12] at hf
  by_cases h14 : v1 = 5
  · rw [if_pos h14] at hf
    refine aw_tabIn X (tgt := 78) c_v1 dX11_count_1 (by omega) (by omega) (by rw [h14]; rfl) (by decide) ?_
    refine aw_aload_n X 0 dX11_count_78 rfl rfl ?_
    obtain ⟨g15, hf⟩ := z_gd hf
    refine aw_getV X s_0 fX11_24 rfl dX11_count_79 ?_
    refine aw_getI X (sX1_0 ((σ 0 2).toNat) g15) fX11_414 rfl dX11_count_82 (fun c16 => ?_)
    obtain rfl := Option.some.inj hf
    exact aw_iret X c16 hr rfl dX11_count_85
  rw [if_neg h14] at hf
  by_cases h17 : v1 = 6
  · rw [if_pos h17] at hf
    refine aw_tabIn X (tgt := 86) c_v1 dX11_count_1 (by omega) (by omega) (by rw [h17]; rfl) (by decide) ?_
    refine aw_aload_n X 0 dX11_count_86 rfl rfl ?_
    refine aw_getR X s_0 fX11_42 rfl dX11_count_87 ?_
    refine aw_getI X (sX7_0 173 (by decide)) fX11_417 rfl dX11_count_90 (fun c18 => ?_)
    obtain rfl := Option.some.inj hf
    exact aw_iret X c18 hr rfl dX11_count_93
  rw [if_neg h17] at hf
  refine aw_tabOut X (tgt := 94) c_v1 dX11_count_1 (by omega) (by decide) ?_
  refine aw_ldc X (x := (-1000000)) dX11_count_94 kX11_178 (by decide) ?_
  obtain rfl := Option.some.inj hf
  exact aw_iret X (z_lit (x := (-1000000)) (by decide)) hr rfl dX11_count_96
-- SpeedDesk.clusterNow(II)I
def f_X11_clusterNow (v1 : Int) (v2 : Int) (σ : Nat → Nat → Int) : Option Int := if v2 = 4 then (if 0 ≤ v1 ∧ v1 < 3 then some (σ (173 + 5) v1.toNat) else none) else if v2 = 5 then (if 0 ≤ v1 ∧ v1 < 3 then some (σ (173 + 6) v1.toNat) else none) else if v2 = 6 then (if 0 ≤ v1 ∧ v1 < 3 then some (σ (173 + 7) v1.toNat) else none) else if v2 = 7 then ((f_X7_lowOf 173 v1 σ).bind fun q11 => some q11) else if v2 = 8 then (if (σ 0 2).toNat ∈ ax_iX1 then (f_X7_highOf 173 ((σ 0 2).toNat) v1 σ).bind fun q16 => some q16 else none) else if v2 = 9 then (if (σ 0 2).toNat ∈ ax_iX1 then (f_X2_needOf ((σ 0 2).toNat) 173 v1 σ).bind fun q21 => some q21 else none) else (if (σ 0 2).toNat ∈ ax_iX1 then (f_X2_wantOf ((σ 0 2).toNat) 173 v1 σ).bind fun q25 => some q25 else none)
section S_X11_clusterNow
variable {p : Program} {l : Launch} {e : Env} {s : State} {m : MethodId} {args : Array Value} {below : List Frame} {meth : Method} {c : Code} {D : va_G} {cA : Nat → ClassId} {sa : Nat → Nat} {bs : Nat} {q : Int}

end S_X11_clusterNow
set_option maxHeartbeats 4000000 in
set_option maxRecDepth 100000 in
theorem C_X11_clusterNow (l : Launch) (D : va_G) (cA : Nat → ClassId) (sa : Nat → Nat) (bs : Nat) (v1 : Int) (c_v1 : Z_I v1) (v2 : Int) (c_v2 : Z_I v2) (σ : Nat → Nat → Int) (q : Int) (hf : f_X11_clusterNow v1 v2 σ = some q) : AM l D cA sa bs 787 SH yX11_clusterNow cX11_clusterNow 3 (some .int) 3 [.ref (bs + 0), z_i v1, z_i v2] σ (some (z_i q)) (Z_I q) σ := by
  refine am_of (by decide +kernel) (Nat.le_of_ble_eq_true rfl) (fun p e s m args below meth c X hr => ?_)
  refine aw_lv (lv' := [(0, .ref (bs + 0)), (1, z_i v1), (2, z_i v2)]) rfl ?_
  unfold f_X11_clusterNow at hf
  refine aw_iload_n X 2 dX11_clusterNow_0 rfl rfl ?_
  by_cases h1 : v2 = 4
  · rw [if_pos h1] at hf
    refine aw_tabIn X (tgt := 40) c_v2 dX11_clusterNow_1 (by omega) (by omega) (by rw [h1]; rfl) (by decide) ?_
    refine aw_aload_n X 0 dX11_clusterNow_40 rfl rfl ?_
    refine aw_getR X s_0 fX11_42 rfl dX11_clusterNow_41 ?_
    refine aw_getR X (sX7_0 173 (by decide)) fX11_344 rfl dX11_clusterNow_44 ?_
    refine aw_iload_n X 1 dX11_clusterNow_47 rfl rfl ?_
    obtain ⟨g2, hf⟩ := z_gd hf
    refine aw_iald X (j := v1.toNat) (sX7_5 173 (by decide)) c_v1 g2.1 g2.2 rfl dX11_clusterNow_48 (fun c3 => ?_)
    obtain rfl := Option.some.inj hf
    exact aw_iret X c3 hr rfl dX11_clusterNow_49
  rw [if_neg h1] at hf
  by_cases h4 : v2 = 5
  · rw [if_pos h4] at hf
    refine aw_tabIn X (tgt := 50) c_v2 dX11_clusterNow_1 (by omega) (by omega) (by rw [h4]; rfl) (by decide) ?_
    refine aw_aload_n X 0 dX11_clusterNow_50 rfl rfl ?_
    refine aw_getR X s_0 fX11_42 rfl dX11_clusterNow_51 ?_
    refine aw_getR X (sX7_0 173 (by decide)) fX11_429 rfl dX11_clusterNow_54 ?_
    refine aw_iload_n X 1 dX11_clusterNow_57 rfl rfl ?_
    obtain ⟨g5, hf⟩ := z_gd hf
    refine aw_iald X (j := v1.toNat) (sX7_6 173 (by decide)) c_v1 g5.1 g5.2 rfl dX11_clusterNow_58 (fun c6 => ?_)
    obtain rfl := Option.some.inj hf
    exact aw_iret X c6 hr rfl dX11_clusterNow_59
  rw [if_neg h4] at hf
  by_cases h7 : v2 = 6
  · rw [if_pos h7] at hf
    refine aw_tabIn X (tgt := 60) c_v2 dX11_clusterNow_1 (by omega) (by omega) (by rw [h7]; rfl) (by decide) ?_
    refine aw_aload_n X 0 dX11_clusterNow_60 rfl rfl ?_
    refine aw_getR X s_0 fX11_42 rfl dX11_clusterNow_61 ?_
    refine aw_getR X (sX7_0 173 (by decide)) fX11_431 rfl dX11_clusterNow_64 ?_
    refine aw_iload_n X 1 dX11_clusterNow_67 rfl rfl ?_
    obtain ⟨g8, hf⟩ := z_gd hf
    refine aw_iald X (j := v1.toNat) (sX7_7 173 (by decide)) c_v1 g8.1 g8.2 rfl dX11_clusterNow_68 (fun c9 => ?_)
    obtain rfl := Option.some.inj hf
    exact aw_iret X c9 hr rfl dX11_clusterNow_69
  rw [if_neg h7] at hf
  by_cases h10 : v2 = 7
  · rw [if_pos h10] at hf
    refine aw_tabIn X (tgt := 70) c_v2 dX11_clusterNow_1 (by omega) (by omega) (by rw [h10]; rfl) (by decide) ?_
    refine aw_aload_n X 0 dX11_clusterNow_70 rfl rfl ?_
    refine aw_getR X s_0 fX11_42 rfl dX11_clusterNow_71 ?_
    refine aw_iload_n X 1 dX11_clusterNow_74 rfl rfl ?_
    obtain ⟨q11, e12, hf⟩ := z_bd hf
    refine aw_callV X [z_i v1] [] [z_i q11] cX11_434 (sX7_0 173 (by decide)) ciX7 (C_X7_lowOf l D cA sa bs 173 (by decide) v1 c_v1 σ q11 e12) rfl ⟨(Nat.le_of_ble_eq_true rfl), (Nat.le_of_ble_eq_true rfl)⟩ rfl (Nat.le_of_ble_eq_true rfl) rfl dX11_clusterNow_75 (fun p13 => ?_)
    obtain rfl := Option.some.inj hf
    exact aw_iret X p13 hr rfl dX11_clusterNow_78
  rw [if_neg h10] at hf
  by_cases h14 : v2 = 8
  · rw [if_pos h14] at hf
    refine aw_tabIn X (tgt := 79) c_v2 dX11_clusterNow_1 (by omega) (by omega) (by rw [h14]; rfl) (by decide) ?_
    refine aw_aload_n X 0 dX11_clusterNow_79 rfl rfl ?_
    refine aw_getR X s_0 fX11_42 rfl dX11_clusterNow_80 ?_
    refine aw_aload_n X 0 dX11_clusterNow_83 rfl rfl ?_
    obtain ⟨g15, hf⟩ := z_gd hf
    refine aw_getV X s_0 fX11_24 rfl dX11_clusterNow_84 ?_
    refine aw_iload_n X 1 dX11_clusterNow_87 rfl rfl ?_
    obtain ⟨q16, e17, hf⟩ := z_bd hf
    refine aw_callV X [.ref (bs + ((σ 0 2).toNat)), z_i v1] [] [z_i q16] cX11_437 (sX7_0 173 (by decide)) ciX7 (C_X7_highOf l D cA sa bs 173 (by decide) ((σ 0 2).toNat) g15 v1 c_v1 σ q16 e17) rfl ⟨(Nat.le_of_ble_eq_true rfl), (Nat.le_of_ble_eq_true rfl)⟩ rfl (Nat.le_of_ble_eq_true rfl) rfl dX11_clusterNow_88 (fun p18 => ?_)
    obtain rfl := Option.some.inj hf
    exact aw_iret X p18 hr rfl dX11_clusterNow_91
  rw [if_neg h14] at hf
  by_cases h19 : v2 = 9
  · rw [if_pos h19] at hf
    refine aw_tabIn X (tgt := 92) c_v2 dX11_clusterNow_1 (by omega) (by omega) (by rw [h19]; rfl) (by decide) ?_
    refine aw_aload_n X 0 dX11_clusterNow_92 rfl rfl ?_
    refine aw_getR X s_0 fX11_80 rfl dX11_clusterNow_93 ?_
    refine aw_aload_n X 0 dX11_clusterNow_96 rfl rfl ?_
    obtain ⟨g20, hf⟩ := z_gd hf
    refine aw_getV X s_0 fX11_24 rfl dX11_clusterNow_97 ?_
    refine aw_aload_n X 0 dX11_clusterNow_100 rfl rfl ?_
    refine aw_getR X s_0 fX11_42 rfl dX11_clusterNow_101 ?_
    refine aw_iload_n X 1 dX11_clusterNow_104 rfl rfl ?_
    obtain ⟨q21, e22, hf⟩ := z_bd hf
    refine aw_callV X [.ref (bs + ((σ 0 2).toNat)), .ref (bs + 173), z_i v1] [] [z_i q21] cX11_441 s_743 ciX2 (C_X2_needOf l D cA sa bs ((σ 0 2).toNat) g20 173 (by decide) v1 c_v1 σ q21 e22) rfl ⟨(Nat.le_of_ble_eq_true rfl), (Nat.le_of_ble_eq_true rfl)⟩ rfl (Nat.le_of_ble_eq_true rfl) rfl dX11_clusterNow_105 (fun p23 => ?_)
    obtain rfl := Option.some.inj hf
    exact aw_iret X p23 hr rfl dX11_clusterNow_108
  rw [if_neg h19] at hf
  refine aw_tabOut X (tgt := 109) c_v2 dX11_clusterNow_1 (by omega) (by decide) ?_
  refine aw_aload_n X 0 dX11_clusterNow_109 rfl rfl ?_
  refine aw_getR X s_0 fX11_80 rfl dX11_clusterNow_110 ?_
  refine aw_aload_n X 0 dX11_clusterNow_113 rfl rfl ?_
  obtain ⟨g24, hf⟩ := z_gd hf
  refine aw_getV X s_0 fX11_24 rfl dX11_clusterNow_114 ?_
  refine aw_aload_n X 0 dX11_clusterNow_117 rfl rfl ?_
  refine aw_getR X s_0 fX11_42 rfl dX11_clusterNow_118 ?_
  refine aw_iload_n X 1 dX11_clusterNow_121 rfl rfl ?_
  obtain ⟨q25, e26, hf⟩ := z_bd hf
  refine aw_callV X [.ref (bs + ((σ 0 2).toNat)), .ref (bs + 173), z_i v1] [] [z_i q25] cX11_444 s_743 ciX2 (C_X2_wantOf l D cA sa bs ((σ 0 2).toNat) g24 173 (by decide) v1 c_v1 σ q25 e26) rfl ⟨(Nat.le_of_ble_eq_true rfl), (Nat.le_of_ble_eq_true rfl)⟩ rfl (Nat.le_of_ble_eq_true rfl) rfl dX11_clusterNow_122 (fun p27 => ?_)
  obtain rfl := Option.some.inj hf
  exact aw_iret X p27 hr rfl dX11_clusterNow_125
