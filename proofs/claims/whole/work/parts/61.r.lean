-- SpeedDeskModel.all(I)I
section S_X12_all
variable {p : Program} {l : Launch} {e : Env} {s : State} {m : MethodId} {args : Array Value} {below : List Frame} {meth : Method} {c : Code} {D : va_G} {cA : Nat → ClassId} {sa ad : Nat → Nat} {bs : Nat} {q : (Int × (Nat → Nat → Int))}

end S_X12_all
set_option maxHeartbeats 4000000 in
set_option maxRecDepth 100000 in
theorem C_X12_all (l : Launch) (D : va_G) (cA : Nat → ClassId) (sa ad : Nat → Nat) (bs : Nat) (v1 : Int) (c_v1 : Z_I v1) (σ : Nat → Nat → Int) (q : (Int × (Nat → Nat → Int))) (hf : f_X12_all v1 σ = some q) : AM l D cA sa ad bs 788 SHp yX12_all cX12_all 2 (some .int) 4 [.ref (ad 758), z_i v1] σ (some (z_i q.1)) (Z_I q.1) q.2 := by
  refine am_of (by decide +kernel) (Nat.le_of_ble_eq_true rfl) (fun p e s m args below meth c X hr => ?_)
  refine aw_lv (lv' := [(0, .ref (ad 758)), (1, z_i v1)]) rfl ?_
  unfold f_X12_all at hf
  refine aw_aload_n X 0 dX12_all_0 rfl rfl ?_
  refine aw_iconst X dX12_all_1 ?_
  refine aw_putI X s_758 pX12_101 rfl (z_lit (x := 0) (by decide)) dX12_all_2 ?_
  refine aw_aload_n X 0 dX12_all_5 rfl rfl ?_
  refine aw_getI X s_758 fX12_234 rfl dX12_all_6 (fun c1 => ?_)
  refine aw_if_ne X (tgt := 16) c1 dX12_all_9 (by decide) (fun h2 => ?_) (fun h2 => ?_)
  · rw [if_neg h2] at hf
    refine aw_iload_n X 1 dX12_all_16 rfl rfl ?_
    by_cases h3 : v1 = 0
    · rw [if_pos h3] at hf
      refine aw_tabIn X (tgt := 72) c_v1 dX12_all_17 (by omega) (by omega) (by rw [h3]; rfl) (by decide) ?_
      refine aw_aload_n X 0 dX12_all_72 rfl rfl ?_
      refine aw_getR X s_758 fX12_63 rfl dX12_all_73 ?_
      refine aw_bipush X dX12_all_76 (by decide) ?_
      refine aw_iald X (j := 41) s_776 (z_lit (x := 41) (by decide)) (by decide) (by decide) rfl dX12_all_78 (fun c4 => ?_)
      obtain rfl := Option.some.inj hf
      exact aw_iret X c4 hr rfl dX12_all_79
    rw [if_neg h3] at hf
    by_cases h5 : v1 = 1
    · rw [if_pos h5] at hf
      refine aw_tabIn X (tgt := 80) c_v1 dX12_all_17 (by omega) (by omega) (by rw [h5]; rfl) (by decide) ?_
      refine aw_aload_n X 0 dX12_all_80 rfl rfl ?_
      refine aw_getR X s_758 fX12_63 rfl dX12_all_81 ?_
      refine aw_bipush X dX12_all_84 (by decide) ?_
      refine aw_iald X (j := 42) s_776 (z_lit (x := 42) (by decide)) (by decide) (by decide) rfl dX12_all_86 (fun c6 => ?_)
      obtain rfl := Option.some.inj hf
      exact aw_iret X c6 hr rfl dX12_all_87
    rw [if_neg h5] at hf
    by_cases h7 : v1 = 2
    · rw [if_pos h7] at hf
      refine aw_tabIn X (tgt := 88) c_v1 dX12_all_17 (by omega) (by omega) (by rw [h7]; rfl) (by decide) ?_
      refine aw_aload_n X 0 dX12_all_88 rfl rfl ?_
      refine aw_getR X s_758 fX12_63 rfl dX12_all_89 ?_
      refine aw_bipush X dX12_all_92 (by decide) ?_
      refine aw_iald X (j := 43) s_776 (z_lit (x := 43) (by decide)) (by decide) (by decide) rfl dX12_all_94 (fun c8 => ?_)
      obtain rfl := Option.some.inj hf
      exact aw_iret X c8 hr rfl dX12_all_95
    rw [if_neg h7] at hf
    by_cases h9 : v1 = 3
    · rw [if_pos h9] at hf
      refine aw_tabIn X (tgt := 96) c_v1 dX12_all_17 (by omega) (by omega) (by rw [h9]; rfl) (by decide) ?_
      refine aw_aload_n X 0 dX12_all_96 rfl rfl ?_
      refine aw_getR X s_758 fX12_63 rfl dX12_all_97 ?_
      obtain ⟨q10, e11, hf⟩ := z_bd hf
      refine aw_callS X [.ref (ad 776)] [] [z_i q10] cX12_490 (C_X12_lates l D cA sa ad bs 776 s_776 (u2 σ 758 0 0) q10 e11) rfl ⟨(Nat.le_of_ble_eq_true rfl), (Nat.le_of_ble_eq_true rfl), (Nat.le_of_ble_eq_true rfl), (Nat.le_of_ble_eq_true rfl)⟩ rfl (Nat.le_of_ble_eq_true rfl) rfl dX12_all_100 (fun p12 => ?_)
      obtain rfl := Option.some.inj hf
      exact aw_iret X p12 hr rfl dX12_all_103
    rw [if_neg h9] at hf
    by_cases h13 : v1 = 4
    · rw [if_pos h13] at hf
      refine aw_tabIn X (tgt := 104) c_v1 dX12_all_17 (by omega) (by omega) (by rw [h13]; rfl) (by decide) ?_
      refine aw_aload_n X 0 dX12_all_104 rfl rfl ?_
      refine aw_bipush X dX12_all_105 (by decide) ?_
      refine aw_aload_n X 0 dX12_all_107 rfl rfl ?_
      refine aw_getI X s_758 fX12_240 rfl dX12_all_108 (fun c14 => ?_)
      obtain ⟨q15, e16, hf⟩ := z_bd hf
      refine aw_callV X [z_i 9, z_i ((u2 σ 758 0 0) 758 25)] [] [z_i q15] cX12_496 s_758 ciX12 (C_X12_bitsOf l D cA sa ad bs 9 (z_lit (x := 9) (by decide)) ((u2 σ 758 0 0) 758 25) c14 (u2 σ 758 0 0) q15 e16) rfl ⟨(Nat.le_of_ble_eq_true rfl), (Nat.le_of_ble_eq_true rfl), (Nat.le_of_ble_eq_true rfl), (Nat.le_of_ble_eq_true rfl)⟩ rfl (Nat.le_of_ble_eq_true rfl) rfl dX12_all_111 (fun p17 => ?_)
      obtain rfl := Option.some.inj hf
      exact aw_iret X p17 hr rfl dX12_all_114
    rw [if_neg h13] at hf
    by_cases h18 : v1 = 5
    · rw [if_pos h18] at hf
      refine aw_tabIn X (tgt := 115) c_v1 dX12_all_17 (by omega) (by omega) (by rw [h18]; rfl) (by decide) ?_
      refine aw_aload_n X 0 dX12_all_115 rfl rfl ?_
      refine aw_bipush X dX12_all_116 (by decide) ?_
      refine aw_aload_n X 0 dX12_all_118 rfl rfl ?_
      refine aw_getI X s_758 fX12_237 rfl dX12_all_119 (fun c19 => ?_)
      obtain ⟨q20, e21, hf⟩ := z_bd hf
      refine aw_callV X [z_i 37, z_i ((u2 σ 758 0 0) 758 23)] [] [z_i q20] cX12_496 s_758 ciX12 (C_X12_bitsOf l D cA sa ad bs 37 (z_lit (x := 37) (by decide)) ((u2 σ 758 0 0) 758 23) c19 (u2 σ 758 0 0) q20 e21) rfl ⟨(Nat.le_of_ble_eq_true rfl), (Nat.le_of_ble_eq_true rfl), (Nat.le_of_ble_eq_true rfl), (Nat.le_of_ble_eq_true rfl)⟩ rfl (Nat.le_of_ble_eq_true rfl) rfl dX12_all_122 (fun p22 => ?_)
      obtain rfl := Option.some.inj hf
      exact aw_iret X p22 hr rfl dX12_all_125
    rw [if_neg h18] at hf
    by_cases h23 : v1 = 6
    · rw [if_pos h23] at hf
      refine aw_tabIn X (tgt := 126) c_v1 dX12_all_17 (by omega) (by omega) (by rw [h23]; rfl) (by decide) ?_
      refine aw_aload_n X 0 dX12_all_126 rfl rfl ?_
      refine aw_bipush X dX12_all_127 (by decide) ?_
      refine aw_aload_n X 0 dX12_all_129 rfl rfl ?_
      refine aw_getI X s_758 fX12_237 rfl dX12_all_130 (fun c24 => ?_)
      obtain ⟨q25, e26, hf⟩ := z_bd hf
      refine aw_callV X [z_i 25, z_i ((u2 σ 758 0 0) 758 23)] [] [z_i q25] cX12_496 s_758 ciX12 (C_X12_bitsOf l D cA sa ad bs 25 (z_lit (x := 25) (by decide)) ((u2 σ 758 0 0) 758 23) c24 (u2 σ 758 0 0) q25 e26) rfl ⟨(Nat.le_of_ble_eq_true rfl), (Nat.le_of_ble_eq_true rfl), (Nat.le_of_ble_eq_true rfl), (Nat.le_of_ble_eq_true rfl)⟩ rfl (Nat.le_of_ble_eq_true rfl) rfl dX12_all_133 (fun p27 => ?_)
      obtain rfl := Option.some.inj hf
      exact aw_iret X p27 hr rfl dX12_all_136
    rw [if_neg h23] at hf
    by_cases h28 : v1 = 7
    · rw [if_pos h28] at hf
      refine aw_tabIn X (tgt := 137) c_v1 dX12_all_17 (by omega) (by omega) (by rw [h28]; rfl) (by decide) ?_
      refine aw_aload_n X 0 dX12_all_137 rfl rfl ?_
      obtain ⟨q29, e30, hf⟩ := z_bd hf
      refine aw_callV X [] [] [z_i q29] cX12_499 s_758 ciX12 (C_X12_loadest l D cA sa ad bs (u2 σ 758 0 0) q29 e30) rfl ⟨(Nat.le_of_ble_eq_true rfl), (Nat.le_of_ble_eq_true rfl), (Nat.le_of_ble_eq_true rfl), (Nat.le_of_ble_eq_true rfl)⟩ rfl (Nat.le_of_ble_eq_true rfl) rfl dX12_all_138 (fun p31 => ?_)
      obtain rfl := Option.some.inj hf
      exact aw_iret X p31 hr rfl dX12_all_141
    rw [if_neg h28] at hf
    by_cases h32 : v1 = 8
    · rw [if_pos h32] at hf
      refine aw_tabIn X (tgt := 142) c_v1 dX12_all_17 (by omega) (by omega) (by rw [h32]; rfl) (by decide) ?_
      refine aw_aload_n X 0 dX12_all_142 rfl rfl ?_
      obtain ⟨q33, e34, hf⟩ := z_bd hf
      refine aw_callV X [] [] [z_i q33] cX12_502 s_758 ciX12 (C_X12_fullest l D cA sa ad bs (u2 σ 758 0 0) q33 e34) rfl ⟨(Nat.le_of_ble_eq_true rfl), (Nat.le_of_ble_eq_true rfl), (Nat.le_of_ble_eq_true rfl), (Nat.le_of_ble_eq_true rfl)⟩ rfl (Nat.le_of_ble_eq_true rfl) rfl dX12_all_143 (fun p35 => ?_)
      obtain rfl := Option.some.inj hf
      exact aw_iret X p35 hr rfl dX12_all_146
    rw [if_neg h32] at hf
    by_cases h36 : v1 = 9
    · rw [if_pos h36] at hf
      refine aw_tabIn X (tgt := 147) c_v1 dX12_all_17 (by omega) (by omega) (by rw [h36]; rfl) (by decide) ?_
      refine aw_aload_n X 0 dX12_all_147 rfl rfl ?_
      obtain ⟨q37, e38, hf⟩ := z_bd hf
      refine aw_callV X [] [] [z_i q37] cX12_505 s_758 ciX12 (C_X12_shares l D cA sa ad bs (u2 σ 758 0 0) q37 e38) rfl ⟨(Nat.le_of_ble_eq_true rfl), (Nat.le_of_ble_eq_true rfl), (Nat.le_of_ble_eq_true rfl), (Nat.le_of_ble_eq_true rfl)⟩ rfl (Nat.le_of_ble_eq_true rfl) rfl dX12_all_148 (fun p39 => ?_)
      obtain rfl := Option.some.inj hf
      exact aw_iret X p39 hr rfl dX12_all_151
    rw [if_neg h36] at hf
    refine aw_tabOut X (tgt := 152) c_v1 dX12_all_17 (by omega) (by decide) ?_
    refine aw_ldcw X (x := (-1000000)) dX12_all_152 kX12_431 (by decide) ?_
    obtain rfl := Option.some.inj hf
    exact aw_iret X (z_lit (x := (-1000000)) (by decide)) hr rfl dX12_all_155
  · rw [if_pos h2] at hf
    refine aw_ldcw X (x := (-1000000)) dX12_all_12 kX12_431 (by decide) ?_
    obtain rfl := Option.some.inj hf
    exact aw_iret X (z_lit (x := (-1000000)) (by decide)) hr rfl dX12_all_15
-- SpeedDeskModel.count(I)I
section S_X12_count
variable {p : Program} {l : Launch} {e : Env} {s : State} {m : MethodId} {args : Array Value} {below : List Frame} {meth : Method} {c : Code} {D : va_G} {cA : Nat → ClassId} {sa ad : Nat → Nat} {bs : Nat} {q : (Int × (Nat → Nat → Int))}

end S_X12_count
set_option maxHeartbeats 4000000 in
set_option maxRecDepth 100000 in
theorem C_X12_count (l : Launch) (D : va_G) (cA : Nat → ClassId) (sa ad : Nat → Nat) (bs : Nat) (v1 : Int) (c_v1 : Z_I v1) (σ : Nat → Nat → Int) (q : (Int × (Nat → Nat → Int))) (hf : f_X12_count v1 σ = some q) : AM l D cA sa ad bs 788 SHp yX12_count cX12_count 2 (some .int) 0 [.ref (ad 758), z_i v1] σ (some (z_i q.1)) (Z_I q.1) q.2 := by
  refine am_of (by decide +kernel) (Nat.le_of_ble_eq_true rfl) (fun p e s m args below meth c X hr => ?_)
  refine aw_lv (lv' := [(0, .ref (ad 758)), (1, z_i v1)]) rfl ?_
  unfold f_X12_count at hf
  refine aw_aload_n X 0 dX12_count_0 rfl rfl ?_
  refine aw_iconst X dX12_count_1 ?_
  refine aw_putI X s_758 pX12_101 rfl (z_lit (x := 0) (by decide)) dX12_count_2 ?_
  refine aw_iload_n X 1 dX12_count_5 rfl rfl ?_
  by_cases h1 : v1 = 0
  · rw [if_pos h1] at hf
    refine aw_tabIn X (tgt := 48) c_v1 dX12_count_6 (by omega) (by omega) (by rw [h1]; rfl) (by decide) ?_
    refine aw_aload_n X 0 dX12_count_48 rfl rfl ?_
    refine aw_getI X s_758 fX12_234 rfl dX12_count_49 (fun c2 => ?_)
    obtain rfl := Option.some.inj hf
    exact aw_iret X c2 hr rfl dX12_count_52
  rw [if_neg h1] at hf
  by_cases h3 : v1 = 1
  · rw [if_pos h3] at hf
    refine aw_tabIn X (tgt := 53) c_v1 dX12_count_6 (by omega) (by omega) (by rw [h3]; rfl) (by decide) ?_
    refine aw_aload_n X 0 dX12_count_53 rfl rfl ?_
    refine aw_getI X s_758 fX12_252 rfl dX12_count_54 (fun c4 => ?_)
    obtain rfl := Option.some.inj hf
    exact aw_iret X c4 hr rfl dX12_count_57
  rw [if_neg h3] at hf
  by_cases h5 : v1 = 2
  · rw [if_pos h5] at hf
    refine aw_tabIn X (tgt := 58) c_v1 dX12_count_6 (by omega) (by omega) (by rw [h5]; rfl) (by decide) ?_
    refine aw_aload_n X 0 dX12_count_58 rfl rfl ?_
    refine aw_getI X s_758 fX12_104 rfl dX12_count_59 (fun c6 => ?_)
    obtain rfl := Option.some.inj hf
    exact aw_iret X c6 hr rfl dX12_count_62
  rw [if_neg h5] at hf
  by_cases h7 : v1 = 3
  · rw [if_pos h7] at hf
    refine aw_tabIn X (tgt := 63) c_v1 dX12_count_6 (by omega) (by omega) (by rw [h7]; rfl) (by decide) ?_
    refine aw_aload_n X 0 dX12_count_63 rfl rfl ?_
    refine aw_getR X s_758 fX12_63 rfl dX12_count_64 ?_
    refine aw_bipush X dX12_count_67 (by decide) ?_
    refine aw_iald X (j := 75) s_776 (z_lit (x := 75) (by decide)) (by decide) (by decide) rfl dX12_count_69 (fun c8 => ?_)
    obtain rfl := Option.some.inj hf
    exact aw_iret X c8 hr rfl dX12_count_70
  rw [if_neg h7] at hf
  by_cases h9 : v1 = 4
  · rw [if_pos h9] at hf
    refine aw_tabIn X (tgt := 71) c_v1 dX12_count_6 (by omega) (by omega) (by rw [h9]; rfl) (by decide) ?_
    refine aw_aload_n X 0 dX12_count_71 rfl rfl ?_
    refine aw_getI X s_758 fX12_260 rfl dX12_count_72 (fun c10 => ?_)
    obtain rfl := Option.some.inj hf
    exact aw_iret X c10 hr rfl dX12_count_75
  rw [if_neg h9] at hf
  by_cases h11 : v1 = 5
  · rw [if_pos h11] at hf
    refine aw_tabIn X (tgt := 76) c_v1 dX12_count_6 (by omega) (by omega) (by rw [h11]; rfl) (by decide) ?_
    refine aw_aload_n X 0 dX12_count_76 rfl rfl ?_
    refine aw_getI X s_758 fX12_237 rfl dX12_count_77 (fun c12 => ?_)
    obtain rfl := Option.some.inj hf
    exact aw_iret X c12 hr rfl dX12_count_80
  rw [if_neg h11] at hf
  by_cases h13 : v1 = 6
  · rw [if_pos h13] at hf
    refine aw_tabIn X (tgt := 81) c_v1 dX12_count_6 (by omega) (by omega) (by rw [h13]; rfl) (by decide) ?_
    refine aw_aload_n X 0 dX12_count_81 rfl rfl ?_
    refine aw_getR X s_758 fX12_63 rfl dX12_count_82 ?_
    refine aw_bipush X dX12_count_85 (by decide) ?_
    refine aw_iald X (j := 44) s_776 (z_lit (x := 44) (by decide)) (by decide) (by decide) rfl dX12_count_87 (fun c14 => ?_)
    obtain rfl := Option.some.inj hf
    exact aw_iret X c14 hr rfl dX12_count_88
  rw [if_neg h13] at hf
  refine aw_tabOut X (tgt := 89) c_v1 dX12_count_6 (by omega) (by decide) ?_
  refine aw_ldcw X (x := (-1000000)) dX12_count_89 kX12_431 (by decide) ?_
  obtain rfl := Option.some.inj hf
  exact aw_iret X (z_lit (x := (-1000000)) (by decide)) hr rfl dX12_count_92
