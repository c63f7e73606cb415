-- SpeedDesk.fullestCore()I
section S_X11_fullestCore
variable {p : Program} {l : Launch} {e : Env} {s : State} {m : MethodId} {args : Array Value} {below : List Frame} {meth : Method} {c : Code} {D : va_G} {cA : Nat → ClassId} {sa ad : Nat → Nat} {bs : Nat} {q : Int}
set_option maxHeartbeats 4000000 in
set_option maxRecDepth 100000 in
theorem A_X11_fullestCore_4 (X : AX p s m args meth c D cA sa bs cX11_fullestCore 3 RX11) (hr : meth.sig.returnType = (some .int)) (σ : Nat → Nat → Int) : ∀ (k : Nat) (v1 : Int) (c_v1 : Z_I v1) (v2 : Int) (c_v2 : Z_I v2), f_X11_fullestCore_4 k v1 v2 σ = some q → AW p l e (ax_rm 4 0 0) s m args below meth c D cA ad bs 788 SHp 0 0 (ax_MQ below args s D cA ad bs 788 SHp 0 0 (some (z_i q)) (Z_I q) σ) 3 4 [(0, .ref (ad 0)), (1, z_i v1), (2, z_i v2)] [] σ := by
  intro k
  induction k with
  | zero =>
    intro v1 c_v1 v2 c_v2 hf
    unfold f_X11_fullestCore_4 at hf
    cases hf
  | succ k ih =>
    intro v1 c_v1 v2 c_v2 hf
    unfold f_X11_fullestCore_4 at hf
    refine aw_iload_n X 2 dX11_fullestCore_4 rfl rfl ?_
    refine aw_aload_n X 0 dX11_fullestCore_5 rfl rfl ?_
    obtain ⟨g1, hf⟩ := z_gd hf
    refine aw_getV X s_0 fX11_24 rfl dX11_fullestCore_6 ?_
    refine aw_getI X (sX1_0 ((σ 0 2).toNat) g1) fX11_150 rfl dX11_fullestCore_9 (fun c2 => ?_)
    refine aw_icmp_ge X (tgt := 36) c_v2 c2 dX11_fullestCore_12 (by decide) (fun h3 => ?_) (fun h3 => ?_)
    · rw [if_pos h3] at hf
      refine aw_iload_n X 1 dX11_fullestCore_36 rfl rfl ?_
      obtain rfl := Option.some.inj hf
      exact aw_iret X c_v1 hr rfl dX11_fullestCore_37
    · rw [if_neg h3] at hf
      refine aw_aload_n X 0 dX11_fullestCore_15 rfl rfl ?_
      refine aw_iload_n X 2 dX11_fullestCore_16 rfl rfl ?_
      obtain ⟨q4, e5, hf⟩ := z_bd hf
      refine aw_callV X [z_i v2] [] [z_i q4] cX11_203 s_0 ciX11 (C_X11_sharesOn l D cA sa ad bs v2 c_v2 σ q4 e5) rfl ⟨(Nat.le_of_ble_eq_true rfl), (Nat.le_of_ble_eq_true rfl), (Nat.le_of_ble_eq_true rfl), (Nat.le_of_ble_eq_true rfl)⟩ rfl (Nat.le_of_ble_eq_true rfl) rfl dX11_fullestCore_17 (fun p6 => ?_)
      refine aw_aload_n X 0 dX11_fullestCore_20 rfl rfl ?_
      refine aw_iload_n X 1 dX11_fullestCore_21 rfl rfl ?_
      obtain ⟨q7, e8, hf⟩ := z_bd hf
      refine aw_callV X [z_i v1] [z_i q4] [z_i q7, z_i q4] cX11_203 s_0 ciX11 (C_X11_sharesOn l D cA sa ad bs v1 c_v1 σ q7 e8) rfl ⟨(Nat.le_of_ble_eq_true rfl), (Nat.le_of_ble_eq_true rfl), (Nat.le_of_ble_eq_true rfl), (Nat.le_of_ble_eq_true rfl)⟩ rfl (Nat.le_of_ble_eq_true rfl) rfl dX11_fullestCore_22 (fun p9 => ?_)
      refine aw_icmp_le X (tgt := 30) p6 p9 dX11_fullestCore_25 (by decide) (fun h10 => ?_) (fun h10 => ?_)
      · simp only [if_pos h10] at hf
        refine aw_iinc X 2 [(2, z_i (z_w (v2 + 1))), (0, .ref (ad 0)), (1, z_i v1)] dX11_fullestCore_30 rfl (by decide) rfl ?_
        refine aw_goto X (tgt := 4) dX11_fullestCore_33 (by decide) ?_
        refine aw_sub [1, 2, 0] rfl ?_
        exact ih v1 c_v1 (z_w (v2 + 1)) (z_w_in _) hf
      · simp only [if_neg h10] at hf
        refine aw_iload_n X 2 dX11_fullestCore_28 rfl rfl ?_
        refine aw_istore_n X [(1, z_i v2), (0, .ref (ad 0)), (2, z_i v2)] dX11_fullestCore_29 rfl (by decide) rfl ?_
        refine aw_iinc X 2 [(2, z_i (z_w (v2 + 1))), (1, z_i v2), (0, .ref (ad 0))] dX11_fullestCore_30 rfl (by decide) rfl ?_
        refine aw_goto X (tgt := 4) dX11_fullestCore_33 (by decide) ?_
        refine aw_sub [2, 1, 0] rfl ?_
        exact ih v2 c_v2 (z_w (v2 + 1)) (z_w_in _) hf
end S_X11_fullestCore
set_option maxHeartbeats 4000000 in
set_option maxRecDepth 100000 in
theorem C_X11_fullestCore (l : Launch) (D : va_G) (cA : Nat → ClassId) (sa ad : Nat → Nat) (bs : Nat)  (σ : Nat → Nat → Int) (q : Int) (hf : f_X11_fullestCore σ = some q) : AM l D cA sa ad bs 788 SHp yX11_fullestCore cX11_fullestCore 3 (some .int) 4 [.ref (ad 0)] σ (some (z_i q)) (Z_I q) σ := by
  refine am_of (by decide +kernel) (Nat.le_of_ble_eq_true rfl) (fun p e s m args below meth c X hr => ?_)
  refine aw_lv (lv' := [(0, .ref (ad 0))]) rfl ?_
  unfold f_X11_fullestCore at hf
  refine aw_iconst X dX11_fullestCore_0 ?_
  refine aw_istore_n X [(1, z_i 0), (0, .ref (ad 0))] dX11_fullestCore_1 rfl (by decide) rfl ?_
  refine aw_iconst X dX11_fullestCore_2 ?_
  refine aw_istore_n X [(2, z_i 1), (1, z_i 0), (0, .ref (ad 0))] dX11_fullestCore_3 rfl (by decide) rfl ?_
  refine aw_sub [2, 1, 0] rfl ?_
  exact A_X11_fullestCore_4 X hr σ 100000 0 (z_lit (x := 0) (by decide)) 1 (z_lit (x := 1) (by decide)) hf
-- SpeedDesk.sharesOfAll()I
section S_X11_sharesOfAll
variable {p : Program} {l : Launch} {e : Env} {s : State} {m : MethodId} {args : Array Value} {below : List Frame} {meth : Method} {c : Code} {D : va_G} {cA : Nat → ClassId} {sa ad : Nat → Nat} {bs : Nat} {q : Int}
set_option maxHeartbeats 4000000 in
set_option maxRecDepth 100000 in
theorem A_X11_sharesOfAll_4 (X : AX p s m args meth c D cA sa bs cX11_sharesOfAll 3 RX11) (hr : meth.sig.returnType = (some .int)) (σ : Nat → Nat → Int) : ∀ (k : Nat) (v1 : Int) (c_v1 : Z_I v1) (v2 : Int) (c_v2 : Z_I v2), f_X11_sharesOfAll_4 k v1 v2 σ = some q → AW p l e (ax_rm 3 0 0) s m args below meth c D cA ad bs 788 SHp 0 0 (ax_MQ below args s D cA ad bs 788 SHp 0 0 (some (z_i q)) (Z_I q) σ) 3 4 [(0, .ref (ad 0)), (1, z_i v1), (2, z_i v2)] [] σ := by
  intro k
  induction k with
  | zero =>
    intro v1 c_v1 v2 c_v2 hf
    unfold f_X11_sharesOfAll_4 at hf
    cases hf
  | succ k ih =>
    intro v1 c_v1 v2 c_v2 hf
    unfold f_X11_sharesOfAll_4 at hf
    refine aw_iload_n X 2 dX11_sharesOfAll_4 rfl rfl ?_
    refine aw_aload_n X 0 dX11_sharesOfAll_5 rfl rfl ?_
    obtain ⟨g1, hf⟩ := z_gd hf
    refine aw_getV X s_0 fX11_24 rfl dX11_sharesOfAll_6 ?_
    refine aw_getI X (sX1_0 ((σ 0 2).toNat) g1) fX11_414 rfl dX11_sharesOfAll_9 (fun c2 => ?_)
    refine aw_icmp_ge X (tgt := 29) c_v2 c2 dX11_sharesOfAll_12 (by decide) (fun h3 => ?_) (fun h3 => ?_)
    · rw [if_pos h3] at hf
      refine aw_iload_n X 1 dX11_sharesOfAll_29 rfl rfl ?_
      obtain rfl := Option.some.inj hf
      exact aw_iret X c_v1 hr rfl dX11_sharesOfAll_30
    · rw [if_neg h3] at hf
      refine aw_iload_n X 1 dX11_sharesOfAll_15 rfl rfl ?_
      refine aw_aload_n X 0 dX11_sharesOfAll_16 rfl rfl ?_
      refine aw_iload_n X 2 dX11_sharesOfAll_17 rfl rfl ?_
      obtain ⟨q4, e5, hf⟩ := z_bd hf
      refine aw_callV X [z_i v2] [z_i v1] [z_i q4, z_i v1] cX11_230 s_0 ciX11 (C_X11_shareOf l D cA sa ad bs v2 c_v2 σ q4 e5) rfl ⟨(Nat.le_of_ble_eq_true rfl), (Nat.le_of_ble_eq_true rfl), (Nat.le_of_ble_eq_true rfl), (Nat.le_of_ble_eq_true rfl)⟩ rfl (Nat.le_of_ble_eq_true rfl) rfl dX11_sharesOfAll_18 (fun p6 => ?_)
      refine aw_iadd X dX11_sharesOfAll_21 ?_
      refine aw_istore_n X [(1, z_i (z_w (v1 + q4))), (0, .ref (ad 0)), (2, z_i v2)] dX11_sharesOfAll_22 rfl (by decide) rfl ?_
      refine aw_iinc X 2 [(2, z_i (z_w (v2 + 1))), (1, z_i (z_w (v1 + q4))), (0, .ref (ad 0))] dX11_sharesOfAll_23 rfl (by decide) rfl ?_
      refine aw_goto X (tgt := 4) dX11_sharesOfAll_26 (by decide) ?_
      refine aw_sub [2, 1, 0] rfl ?_
      exact ih (z_w (v1 + q4)) (z_w_in _) (z_w (v2 + 1)) (z_w_in _) hf
end S_X11_sharesOfAll
set_option maxHeartbeats 4000000 in
set_option maxRecDepth 100000 in
theorem C_X11_sharesOfAll (l : Launch) (D : va_G) (cA : Nat → ClassId) (sa ad : Nat → Nat) (bs : Nat)  (σ : Nat → Nat → Int) (q : Int) (hf : f_X11_sharesOfAll σ = some q) : AM l D cA sa ad bs 788 SHp yX11_sharesOfAll cX11_sharesOfAll 3 (some .int) 3 [.ref (ad 0)] σ (some (z_i q)) (Z_I q) σ := by
  refine am_of (by decide +kernel) (Nat.le_of_ble_eq_true rfl) (fun p e s m args below meth c X hr => ?_)
  refine aw_lv (lv' := [(0, .ref (ad 0))]) rfl ?_
  unfold f_X11_sharesOfAll at hf
  refine aw_iconst X dX11_sharesOfAll_0 ?_
  refine aw_istore_n X [(1, z_i 0), (0, .ref (ad 0))] dX11_sharesOfAll_1 rfl (by decide) rfl ?_
  refine aw_iconst X dX11_sharesOfAll_2 ?_
  refine aw_istore_n X [(2, z_i 0), (1, z_i 0), (0, .ref (ad 0))] dX11_sharesOfAll_3 rfl (by decide) rfl ?_
  refine aw_sub [2, 1, 0] rfl ?_
  exact A_X11_sharesOfAll_4 X hr σ 100000 0 (z_lit (x := 0) (by decide)) 0 (z_lit (x := 0) (by decide)) hf
-- SpeedDesk.all(I)I
section S_X11_all
variable {p : Program} {l : Launch} {e : Env} {s : State} {m : MethodId} {args : Array Value} {below : List Frame} {meth : Method} {c : Code} {D : va_G} {cA : Nat → ClassId} {sa ad : Nat → Nat} {bs : Nat} {q : Int}

end S_X11_all
set_option maxHeartbeats 4000000 in
set_option maxRecDepth 100000 in
theorem C_X11_all (l : Launch) (D : va_G) (cA : Nat → ClassId) (sa ad : Nat → Nat) (bs : Nat) (v1 : Int) (c_v1 : Z_I v1) (σ : Nat → Nat → Int) (q : Int) (hf : f_X11_all v1 σ = some q) : AM l D cA sa ad bs 788 SHp yX11_all cX11_all 2 (some .int) 5 [.ref (ad 0), z_i v1] σ (some (z_i q)) (Z_I q) σ := by
  refine am_of (by decide +kernel) (Nat.le_of_ble_eq_true rfl) (fun p e s m args below meth c X hr => ?_)
  refine aw_lv (lv' := [(0, .ref (ad 0)), (1, z_i v1)]) rfl ?_
  unfold f_X11_all at hf
  refine aw_aload_n X 0 dX11_all_0 rfl rfl ?_
  obtain ⟨g1, hf⟩ := z_gd hf
  refine aw_getV X s_0 fX11_24 rfl dX11_all_1 ?_
  obtain ⟨q2, e3, hf⟩ := z_bd hf
  refine aw_callV X [] [] [z_i q2] cX11_140 (sX1_0 ((σ 0 2).toNat) g1) ciX1 (C_X1_isTold l D cA sa ad bs ((σ 0 2).toNat) g1 σ q2 e3) rfl ⟨(Nat.le_of_ble_eq_true rfl), (Nat.le_of_ble_eq_true rfl), (Nat.le_of_ble_eq_true rfl), (Nat.le_of_ble_eq_true rfl)⟩ rfl (Nat.le_of_ble_eq_true rfl) rfl dX11_all_4 (fun p4 => ?_)
  refine aw_if_ne X (tgt := 13) (z_zI p4) dX11_all_7 (by decide) (fun h5 => ?_) (fun h5 => ?_)
  · rw [if_neg h5] at hf
    refine aw_iload_n X 1 dX11_all_13 rfl rfl ?_
    by_cases h6 : v1 = 0
    · rw [if_pos h6] at hf
      refine aw_tabIn X (tgt := 68) c_v1 dX11_all_14 (by omega) (by omega) (by rw [h6]; rfl) (by decide) ?_
      refine aw_aload_n X 0 dX11_all_68 rfl rfl ?_
      refine aw_getR X s_0 fX11_42 rfl dX11_all_69 ?_
      refine aw_getI X (sX7_0 173 (by decide)) fX11_277 rfl dX11_all_72 (fun c7 => ?_)
      obtain rfl := Option.some.inj hf
      exact aw_iret X c7 hr rfl dX11_all_75
    rw [if_neg h6] at hf
    by_cases h8 : v1 = 1
    · rw [if_pos h8] at hf
      refine aw_tabIn X (tgt := 76) c_v1 dX11_all_14 (by omega) (by omega) (by rw [h8]; rfl) (by decide) ?_
      refine aw_aload_n X 0 dX11_all_76 rfl rfl ?_
      refine aw_getR X s_0 fX11_42 rfl dX11_all_77 ?_
      refine aw_getI X (sX7_0 173 (by decide)) fX11_344 rfl dX11_all_80 (fun c9 => ?_)
      obtain rfl := Option.some.inj hf
      exact aw_iret X c9 hr rfl dX11_all_83
    rw [if_neg h8] at hf
    by_cases h10 : v1 = 2
    · rw [if_pos h10] at hf
      refine aw_tabIn X (tgt := 84) c_v1 dX11_all_14 (by omega) (by omega) (by rw [h10]; rfl) (by decide) ?_
      refine aw_aload_n X 0 dX11_all_84 rfl rfl ?_
      refine aw_getR X s_0 fX11_42 rfl dX11_all_85 ?_
      refine aw_getI X (sX7_0 173 (by decide)) fX11_338 rfl dX11_all_88 (fun c11 => ?_)
      obtain rfl := Option.some.inj hf
      exact aw_iret X c11 hr rfl dX11_all_91
    rw [if_neg h10] at hf
    by_cases h12 : v1 = 3
    · rw [if_pos h12] at hf
      refine aw_tabIn X (tgt := 92) c_v1 dX11_all_14 (by omega) (by omega) (by rw [h12]; rfl) (by decide) ?_
      refine aw_aload_n X 0 dX11_all_92 rfl rfl ?_
      refine aw_getR X s_0 fX11_42 rfl dX11_all_93 ?_
      refine aw_aload_n X 0 dX11_all_96 rfl rfl ?_
      obtain ⟨g13, hf⟩ := z_gd hf
      refine aw_getV X s_0 fX11_24 rfl dX11_all_97 ?_
      obtain ⟨q14, e15, hf⟩ := z_bd hf
      refine aw_callV X [.ref (ad ((σ 0 2).toNat))] [] [z_i q14] cX11_341 (sX7_0 173 (by decide)) ciX7 (C_X7_lateOfAll l D cA sa ad bs 173 (by decide) ((σ 0 2).toNat) g13 σ q14 e15) rfl ⟨(Nat.le_of_ble_eq_true rfl), (Nat.le_of_ble_eq_true rfl), (Nat.le_of_ble_eq_true rfl), (Nat.le_of_ble_eq_true rfl)⟩ rfl (Nat.le_of_ble_eq_true rfl) rfl dX11_all_100 (fun p16 => ?_)
      obtain rfl := Option.some.inj hf
      exact aw_iret X p16 hr rfl dX11_all_103
    rw [if_neg h12] at hf
    by_cases h17 : v1 = 4
    · rw [if_pos h17] at hf
      refine aw_tabIn X (tgt := 104) c_v1 dX11_all_14 (by omega) (by omega) (by rw [h17]; rfl) (by decide) ?_
      refine aw_aload_n X 0 dX11_all_104 rfl rfl ?_
      refine aw_getR X s_0 fX11_42 rfl dX11_all_105 ?_
      refine aw_getI X (sX7_0 173 (by decide)) fX11_185 rfl dX11_all_108 (fun c18 => ?_)
      obtain rfl := Option.some.inj hf
      exact aw_iret X c18 hr rfl dX11_all_111
    rw [if_neg h17] at hf
    by_cases h19 : v1 = 5
    · rw [if_pos h19] at hf
      refine aw_tabIn X (tgt := 112) c_v1 dX11_all_14 (by omega) (by omega) (by rw [h19]; rfl) (by decide) ?_
      refine aw_aload_n X 0 dX11_all_112 rfl rfl ?_
      refine aw_getR X s_0 fX11_42 rfl dX11_all_113 ?_
      refine aw_getI X (sX7_0 173 (by decide)) fX11_227 rfl dX11_all_116 (fun c20 => ?_)
      obtain rfl := Option.some.inj hf
      exact aw_iret X c20 hr rfl dX11_all_119
    rw [if_neg h19] at hf
    by_cases h21 : v1 = 6
    · rw [if_pos h21] at hf
      refine aw_tabIn X (tgt := 120) c_v1 dX11_all_14 (by omega) (by omega) (by rw [h21]; rfl) (by decide) ?_
      refine aw_aload_n X 0 dX11_all_120 rfl rfl ?_
      refine aw_getR X s_0 fX11_42 rfl dX11_all_121 ?_
      refine aw_aload_n X 0 dX11_all_124 rfl rfl ?_
      obtain ⟨g22, hf⟩ := z_gd hf
      refine aw_getV X s_0 fX11_24 rfl dX11_all_125 ?_
      obtain ⟨q23, e24, hf⟩ := z_bd hf
      refine aw_callV X [.ref (ad ((σ 0 2).toNat))] [] [z_i q23] cX11_389 (sX7_0 173 (by decide)) ciX7 (C_X7_tasksWithRest l D cA sa ad bs 173 (by decide) ((σ 0 2).toNat) g22 σ q23 e24) rfl ⟨(Nat.le_of_ble_eq_true rfl), (Nat.le_of_ble_eq_true rfl), (Nat.le_of_ble_eq_true rfl), (Nat.le_of_ble_eq_true rfl)⟩ rfl (Nat.le_of_ble_eq_true rfl) rfl dX11_all_128 (fun p25 => ?_)
      obtain rfl := Option.some.inj hf
      exact aw_iret X p25 hr rfl dX11_all_131
    rw [if_neg h21] at hf
    by_cases h26 : v1 = 7
    · rw [if_pos h26] at hf
      refine aw_tabIn X (tgt := 132) c_v1 dX11_all_14 (by omega) (by omega) (by rw [h26]; rfl) (by decide) ?_
      refine aw_aload_n X 0 dX11_all_132 rfl rfl ?_
      refine aw_getR X s_0 fX11_42 rfl dX11_all_133 ?_
      refine aw_aload_n X 0 dX11_all_136 rfl rfl ?_
      obtain ⟨g27, hf⟩ := z_gd hf
      refine aw_getV X s_0 fX11_24 rfl dX11_all_137 ?_
      obtain ⟨q28, e29, hf⟩ := z_bd hf
      refine aw_callV X [.ref (ad ((σ 0 2).toNat))] [] [z_i q28] cX11_392 (sX7_0 173 (by decide)) ciX7 (C_X7_mostLoaded l D cA sa ad bs 173 (by decide) ((σ 0 2).toNat) g27 σ q28 e29) rfl ⟨(Nat.le_of_ble_eq_true rfl), (Nat.le_of_ble_eq_true rfl), (Nat.le_of_ble_eq_true rfl), (Nat.le_of_ble_eq_true rfl)⟩ rfl (Nat.le_of_ble_eq_true rfl) rfl dX11_all_140 (fun p30 => ?_)
      obtain rfl := Option.some.inj hf
      exact aw_iret X p30 hr rfl dX11_all_143
    rw [if_neg h26] at hf
    by_cases h31 : v1 = 8
    · rw [if_pos h31] at hf
      refine aw_tabIn X (tgt := 144) c_v1 dX11_all_14 (by omega) (by omega) (by rw [h31]; rfl) (by decide) ?_
      refine aw_aload_n X 0 dX11_all_144 rfl rfl ?_
      obtain ⟨q32, e33, hf⟩ := z_bd hf
      refine aw_callV X [] [] [z_i q32] cX11_395 s_0 ciX11 (C_X11_fullestCore l D cA sa ad bs σ q32 e33) rfl ⟨(Nat.le_of_ble_eq_true rfl), (Nat.le_of_ble_eq_true rfl), (Nat.le_of_ble_eq_true rfl), (Nat.le_of_ble_eq_true rfl)⟩ rfl (Nat.le_of_ble_eq_true rfl) rfl dX11_all_145 (fun p34 => ?_)
      obtain rfl := Option.some.inj hf
      exact aw_iret X p34 hr rfl dX11_all_148
    rw [if_neg h31] at hf
    by_cases h35 : v1 = 9
    · rw [if_pos h35] at hf
      refine aw_tabIn X (tgt := 149) c_v1 dX11_all_14 (by omega) (by omega) (by rw [h35]; rfl) (by decide) ?_
      refine aw_aload_n X 0 dX11_all_149 rfl rfl ?_
      obtain ⟨q36, e37, hf⟩ := z_bd hf
      refine aw_callV X [] [] [z_i q36] cX11_398 s_0 ciX11 (C_X11_sharesOfAll l D cA sa ad bs σ q36 e37) rfl ⟨(Nat.le_of_ble_eq_true rfl), (Nat.le_of_ble_eq_true rfl), (Nat.le_of_ble_eq_true rfl), (Nat.le_of_ble_eq_true rfl)⟩ rfl (Nat.le_of_ble_eq_true rfl) rfl dX11_all_150 (fun p38 => ?_)
      obtain rfl := Option.some.inj hf
      exact aw_iret X p38 hr rfl dX11_all_153
    rw [if_neg h35] at hf
    refine aw_tabOut X (tgt := 154) c_v1 dX11_all_14 (by omega) (by decide) ?_
    refine aw_ldc X (x := (-1000000)) dX11_all_154 kX11_181 (by decide) ?_
    obtain rfl := Option.some.inj hf
    exact aw_iret X (z_lit (x := (-1000000)) (by decide)) hr rfl dX11_all_156
  · rw [if_pos h5] at hf
    refine aw_ldc X (x := (-1000000)) dX11_all_10 kX11_181 (by decide) ?_
    obtain rfl := Option.some.inj hf
    exact aw_iret X (z_lit (x := (-1000000)) (by decide)) hr rfl dX11_all_12
-- SpeedDesk.image()I
section S_X11_image
variable {p : Program} {l : Launch} {e : Env} {s : State} {m : MethodId} {args : Array Value} {below : List Frame} {meth : Method} {c : Code} {D : va_G} {cA : Nat → ClassId} {sa ad : Nat → Nat} {bs : Nat} {q : (Int × (Nat → Nat → Int))}

end S_X11_image
set_option maxHeartbeats 4000000 in
set_option maxRecDepth 100000 in
theorem C_X11_image (l : Launch) (D : va_G) (cA : Nat → ClassId) (sa ad : Nat → Nat) (bs : Nat)  (σ : Nat → Nat → Int) (q : (Int × (Nat → Nat → Int))) (hf : f_X11_image σ = some q) : AM l D cA sa ad bs 788 SHp yX11_image cX11_image 1 (some .int) 2 [.ref (ad 0)] σ (some (z_i q.1)) (Z_I q.1) q.2 := by
  refine am_of (by decide +kernel) (Nat.le_of_ble_eq_true rfl) (fun p e s m args below meth c X hr => ?_)
  refine aw_lv (lv' := [(0, .ref (ad 0))]) rfl ?_
  unfold f_X11_image at hf
  refine aw_aload_n X 0 dX11_image_0 rfl rfl ?_
  obtain ⟨g1, hf⟩ := z_gd hf
  refine aw_getV X s_0 fX11_24 rfl dX11_image_1 ?_
  obtain ⟨q2, e3, hf⟩ := z_bd hf
  refine aw_callV X [] [] [z_i q2] cX11_140 (sX1_0 ((σ 0 2).toNat) g1) ciX1 (C_X1_isTold l D cA sa ad bs ((σ 0 2).toNat) g1 σ q2 e3) rfl ⟨(Nat.le_of_ble_eq_true rfl), (Nat.le_of_ble_eq_true rfl), (Nat.le_of_ble_eq_true rfl), (Nat.le_of_ble_eq_true rfl)⟩ rfl (Nat.le_of_ble_eq_true rfl) rfl dX11_image_4 (fun p4 => ?_)
  refine aw_if_ne X (tgt := 12) (z_zI p4) dX11_image_7 (by decide) (fun h5 => ?_) (fun h5 => ?_)
  · rw [if_neg h5] at hf
    refine aw_aload_n X 0 dX11_image_12 rfl rfl ?_
    refine aw_getR X s_0 fX11_49 rfl dX11_image_13 ?_
    refine aw_aload_n X 0 dX11_image_16 rfl rfl ?_
    refine aw_getR X s_0 fX11_42 rfl dX11_image_17 ?_
    obtain ⟨q6, e7, hf⟩ := z_bd hf
    refine aw_callV X [.ref (ad 173)] [] [] cX11_331 (sX7_0 199 (by decide)) ciX7 (C_X7_copyFrom l D cA sa ad bs 199 (by decide) 173 (by decide) σ q6 e7) rfl ⟨(Nat.le_of_ble_eq_true rfl), (Nat.le_of_ble_eq_true rfl), (Nat.le_of_ble_eq_true rfl), (Nat.le_of_ble_eq_true rfl)⟩ rfl (Nat.le_of_ble_eq_true rfl) rfl dX11_image_20 (fun p8 => ?_)
    refine aw_aload_n X 0 dX11_image_23 rfl rfl ?_
    refine aw_getR X s_0 fX11_59 rfl dX11_image_24 ?_
    refine aw_aload_n X 0 dX11_image_27 rfl rfl ?_
    refine aw_getR X s_0 fX11_55 rfl dX11_image_28 ?_
    obtain ⟨q9, e10, hf⟩ := z_bd hf
    refine aw_callV X [.ref (ad 212)] [] [] cX11_401 (sX4_0 216 (by decide)) ciX4 (C_X4_copyFrom l D cA sa ad bs 216 (by decide) 212 (by decide) q6 q9 e10) rfl ⟨(Nat.le_of_ble_eq_true rfl), (Nat.le_of_ble_eq_true rfl), (Nat.le_of_ble_eq_true rfl), (Nat.le_of_ble_eq_true rfl)⟩ rfl (Nat.le_of_ble_eq_true rfl) rfl dX11_image_31 (fun p11 => ?_)
    refine aw_aload_n X 0 dX11_image_34 rfl rfl ?_
    refine aw_iconst X dX11_image_35 ?_
    refine aw_putZ X s_0 pX11_404 rfl (Or.inr rfl) dX11_image_36 ?_
    refine aw_aload_n X 0 dX11_image_39 rfl rfl ?_
    refine aw_getR X s_0 fX11_42 rfl dX11_image_40 ?_
    refine aw_getI X (sX7_0 173 (by decide)) fX11_277 rfl dX11_image_43 (fun c12 => ?_)
    obtain rfl := Option.some.inj hf
    exact aw_iret X c12 hr rfl dX11_image_46
  · rw [if_pos h5] at hf
    refine aw_iconst X dX11_image_10 ?_
    obtain rfl := Option.some.inj hf
    exact aw_iret X (z_lit (x := (-1)) (by decide)) hr rfl dX11_image_11
-- SpeedDesk.back()I
section S_X11_back
variable {p : Program} {l : Launch} {e : Env} {s : State} {m : MethodId} {args : Array Value} {below : List Frame} {meth : Method} {c : Code} {D : va_G} {cA : Nat → ClassId} {sa ad : Nat → Nat} {bs : Nat} {q : (Int × (Nat → Nat → Int))}

end S_X11_back
set_option maxHeartbeats 4000000 in
set_option maxRecDepth 100000 in
theorem C_X11_back (l : Launch) (D : va_G) (cA : Nat → ClassId) (sa ad : Nat → Nat) (bs : Nat)  (σ : Nat → Nat → Int) (q : (Int × (Nat → Nat → Int))) (hf : f_X11_back σ = some q) : AM l D cA sa ad bs 788 SHp yX11_back cX11_back 1 (some .int) 2 [.ref (ad 0)] σ (some (z_i q.1)) (Z_I q.1) q.2 := by
  refine am_of (by decide +kernel) (Nat.le_of_ble_eq_true rfl) (fun p e s m args below meth c X hr => ?_)
  refine aw_lv (lv' := [(0, .ref (ad 0))]) rfl ?_
  unfold f_X11_back at hf
  refine aw_aload_n X 0 dX11_back_0 rfl rfl ?_
  refine aw_getI X s_0 fX11_404 rfl dX11_back_1 (fun c1 => ?_)
  refine aw_if_ne X (tgt := 9) c1 dX11_back_4 (by decide) (fun h2 => ?_) (fun h2 => ?_)
  · rw [if_neg h2] at hf
    refine aw_aload_n X 0 dX11_back_9 rfl rfl ?_
    refine aw_getR X s_0 fX11_42 rfl dX11_back_10 ?_
    refine aw_aload_n X 0 dX11_back_13 rfl rfl ?_
    refine aw_getR X s_0 fX11_49 rfl dX11_back_14 ?_
    obtain ⟨q3, e4, hf⟩ := z_bd hf
    refine aw_callV X [.ref (ad 199)] [] [] cX11_331 (sX7_0 173 (by decide)) ciX7 (C_X7_copyFrom l D cA sa ad bs 173 (by decide) 199 (by decide) σ q3 e4) rfl ⟨(Nat.le_of_ble_eq_true rfl), (Nat.le_of_ble_eq_true rfl), (Nat.le_of_ble_eq_true rfl), (Nat.le_of_ble_eq_true rfl)⟩ rfl (Nat.le_of_ble_eq_true rfl) rfl dX11_back_17 (fun p5 => ?_)
    refine aw_aload_n X 0 dX11_back_20 rfl rfl ?_
    refine aw_getR X s_0 fX11_55 rfl dX11_back_21 ?_
    refine aw_aload_n X 0 dX11_back_24 rfl rfl ?_
    refine aw_getR X s_0 fX11_59 rfl dX11_back_25 ?_
    obtain ⟨q6, e7, hf⟩ := z_bd hf
    refine aw_callV X [.ref (ad 216)] [] [] cX11_401 (sX4_0 212 (by decide)) ciX4 (C_X4_copyFrom l D cA sa ad bs 212 (by decide) 216 (by decide) q3 q6 e7) rfl ⟨(Nat.le_of_ble_eq_true rfl), (Nat.le_of_ble_eq_true rfl), (Nat.le_of_ble_eq_true rfl), (Nat.le_of_ble_eq_true rfl)⟩ rfl (Nat.le_of_ble_eq_true rfl) rfl dX11_back_28 (fun p8 => ?_)
    refine aw_aload_n X 0 dX11_back_31 rfl rfl ?_
    refine aw_getR X s_0 fX11_65 rfl dX11_back_32 ?_
    obtain ⟨q9, e10, hf⟩ := z_bd hf
    refine aw_callV X [] [] [] cX11_408 s_220 ciX3 (C_X3_forget l D cA sa ad bs q6 q9 e10) rfl ⟨(Nat.le_of_ble_eq_true rfl), (Nat.le_of_ble_eq_true rfl), (Nat.le_of_ble_eq_true rfl), (Nat.le_of_ble_eq_true rfl)⟩ rfl (Nat.le_of_ble_eq_true rfl) rfl dX11_back_35 (fun p11 => ?_)
    refine aw_aload_n X 0 dX11_back_38 rfl rfl ?_
    refine aw_getR X s_0 fX11_42 rfl dX11_back_39 ?_
    refine aw_getI X (sX7_0 173 (by decide)) fX11_277 rfl dX11_back_42 (fun c12 => ?_)
    obtain rfl := Option.some.inj hf
    exact aw_iret X c12 hr rfl dX11_back_45
  · rw [if_pos h2] at hf
    refine aw_iconst X dX11_back_7 ?_
    obtain rfl := Option.some.inj hf
    exact aw_iret X (z_lit (x := (-1)) (by decide)) hr rfl dX11_back_8
-- SpeedDesk.count(I)I
section S_X11_count
variable {p : Program} {l : Launch} {e : Env} {s : State} {m : MethodId} {args : Array Value} {below : List Frame} {meth : Method} {c : Code} {D : va_G} {cA : Nat → ClassId} {sa ad : Nat → Nat} {bs : Nat} {q : Int}

end S_X11_count
set_option maxHeartbeats 4000000 in
set_option maxRecDepth 100000 in
theorem C_X11_count (l : Launch) (D : va_G) (cA : Nat → ClassId) (sa ad : Nat → Nat) (bs : Nat) (v1 : Int) (c_v1 : Z_I v1) (σ : Nat → Nat → Int) (q : Int) (hf : f_X11_count v1 σ = some q) : AM l D cA sa ad bs 788 SHp yX11_count cX11_count 2 (some .int) 2 [.ref (ad 0), z_i v1] σ (some (z_i q)) (Z_I q) σ := by
  refine am_of (by decide +kernel) (Nat.le_of_ble_eq_true rfl) (fun p e s m args below meth c X hr => ?_)
  refine aw_lv (lv' := [(0, .ref (ad 0)), (1, z_i v1)]) rfl ?_
  unfold f_X11_count at hf
  refine aw_iload_n X 1 dX11_count_0 rfl rfl ?_
  by_cases h1 : v1 = 0
  · rw [if_pos h1] at hf
    refine aw_tabIn X (tgt := 44) c_v1 dX11_count_1 (by omega) (by omega) (by rw [h1]; rfl) (by decide) ?_
    refine aw_aload_n X 0 dX11_count_44 rfl rfl ?_
    obtain ⟨g2, hf⟩ := z_gd hf
    refine aw_getV X s_0 fX11_24 rfl dX11_count_45 ?_
    refine aw_getI X (sX1_0 ((σ 0 2).toNat) g2) fX11_411 rfl dX11_count_48 (fun c3 => ?_)
    obtain rfl := Option.some.inj hf
    exact aw_iret X c3 hr rfl dX11_count_51
  rw [if_neg h1] at hf
  by_cases h4 : v1 = 1
  · rw [if_pos h4] at hf
    refine aw_tabIn X (tgt := 52) c_v1 dX11_count_1 (by omega) (by omega) (by rw [h4]; rfl) (by decide) ?_
    refine aw_aload_n X 0 dX11_count_52 rfl rfl ?_
    refine aw_getI X s_0 fX11_134 rfl dX11_count_53 (fun c5 => ?_)
    obtain rfl := Option.some.inj hf
    exact aw_iret X c5 hr rfl dX11_count_56
  rw [if_neg h4] at hf
  by_cases h6 : v1 = 2
  · rw [if_pos h6] at hf
    refine aw_tabIn X (tgt := 57) c_v1 dX11_count_1 (by omega) (by omega) (by rw [h6]; rfl) (by decide) ?_
    refine aw_aload_n X 0 dX11_count_57 rfl rfl ?_
    refine aw_getR X s_0 fX11_20 rfl dX11_count_58 ?_
    refine aw_getI X s_2 fX11_103 rfl dX11_count_61 (fun c7 => ?_)
    obtain rfl := Option.some.inj hf
    exact aw_iret X c7 hr rfl dX11_count_64
  rw [if_neg h6] at hf
  by_cases h8 : v1 = 3
  · rw [if_pos h8] at hf
    refine aw_tabIn X (tgt := 65) c_v1 dX11_count_1 (by omega) (by omega) (by rw [h8]; rfl) (by decide) ?_
    refine aw_aload_n X 0 dX11_count_65 rfl rfl ?_
    obtain ⟨q9, e10, hf⟩ := z_bd hf
    refine aw_callV X [] [] [z_i q9] cX11_287 s_0 ciX11 (C_X11_logLength l D cA sa ad bs σ q9 e10) rfl ⟨(Nat.le_of_ble_eq_true rfl), (Nat.le_of_ble_eq_true rfl), (Nat.le_of_ble_eq_true rfl), (Nat.le_of_ble_eq_true rfl)⟩ rfl (Nat.le_of_ble_eq_true rfl) rfl dX11_count_66 (fun p11 => ?_)
    obtain rfl := Option.some.inj hf
    exact aw_iret X p11 hr rfl dX11_count_69
  rw [if_neg h8] at hf
  by_cases h12 : v1 = 4
  · rw [if_pos h12] at hf
    refine aw_tabIn X (tgt := 70) c_v1 dX11_count_1 (by omega) (by omega) (by rw [h12]; rfl) (by decide) ?_
    refine aw_aload_n X 0 dX11_count_70 rfl rfl ?_
    refine aw_getR X s_0 fX11_65 rfl dX11_count_71 ?_
    refine aw_getI X s_220 fX11_284 rfl dX11_count_74 (fun c13 => ?_)
    obtain rfl := Option.some.inj hf
    exact aw_iret X c13 hr rfl dX11_count_77
  rw [if_neg h12] at hf
  by_cases h14 : v1 = 5
  · rw [if_pos h14] at hf
    refine aw_tabIn X (tgt := 78) c_v1 dX11_count_1 (by omega) (by omega) (by rw [h14]; rfl) (by decide) ?_
    refine aw_aload_n X 0 dX11_count_78 rfl rfl ?_
    obtain ⟨g15, hf⟩ := z_gd hf
    refine aw_getV X s_0 fX11_24 rfl dX11_count_79 ?_
    refine aw_getI X (sX1_0 ((σ 0 2).toNat) g15) fX11_414 rfl dX11_count_82 (fun c16 => ?_)
    obtain rfl := Option.some.inj hf
    exact aw_iret X c16 hr rfl dX11_count_85
  rw [if_neg h14] at hf
  by_cases h17 : v1 = 6
  · rw [if_pos h17] at hf
    refine aw_tabIn X (tgt := 86) c_v1 dX11_count_1 (by omega) (by omega) (by rw [h17]; rfl) (by decide) ?_
    refine aw_aload_n X 0 dX11_count_86 rfl rfl ?_
    refine aw_getR X s_0 fX11_42 rfl dX11_count_87 ?_
    refine aw_getI X (sX7_0 173 (by decide)) fX11_417 rfl dX11_count_90 (fun c18 => ?_)
    obtain rfl := Option.some.inj hf
    exact aw_iret X c18 hr rfl dX11_count_93
  rw [if_neg h17] at hf
  refine aw_tabOut X (tgt := 94) c_v1 dX11_count_1 (by omega) (by decide) ?_
  refine aw_ldc X (x := (-1000000)) dX11_count_94 kX11_181 (by decide) ?_
  obtain rfl := Option.some.inj hf
  exact aw_iret X (z_lit (x := (-1000000)) (by decide)) hr rfl dX11_count_96
-- SpeedDesk.clusterNow(II)I
section S_X11_clusterNow
variable {p : Program} {l : Launch} {e : Env} {s : State} {m : MethodId} {args : Array Value} {below : List Frame} {meth : Method} {c : Code} {D : va_G} {cA : Nat → ClassId} {sa ad : Nat → Nat} {bs : Nat} {q : Int}

end S_X11_clusterNow
set_option maxHeartbeats 4000000 in
set_option maxRecDepth 100000 in
theorem C_X11_clusterNow (l : Launch) (D : va_G) (cA : Nat → ClassId) (sa ad : Nat → Nat) (bs : Nat) (v1 : Int) (c_v1 : Z_I v1) (v2 : Int) (c_v2 : Z_I v2) (σ : Nat → Nat → Int) (q : Int) (hf : f_X11_clusterNow v1 v2 σ = some q) : AM l D cA sa ad bs 788 SHp yX11_clusterNow cX11_clusterNow 3 (some .int) 3 [.ref (ad 0), z_i v1, z_i v2] σ (some (z_i q)) (Z_I q) σ := by
  refine am_of (by decide +kernel) (Nat.le_of_ble_eq_true rfl) (fun p e s m args below meth c X hr => ?_)
  refine aw_lv (lv' := [(0, .ref (ad 0)), (1, z_i v1), (2, z_i v2)]) rfl ?_
  unfold f_X11_clusterNow at hf
  refine aw_iload_n X 2 dX11_clusterNow_0 rfl rfl ?_
  by_cases h1 : v2 = 4
  · rw [if_pos h1] at hf
    refine aw_tabIn X (tgt := 40) c_v2 dX11_clusterNow_1 (by omega) (by omega) (by rw [h1]; rfl) (by decide) ?_
    refine aw_aload_n X 0 dX11_clusterNow_40 rfl rfl ?_
    refine aw_getR X s_0 fX11_42 rfl dX11_clusterNow_41 ?_
    refine aw_getR X (sX7_0 173 (by decide)) fX11_347 rfl dX11_clusterNow_44 ?_
    refine aw_iload_n X 1 dX11_clusterNow_47 rfl rfl ?_
    obtain ⟨g2, hf⟩ := z_gd hf
    refine aw_iald X (j := v1.toNat) (sX7_5 173 (by decide)) c_v1 g2.1 g2.2 rfl dX11_clusterNow_48 (fun c3 => ?_)
    obtain rfl := Option.some.inj hf
    exact aw_iret X c3 hr rfl dX11_clusterNow_49
  rw [if_neg h1] at hf
  by_cases h4 : v2 = 5
  · rw [if_pos h4] at hf
    refine aw_tabIn X (tgt := 50) c_v2 dX11_clusterNow_1 (by omega) (by omega) (by rw [h4]; rfl) (by decide) ?_
    refine aw_aload_n X 0 dX11_clusterNow_50 rfl rfl ?_
    refine aw_getR X s_0 fX11_42 rfl dX11_clusterNow_51 ?_
    refine aw_getR X (sX7_0 173 (by decide)) fX11_429 rfl dX11_clusterNow_54 ?_
    refine aw_iload_n X 1 dX11_clusterNow_57 rfl rfl ?_
    obtain ⟨g5, hf⟩ := z_gd hf
    refine aw_iald X (j := v1.toNat) (sX7_6 173 (by decide)) c_v1 g5.1 g5.2 rfl dX11_clusterNow_58 (fun c6 => ?_)
    obtain rfl := Option.some.inj hf
    exact aw_iret X c6 hr rfl dX11_clusterNow_59
  rw [if_neg h4] at hf
  by_cases h7 : v2 = 6
  · rw [if_pos h7] at hf
    refine aw_tabIn X (tgt := 60) c_v2 dX11_clusterNow_1 (by omega) (by omega) (by rw [h7]; rfl) (by decide) ?_
    refine aw_aload_n X 0 dX11_clusterNow_60 rfl rfl ?_
    refine aw_getR X s_0 fX11_42 rfl dX11_clusterNow_61 ?_
    refine aw_getR X (sX7_0 173 (by decide)) fX11_431 rfl dX11_clusterNow_64 ?_
    refine aw_iload_n X 1 dX11_clusterNow_67 rfl rfl ?_
    obtain ⟨g8, hf⟩ := z_gd hf
    refine aw_iald X (j := v1.toNat) (sX7_7 173 (by decide)) c_v1 g8.1 g8.2 rfl dX11_clusterNow_68 (fun c9 => ?_)
    obtain rfl := Option.some.inj hf
    exact aw_iret X c9 hr rfl dX11_clusterNow_69
  rw [if_neg h7] at hf
  by_cases h10 : v2 = 7
  · rw [if_pos h10] at hf
    refine aw_tabIn X (tgt := 70) c_v2 dX11_clusterNow_1 (by omega) (by omega) (by rw [h10]; rfl) (by decide) ?_
    refine aw_aload_n X 0 dX11_clusterNow_70 rfl rfl ?_
    refine aw_getR X s_0 fX11_42 rfl dX11_clusterNow_71 ?_
    refine aw_iload_n X 1 dX11_clusterNow_74 rfl rfl ?_
    obtain ⟨q11, e12, hf⟩ := z_bd hf
    refine aw_callV X [z_i v1] [] [z_i q11] cX11_434 (sX7_0 173 (by decide)) ciX7 (C_X7_lowOf l D cA sa ad bs 173 (by decide) v1 c_v1 σ q11 e12) rfl ⟨(Nat.le_of_ble_eq_true rfl), (Nat.le_of_ble_eq_true rfl), (Nat.le_of_ble_eq_true rfl), (Nat.le_of_ble_eq_true rfl)⟩ rfl (Nat.le_of_ble_eq_true rfl) rfl dX11_clusterNow_75 (fun p13 => ?_)
    obtain rfl := Option.some.inj hf
    exact aw_iret X p13 hr rfl dX11_clusterNow_78
  rw [if_neg h10] at hf
  by_cases h14 : v2 = 8
  · rw [if_pos h14] at hf
    refine aw_tabIn X (tgt := 79) c_v2 dX11_clusterNow_1 (by omega) (by omega) (by rw [h14]; rfl) (by decide) ?_
    refine aw_aload_n X 0 dX11_clusterNow_79 rfl rfl ?_
    refine aw_getR X s_0 fX11_42 rfl dX11_clusterNow_80 ?_
    refine aw_aload_n X 0 dX11_clusterNow_83 rfl rfl ?_
    obtain ⟨g15, hf⟩ := z_gd hf
    refine aw_getV X s_0 fX11_24 rfl dX11_clusterNow_84 ?_
    refine aw_iload_n X 1 dX11_clusterNow_87 rfl rfl ?_
    obtain ⟨q16, e17, hf⟩ := z_bd hf
    refine aw_callV X [.ref (ad ((σ 0 2).toNat)), z_i v1] [] [z_i q16] cX11_437 (sX7_0 173 (by decide)) ciX7 (C_X7_highOf l D cA sa ad bs 173 (by decide) ((σ 0 2).toNat) g15 v1 c_v1 σ q16 e17) rfl ⟨(Nat.le_of_ble_eq_true rfl), (Nat.le_of_ble_eq_true rfl), (Nat.le_of_ble_eq_true rfl), (Nat.le_of_ble_eq_true rfl)⟩ rfl (Nat.le_of_ble_eq_true rfl) rfl dX11_clusterNow_88 (fun p18 => ?_)
    obtain rfl := Option.some.inj hf
    exact aw_iret X p18 hr rfl dX11_clusterNow_91
  rw [if_neg h14] at hf
  by_cases h19 : v2 = 9
  · rw [if_pos h19] at hf
    refine aw_tabIn X (tgt := 92) c_v2 dX11_clusterNow_1 (by omega) (by omega) (by rw [h19]; rfl) (by decide) ?_
    refine aw_aload_n X 0 dX11_clusterNow_92 rfl rfl ?_
    refine aw_getR X s_0 fX11_80 rfl dX11_clusterNow_93 ?_
    refine aw_aload_n X 0 dX11_clusterNow_96 rfl rfl ?_
    obtain ⟨g20, hf⟩ := z_gd hf
    refine aw_getV X s_0 fX11_24 rfl dX11_clusterNow_97 ?_
    refine aw_aload_n X 0 dX11_clusterNow_100 rfl rfl ?_
    refine aw_getR X s_0 fX11_42 rfl dX11_clusterNow_101 ?_
    refine aw_iload_n X 1 dX11_clusterNow_104 rfl rfl ?_
    obtain ⟨q21, e22, hf⟩ := z_bd hf
    refine aw_callV X [.ref (ad ((σ 0 2).toNat)), .ref (ad 173), z_i v1] [] [z_i q21] cX11_441 s_743 ciX2 (C_X2_needOf l D cA sa ad bs ((σ 0 2).toNat) g20 173 (by decide) v1 c_v1 σ q21 e22) rfl ⟨(Nat.le_of_ble_eq_true rfl), (Nat.le_of_ble_eq_true rfl), (Nat.le_of_ble_eq_true rfl), (Nat.le_of_ble_eq_true rfl)⟩ rfl (Nat.le_of_ble_eq_true rfl) rfl dX11_clusterNow_105 (fun p23 => ?_)
    obtain rfl := Option.some.inj hf
    exact aw_iret X p23 hr rfl dX11_clusterNow_108
  rw [if_neg h19] at hf
  refine aw_tabOut X (tgt := 109) c_v2 dX11_clusterNow_1 (by omega) (by decide) ?_
  refine aw_aload_n X 0 dX11_clusterNow_109 rfl rfl ?_
  refine aw_getR X s_0 fX11_80 rfl dX11_clusterNow_110 ?_
  refine aw_aload_n X 0 dX11_clusterNow_113 rfl rfl ?_
  obtain ⟨g24, hf⟩ := z_gd hf
  refine aw_getV X s_0 fX11_24 rfl dX11_clusterNow_114 ?_
  refine aw_aload_n X 0 dX11_clusterNow_117 rfl rfl ?_
  refine aw_getR X s_0 fX11_42 rfl dX11_clusterNow_118 ?_
  refine aw_iload_n X 1 dX11_clusterNow_121 rfl rfl ?_
  obtain ⟨q25, e26, hf⟩ := z_bd hf
  refine aw_callV X [.ref (ad ((σ 0 2).toNat)), .ref (ad 173), z_i v1] [] [z_i q25] cX11_444 s_743 ciX2 (C_X2_wantOf l D cA sa ad bs ((σ 0 2).toNat) g24 173 (by decide) v1 c_v1 σ q25 e26) rfl ⟨(Nat.le_of_ble_eq_true rfl), (Nat.le_of_ble_eq_true rfl), (Nat.le_of_ble_eq_true rfl), (Nat.le_of_ble_eq_true rfl)⟩ rfl (Nat.le_of_ble_eq_true rfl) rfl dX11_clusterNow_122 (fun p27 => ?_)
  obtain rfl := Option.some.inj hf
  exact aw_iret X p27 hr rfl dX11_clusterNow_125
