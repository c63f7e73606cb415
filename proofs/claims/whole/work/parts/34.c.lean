-- SpeedDesk.log(II)I
def f_X11_log (v1 : Int) (v2 : Int) (σ : Nat → Nat → Int) : Option Int := if v1 < 0 then (some (-1000000)) else ((f_X11_logLength σ).bind fun q2 => if v1 < q2 then ((f_X4_read 212 (z_w ((z_w ((σ 173 3) - 1)) - v1)) v2 σ).bind fun q7 => some q7) else (some (-1000000)))
section S_X11_log
variable {p : Program} {l : Launch} {e : Env} {s : State} {m : MethodId} {args : Array Value} {below : List Frame} {meth : Method} {c : Code} {D : va_G} {cA : Nat → ClassId} {sa : Nat → Nat} {bs : Nat} {q : Int}

end S_X11_log
set_option maxHeartbeats 4000000 in
set_option maxRecDepth 100000 in
theorem C_X11_log (l : Launch) (D : va_G) (cA : Nat → ClassId) (sa : Nat → Nat) (bs : Nat) (v1 : Int) (c_v1 : Z_I v1) (v2 : Int) (c_v2 : Z_I v2) (σ : Nat → Nat → Int) (q : Int) (hf : f_X11_log v1 v2 σ = some q) : AM l D cA sa bs 787 SH yX11_log cX11_log 3 (some .int) 2 [.ref (bs + 0), z_i v1, z_i v2] σ (some (z_i q)) (Z_I q) σ := by
  refine am_of (by decide +kernel) (Nat.le_of_ble_eq_true rfl) (fun p e s m args below meth c X hr => ?_)
  refine aw_lv (lv' := [(0, .ref (bs + 0)), (1, z_i v1), (2, z_i v2)]) rfl ?_
  unfold f_X11_log at hf
  refine aw_iload_n X 1 dX11_log_0 rfl rfl ?_
  refine aw_if_lt X (tgt := 12) c_v1 dX11_log_1 (by decide) (fun h1 => ?_) (fun h1 => ?_)
  · rw [if_pos h1] at hf
    refine aw_ldc X (x := (-1000000)) dX11_log_12 kX11_178 (by decide) ?_
    obtain rfl := Option.some.inj hf
    exact aw_iret X (z_lit (x := (-1000000)) (by decide)) hr rfl dX11_log_14
  · rw [if_neg h1] at hf
    refine aw_iload_n X 1 dX11_log_4 rfl rfl ?_
    refine aw_aload_n X 0 dX11_log_5 rfl rfl ?_
    obtain ⟨q2, e3, hf⟩ := z_bd hf
    refine aw_callV X [] [z_i v1] [z_i q2, z_i v1] cX11_284 s_0 ciX11 (C_X11_logLength l D cA sa bs σ q2 e3) rfl ⟨(Nat.le_of_ble_eq_true rfl), (Nat.le_of_ble_eq_true rfl)⟩ rfl (Nat.le_of_ble_eq_true rfl) rfl dX11_log_6 (fun p4 => ?_)
    refine aw_icmp_lt X (tgt := 15) c_v1 p4 dX11_log_9 (by decide) (fun h5 => ?_) (fun h5 => ?_)
    · rw [if_pos h5] at hf
      refine aw_aload_n X 0 dX11_log_15 rfl rfl ?_
      refine aw_getR X s_0 fX11_55 rfl dX11_log_16 ?_
      refine aw_aload_n X 0 dX11_log_19 rfl rfl ?_
      refine aw_getR X s_0 fX11_42 rfl dX11_log_20 ?_
      refine aw_getI X (sX7_0 173 (by decide)) fX11_287 rfl dX11_log_23 (fun c6 => ?_)
      refine aw_iconst X dX11_log_26 ?_
      refine aw_isub X dX11_log_27 ?_
      refine aw_iload_n X 1 dX11_log_28 rfl rfl ?_
      refine aw_isub X dX11_log_29 ?_
      refine aw_iload_n X 2 dX11_log_30 rfl rfl ?_
      obtain ⟨q7, e8, hf⟩ := z_bd hf
      refine aw_callV X [z_i (z_w ((z_w ((σ 173 3) - 1)) - v1)), z_i v2] [] [z_i q7] cX11_290 (sX4_0 212 (by decide)) ciX4 (C_X4_read l D cA sa bs 212 (by decide) (z_w ((z_w ((σ 173 3) - 1)) - v1)) (z_w_in _) v2 c_v2 σ q7 e8) rfl ⟨(Nat.le_of_ble_eq_true rfl), (Nat.le_of_ble_eq_true rfl)⟩ rfl (Nat.le_of_ble_eq_true rfl) rfl dX11_log_31 (fun p9 => ?_)
      obtain rfl := Option.some.inj hf
      exact aw_iret X p9 hr rfl dX11_log_34
    · rw [if_neg h5] at hf
      refine aw_ldc X (x := (-1000000)) dX11_log_12 kX11_178 (by decide) ?_
      obtain rfl := Option.some.inj hf
      exact aw_iret X (z_lit (x := (-1000000)) (by decide)) hr rfl dX11_log_14
-- SpeedDesk.price()I
def f_X11_price  (σ : Nat → Nat → Int) : Option (Int × (Nat → Nat → Int)) := if (σ 0 2).toNat ∈ ax_iX1 then (f_X1_isTold ((σ 0 2).toNat) σ).bind fun q2 => if q2 = 0 then (some ((-1), σ)) else (if (σ 0 2).toNat ∈ ax_iX1 then (f_X5_priceAsItIs ((σ 0 2).toNat) 173 σ).bind fun q7 => some (q7.1, q7.2) else none) else none
section S_X11_price
variable {p : Program} {l : Launch} {e : Env} {s : State} {m : MethodId} {args : Array Value} {below : List Frame} {meth : Method} {c : Code} {D : va_G} {cA : Nat → ClassId} {sa : Nat → Nat} {bs : Nat} {q : (Int × (Nat → Nat → Int))}

end S_X11_price
set_option maxHeartbeats 4000000 in
set_option maxRecDepth 100000 in
theorem C_X11_price (l : Launch) (D : va_G) (cA : Nat → ClassId) (sa : Nat → Nat) (bs : Nat)  (σ : Nat → Nat → Int) (q : (Int × (Nat → Nat → Int))) (hf : f_X11_price σ = some q) : AM l D cA sa bs 787 SH yX11_price cX11_price 1 (some .int) 5 [.ref (bs + 0)] σ (some (z_i q.1)) (Z_I q.1) q.2 := by
  refine am_of (by decide +kernel) (Nat.le_of_ble_eq_true rfl) (fun p e s m args below meth c X hr => ?_)
  refine aw_lv (lv' := [(0, .ref (bs + 0))]) rfl ?_
  unfold f_X11_price at hf
  refine aw_aload_n X 0 dX11_price_0 rfl rfl ?_
  obtain ⟨g1, hf⟩ := z_gd hf
  refine aw_getV X s_0 fX11_24 rfl dX11_price_1 ?_
  obtain ⟨q2, e3, hf⟩ := z_bd hf
  refine aw_callV X [] [] [z_i q2] cX11_137 (sX1_0 ((σ 0 2).toNat) g1) ciX1 (C_X1_isTold l D cA sa bs ((σ 0 2).toNat) g1 σ q2 e3) rfl ⟨(Nat.le_of_ble_eq_true rfl), (Nat.le_of_ble_eq_true rfl)⟩ rfl (Nat.le_of_ble_eq_true rfl) rfl dX11_price_4 (fun p4 => ?_)
  refine aw_if_eq X (tgt := 28) (z_zI p4) dX11_price_7 (by decide) (fun h5 => ?_) (fun h5 => ?_)
  · rw [if_pos h5] at hf
    refine aw_iconst X dX11_price_28 ?_
    obtain rfl := Option.some.inj hf
    exact aw_iret X (z_lit (x := (-1)) (by decide)) hr rfl dX11_price_29
  · rw [if_neg h5] at hf
    refine aw_aload_n X 0 dX11_price_10 rfl rfl ?_
    refine aw_getR X s_0 fX11_85 rfl dX11_price_11 ?_
    refine aw_aload_n X 0 dX11_price_14 rfl rfl ?_
    obtain ⟨g6, hf⟩ := z_gd hf
    refine aw_getV X s_0 fX11_24 rfl dX11_price_15 ?_
    refine aw_aload_n X 0 dX11_price_18 rfl rfl ?_
    refine aw_getR X s_0 fX11_42 rfl dX11_price_19 ?_
    obtain ⟨q7, e8, hf⟩ := z_bd hf
    refine aw_callV X [.ref (bs + ((σ 0 2).toNat)), .ref (bs + 173)] [] [z_i q7.1] cX11_293 s_745 ciX5 (C_X5_priceAsItIs l D cA sa bs ((σ 0 2).toNat) g6 173 (by decide) σ q7 e8) rfl ⟨(Nat.le_of_ble_eq_true rfl), (Nat.le_of_ble_eq_true rfl)⟩ rfl (Nat.le_of_ble_eq_true rfl) rfl dX11_price_22 (fun p9 => ?_)
    refine aw_goto X (tgt := 29) dX11_price_25 (by decide) ?_
    obtain rfl := Option.some.inj hf
    exact aw_iret X p9 hr rfl dX11_price_29
-- SpeedDesk.best(II)I
def f_X11_best (v1 : Int) (v2 : Int) (σ : Nat → Nat → Int) : Option (Int × (Nat → Nat → Int)) := if (σ 0 2).toNat ∈ ax_iX1 then (f_X1_isTold ((σ 0 2).toNat) σ).bind fun q2 => if q2 = 0 then (some ((-1), σ)) else (if (σ 0 2).toNat ∈ ax_iX1 then (f_X5_findBest ((σ 0 2).toNat) 173 σ).bind fun q7 => if q7.1 = 0 then (some ((-1), q7.2)) else (if v1 = 0 then (some (q7.2 745 2, q7.2)) else (if v1 = 1 then (if (q7.2 0 2).toNat ∈ ax_iX1 then (f_X1_hasTask ((q7.2 0 2).toNat) v2 q7.2).bind fun q14 => if q14 = 0 then (some ((-1), q7.2)) else (if 0 ≤ v2 ∧ v2 < 4 then some (q7.2 747 v2.toNat, q7.2) else none) else none) else (some ((-1), q7.2)))) else none) else none
section S_X11_best
variable {p : Program} {l : Launch} {e : Env} {s : State} {m : MethodId} {args : Array Value} {below : List Frame} {meth : Method} {c : Code} {D : va_G} {cA : Nat → ClassId} {sa : Nat → Nat} {bs : Nat} {q : (Int × (Nat → Nat → Int))}

end S_X11_best
set_option maxHeartbeats 4000000 in
set_option maxRecDepth 100000 in
theorem C_X11_best (l : Launch) (D : va_G) (cA : Nat → ClassId) (sa : Nat → Nat) (bs : Nat) (v1 : Int) (c_v1 : Z_I v1) (v2 : Int) (c_v2 : Z_I v2) (σ : Nat → Nat → Int) (q : (Int × (Nat → Nat → Int))) (hf : f_X11_best v1 v2 σ = some q) : AM l D cA sa bs 787 SH yX11_best cX11_best 3 (some .int) 5 [.ref (bs + 0), z_i v1, z_i v2] σ (some (z_i q.1)) (Z_I q.1) q.2 := by
  refine am_of (by decide +kernel) (Nat.le_of_ble_eq_true rfl) (fun p e s m args below meth c X hr => ?_)
  refine aw_lv (lv' := [(0, .ref (bs + 0)), (1, z_i v1), (2, z_i v2)]) rfl ?_
  unfold f_X11_best at hf
  refine aw_aload_n X 0 dX11_best_0 rfl rfl ?_
  obtain ⟨g1, hf⟩ := z_gd hf
  refine aw_getV X s_0 fX11_24 rfl dX11_best_1 ?_
  obtain ⟨q2, e3, hf⟩ := z_bd hf
  refine aw_callV X [] [] [z_i q2] cX11_137 (sX1_0 ((σ 0 2).toNat) g1) ciX1 (C_X1_isTold l D cA sa bs ((σ 0 2).toNat) g1 σ q2 e3) rfl ⟨(Nat.le_of_ble_eq_true rfl), (Nat.le_of_ble_eq_true rfl)⟩ rfl (Nat.le_of_ble_eq_true rfl) rfl dX11_best_4 (fun p4 => ?_)
  refine aw_if_eq X (tgt := 28) (z_zI p4) dX11_best_7 (by decide) (fun h5 => ?_) (fun h5 => ?_)
  · rw [if_pos h5] at hf
    refine aw_iconst X dX11_best_28 ?_
    obtain rfl := Option.some.inj hf
    exact aw_iret X (z_lit (x := (-1)) (by decide)) hr rfl dX11_best_29
  · rw [if_neg h5] at hf
    refine aw_aload_n X 0 dX11_best_10 rfl rfl ?_
    refine aw_getR X s_0 fX11_85 rfl dX11_best_11 ?_
    refine aw_aload_n X 0 dX11_best_14 rfl rfl ?_
    obtain ⟨g6, hf⟩ := z_gd hf
    refine aw_getV X s_0 fX11_24 rfl dX11_best_15 ?_
    refine aw_aload_n X 0 dX11_best_18 rfl rfl ?_
    refine aw_getR X s_0 fX11_42 rfl dX11_best_19 ?_
    obtain ⟨q7, e8, hf⟩ := z_bd hf
    refine aw_callV X [.ref (bs + ((σ 0 2).toNat)), .ref (bs + 173)] [] [z_i q7.1] cX11_299 s_745 ciX5 (C_X5_findBest l D cA sa bs ((σ 0 2).toNat) g6 173 (by decide) σ q7 e8) rfl ⟨(Nat.le_of_ble_eq_true rfl), (Nat.le_of_ble_eq_true rfl)⟩ rfl (Nat.le_of_ble_eq_true rfl) rfl dX11_best_22 (fun p9 => ?_)
    refine aw_if_ne X (tgt := 30) (z_zI p9) dX11_best_25 (by decide) (fun h10 => ?_) (fun h10 => ?_)
    · rw [if_neg h10] at hf
      refine aw_iload_n X 1 dX11_best_30 rfl rfl ?_
      refine aw_if_ne X (tgt := 42) c_v1 dX11_best_31 (by decide) (fun h11 => ?_) (fun h11 => ?_)
      · rw [if_neg h11] at hf
        refine aw_iload_n X 1 dX11_best_42 rfl rfl ?_
        refine aw_iconst X dX11_best_43 ?_
        refine aw_icmp_ne X (tgt := 70) c_v1 (z_lit (x := 1) (by decide)) dX11_best_44 (by decide) (fun h12 => ?_) (fun h12 => ?_)
        · rw [if_neg h12] at hf
          refine aw_iconst X dX11_best_70 ?_
          obtain rfl := Option.some.inj hf
          exact aw_iret X (z_lit (x := (-1)) (by decide)) hr rfl dX11_best_71
        · rw [if_pos h12] at hf
          refine aw_aload_n X 0 dX11_best_47 rfl rfl ?_
          obtain ⟨g13, hf⟩ := z_gd hf
          refine aw_getV X s_0 fX11_24 rfl dX11_best_48 ?_
          refine aw_iload_n X 2 dX11_best_51 rfl rfl ?_
          obtain ⟨q14, e15, hf⟩ := z_bd hf
          refine aw_callV X [z_i v2] [] [z_i q14] cX11_203 (sX1_0 ((q7.2 0 2).toNat) g13) ciX1 (C_X1_hasTask l D cA sa bs ((q7.2 0 2).toNat) g13 v2 c_v2 q7.2 q14 e15) rfl ⟨(Nat.le_of_ble_eq_true rfl), (Nat.le_of_ble_eq_true rfl)⟩ rfl (Nat.le_of_ble_eq_true rfl) rfl dX11_best_52 (fun p16 => ?_)
          refine aw_if_eq X (tgt := 70) (z_zI p16) dX11_best_55 (by decide) (fun h17 => ?_) (fun h17 => ?_)
          · rw [if_pos h17] at hf
            refine aw_iconst X dX11_best_70 ?_
            obtain rfl := Option.some.inj hf
            exact aw_iret X (z_lit (x := (-1)) (by decide)) hr rfl dX11_best_71
          · rw [if_neg h17] at hf
            refine aw_aload_n X 0 dX11_best_58 rfl rfl ?_
            refine aw_getR X s_0 fX11_85 rfl dX11_best_59 ?_
            refine aw_getR X s_745 fX11_306 rfl dX11_best_62 ?_
            refine aw_iload_n X 2 dX11_best_65 rfl rfl ?_
            obtain ⟨g18, hf⟩ := z_gd hf
            refine aw_iald X (j := v2.toNat) s_747 c_v2 g18.1 g18.2 rfl dX11_best_66 (fun c19 => ?_)
            refine aw_goto X (tgt := 71) dX11_best_67 (by decide) ?_
            obtain rfl := Option.some.inj hf
            exact aw_iret X c19 hr rfl dX11_best_71
      · rw [if_pos h11] at hf
        refine aw_aload_n X 0 dX11_best_34 rfl rfl ?_
        refine aw_getR X s_0 fX11_85 rfl dX11_best_35 ?_
        refine aw_getI X s_745 fX11_303 rfl dX11_best_38 (fun c20 => ?_)
        obtain rfl := Option.some.inj hf
        exact aw_iret X c20 hr rfl dX11_best_41
    · rw [if_pos h10] at hf
      refine aw_iconst X dX11_best_28 ?_
      obtain rfl := Option.some.inj hf
      exact aw_iret X (z_lit (x := (-1)) (by decide)) hr rfl dX11_best_29
-- SpeedDesk.greedy(II)I
def f_X11_greedy (v1 : Int) (v2 : Int) (σ : Nat → Nat → Int) : Option (Int × (Nat → Nat → Int)) := if (σ 0 2).toNat ∈ ax_iX1 then (f_X1_isTold ((σ 0 2).toNat) σ).bind fun q2 => if q2 = 0 then (some ((-1), σ)) else (if (σ 0 2).toNat ∈ ax_iX1 then (f_X5_putGreedily ((σ 0 2).toNat) 173 σ).bind fun q7 => if q7.1 = 0 then (some ((-1), q7.2)) else (if v1 = 0 then (if (q7.2 0 2).toNat ∈ ax_iX1 then (f_X5_priceOf ((q7.2 0 2).toNat) q7.2).bind fun q21 => some (q21.1, q21.2) else none) else (if v1 = 1 then (if (q7.2 0 2).toNat ∈ ax_iX1 then (f_X1_hasTask ((q7.2 0 2).toNat) v2 q7.2).bind fun q14 => if q14 = 0 then (some ((-1), q7.2)) else (if 0 ≤ v2 ∧ v2 < 4 then some (q7.2 746 v2.toNat, q7.2) else none) else none) else (some ((-1), q7.2)))) else none) else none
section S_X11_greedy
variable {p : Program} {l : Launch} {e : Env} {s : State} {m : MethodId} {args : Array Value} {below : List Frame} {meth : Method} {c : Code} {D : va_G} {cA : Nat → ClassId} {sa : Nat → Nat} {bs : Nat} {q : (Int × (Nat → Nat → Int))}

end S_X11_greedy
set_option maxHeartbeats 4000000 in
set_option maxRecDepth 100000 in
theorem C_X11_greedy (l : Launch) (D : va_G) (cA : Nat → ClassId) (sa : Nat → Nat) (bs : Nat) (v1 : Int) (c_v1 : Z_I v1) (v2 : Int) (c_v2 : Z_I v2) (σ : Nat → Nat → Int) (q : (Int × (Nat → Nat → Int))) (hf : f_X11_greedy v1 v2 σ = some q) : AM l D cA sa bs 787 SH yX11_greedy cX11_greedy 3 (some .int) 6 [.ref (bs + 0), z_i v1, z_i v2] σ (some (z_i q.1)) (Z_I q.1) q.2 := by
  refine am_of (by decide +kernel) (Nat.le_of_ble_eq_true rfl) (fun p e s m args below meth c X hr => ?_)
  refine aw_lv (lv' := [(0, .ref (bs + 0)), (1, z_i v1), (2, z_i v2)]) rfl ?_
  unfold f_X11_greedy at hf
  refine aw_aload_n X 0 dX11_greedy_0 rfl rfl ?_
  obtain ⟨g1, hf⟩ := z_gd hf
  refine aw_getV X s_0 fX11_24 rfl dX11_greedy_1 ?_
  obtain ⟨q2, e3, hf⟩ := z_bd hf
  refine aw_callV X [] [] [z_i q2] cX11_137 (sX1_0 ((σ 0 2).toNat) g1) ciX1 (C_X1_isTold l D cA sa bs ((σ 0 2).toNat) g1 σ q2 e3) rfl ⟨(Nat.le_of_ble_eq_true rfl), (Nat.le_of_ble_eq_true rfl)⟩ rfl (Nat.le_of_ble_eq_true rfl) rfl dX11_greedy_4 (fun p4 => ?_)
  refine aw_if_eq X (tgt := 28) (z_zI p4) dX11_greedy_7 (by decide) (fun h5 => ?_) (fun h5 => ?_)
  · rw [if_pos h5] at hf
    refine aw_iconst X dX11_greedy_28 ?_
    obtain rfl := Option.some.inj hf
    exact aw_iret X (z_lit (x := (-1)) (by decide)) hr rfl dX11_greedy_29
  · rw [if_neg h5] at hf
    refine aw_aload_n X 0 dX11_greedy_10 rfl rfl ?_
    refine aw_getR X s_0 fX11_85 rfl dX11_greedy_11 ?_
    refine aw_aload_n X 0 dX11_greedy_14 rfl rfl ?_
    obtain ⟨g6, hf⟩ := z_gd hf
    refine aw_getV X s_0 fX11_24 rfl dX11_greedy_15 ?_
    refine aw_aload_n X 0 dX11_greedy_18 rfl rfl ?_
    refine aw_getR X s_0 fX11_42 rfl dX11_greedy_19 ?_
    obtain ⟨q7, e8, hf⟩ := z_bd hf
    refine aw_callV X [.ref (bs + ((σ 0 2).toNat)), .ref (bs + 173)] [] [z_i q7.1] cX11_309 s_745 ciX5 (C_X5_putGreedily l D cA sa bs ((σ 0 2).toNat) g6 173 (by decide) σ q7 e8) rfl ⟨(Nat.le_of_ble_eq_true rfl), (Nat.le_of_ble_eq_true rfl)⟩ rfl (Nat.le_of_ble_eq_true rfl) rfl dX11_greedy_22 (fun p9 => ?_)
    refine aw_if_ne X (tgt := 30) (z_zI p9) dX11_greedy_25 (by decide) (fun h10 => ?_) (fun h10 => ?_)
    · rw [if_neg h10] at hf
      refine aw_iload_n X 1 dX11_greedy_30 rfl rfl ?_
      refine aw_if_ne X (tgt := 46) c_v1 dX11_greedy_31 (by decide) (fun h11 => ?_) (fun h11 => ?_)
      · rw [if_neg h11] at hf
        refine aw_iload_n X 1 dX11_greedy_46 rfl rfl ?_
        refine aw_iconst X dX11_greedy_47 ?_
        refine aw_icmp_ne X (tgt := 74) c_v1 (z_lit (x := 1) (by decide)) dX11_greedy_48 (by decide) (fun h12 => ?_) (fun h12 => ?_)
        · rw [if_neg h12] at hf
          refine aw_iconst X dX11_greedy_74 ?_
          obtain rfl := Option.some.inj hf
          exact aw_iret X (z_lit (x := (-1)) (by decide)) hr rfl dX11_greedy_75
        · rw [if_pos h12] at hf
          refine aw_aload_n X 0 dX11_greedy_51 rfl rfl ?_
          obtain ⟨g13, hf⟩ := z_gd hf
          refine aw_getV X s_0 fX11_24 rfl dX11_greedy_52 ?_
          refine aw_iload_n X 2 dX11_greedy_55 rfl rfl ?_
          obtain ⟨q14, e15, hf⟩ := z_bd hf
          refine aw_callV X [z_i v2] [] [z_i q14] cX11_203 (sX1_0 ((q7.2 0 2).toNat) g13) ciX1 (C_X1_hasTask l D cA sa bs ((q7.2 0 2).toNat) g13 v2 c_v2 q7.2 q14 e15) rfl ⟨(Nat.le_of_ble_eq_true rfl), (Nat.le_of_ble_eq_true rfl)⟩ rfl (Nat.le_of_ble_eq_true rfl) rfl dX11_greedy_56 (fun p16 => ?_)
          refine aw_if_eq X (tgt := 74) (z_zI p16) dX11_greedy_59 (by decide) (fun h17 => ?_) (fun h17 => ?_)
          · rw [if_pos h17] at hf
            refine aw_iconst X dX11_greedy_74 ?_
            obtain rfl := Option.some.inj hf
            exact aw_iret X (z_lit (x := (-1)) (by decide)) hr rfl dX11_greedy_75
          · rw [if_neg h17] at hf
            refine aw_aload_n X 0 dX11_greedy_62 rfl rfl ?_
            refine aw_getR X s_0 fX11_85 rfl dX11_greedy_63 ?_
            refine aw_getR X s_745 fX11_315 rfl dX11_greedy_66 ?_
            refine aw_iload_n X 2 dX11_greedy_69 rfl rfl ?_
            obtain ⟨g18, hf⟩ := z_gd hf
            refine aw_iald X (j := v2.toNat) s_746 c_v2 g18.1 g18.2 rfl dX11_greedy_70 (fun c19 => ?_)
            refine aw_goto X (tgt := 75) dX11_greedy_71 (by decide) ?_
            obtain rfl := Option.some.inj hf
            exact aw_iret X c19 hr rfl dX11_greedy_75
      · rw [if_pos h11] at hf
        refine aw_aload_n X 0 dX11_greedy_34 rfl rfl ?_
        refine aw_getR X s_0 fX11_85 rfl dX11_greedy_35 ?_
        refine aw_aload_n X 0 dX11_greedy_38 rfl rfl ?_
        obtain ⟨g20, hf⟩ := z_gd hf
        refine aw_getV X s_0 fX11_24 rfl dX11_greedy_39 ?_
        obtain ⟨q21, e22, hf⟩ := z_bd hf
        refine aw_callV X [.ref (bs + ((q7.2 0 2).toNat))] [] [z_i q21.1] cX11_312 s_745 ciX5 (C_X5_priceOf l D cA sa bs ((q7.2 0 2).toNat) g20 q7.2 q21 e22) rfl ⟨(Nat.le_of_ble_eq_true rfl), (Nat.le_of_ble_eq_true rfl)⟩ rfl (Nat.le_of_ble_eq_true rfl) rfl dX11_greedy_42 (fun p23 => ?_)
        obtain rfl := Option.some.inj hf
        exact aw_iret X p23 hr rfl dX11_greedy_45
    · rw [if_pos h10] at hf
      refine aw_iconst X dX11_greedy_28 ?_
      obtain rfl := Option.some.inj hf
      exact aw_iret X (z_lit (x := (-1)) (by decide)) hr rfl dX11_greedy_29
-- SpeedDesk.moves()I
def f_X11_moves  (σ : Nat → Nat → Int) : Option (Int × (Nat → Nat → Int)) := if (σ 0 2).toNat ∈ ax_iX1 then (f_X1_isTold ((σ 0 2).toNat) σ).bind fun q2 => if q2 = 0 then (some ((-1), σ)) else (if (σ 0 2).toNat ∈ ax_iX1 then (f_X5_fewestMoves ((σ 0 2).toNat) 173 σ).bind fun q7 => some (q7.1, q7.2) else none) else none
section S_X11_moves
variable {p : Program} {l : Launch} {e : Env} {s : State} {m : MethodId} {args : Array Value} {below : List Frame} {meth : Method} {c : Code} {D : va_G} {cA : Nat → ClassId} {sa : Nat → Nat} {bs : Nat} {q : (Int × (Nat → Nat → Int))}

end S_X11_moves
set_option maxHeartbeats 4000000 in
set_option maxRecDepth 100000 in
theorem C_X11_moves (l : Launch) (D : va_G) (cA : Nat → ClassId) (sa : Nat → Nat) (bs : Nat)  (σ : Nat → Nat → Int) (q : (Int × (Nat → Nat → Int))) (hf : f_X11_moves σ = some q) : AM l D cA sa bs 787 SH yX11_moves cX11_moves 1 (some .int) 6 [.ref (bs + 0)] σ (some (z_i q.1)) (Z_I q.1) q.2 := by
  refine am_of (by decide +kernel) (Nat.le_of_ble_eq_true rfl) (fun p e s m args below meth c X hr => ?_)
  refine aw_lv (lv' := [(0, .ref (bs + 0))]) rfl ?_
  unfold f_X11_moves at hf
  refine aw_aload_n X 0 dX11_moves_0 rfl rfl ?_
  obtain ⟨g1, hf⟩ := z_gd hf
  refine aw_getV X s_0 fX11_24 rfl dX11_moves_1 ?_
  obtain ⟨q2, e3, hf⟩ := z_bd hf
  refine aw_callV X [] [] [z_i q2] cX11_137 (sX1_0 ((σ 0 2).toNat) g1) ciX1 (C_X1_isTold l D cA sa bs ((σ 0 2).toNat) g1 σ q2 e3) rfl ⟨(Nat.le_of_ble_eq_true rfl), (Nat.le_of_ble_eq_true rfl)⟩ rfl (Nat.le_of_ble_eq_true rfl) rfl dX11_moves_4 (fun p4 => ?_)
  refine aw_if_eq X (tgt := 28) (z_zI p4) dX11_moves_7 (by decide) (fun h5 => ?_) (fun h5 => ?_)
  · rw [if_pos h5] at hf
    refine aw_iconst X dX11_moves_28 ?_
    obtain rfl := Option.some.inj hf
    exact aw_iret X (z_lit (x := (-1)) (by decide)) hr rfl dX11_moves_29
  · rw [if_neg h5] at hf
    refine aw_aload_n X 0 dX11_moves_10 rfl rfl ?_
    refine aw_getR X s_0 fX11_85 rfl dX11_moves_11 ?_
    refine aw_aload_n X 0 dX11_moves_14 rfl rfl ?_
    obtain ⟨g6, hf⟩ := z_gd hf
    refine aw_getV X s_0 fX11_24 rfl dX11_moves_15 ?_
    refine aw_aload_n X 0 dX11_moves_18 rfl rfl ?_
    refine aw_getR X s_0 fX11_42 rfl dX11_moves_19 ?_
    obtain ⟨q7, e8, hf⟩ := z_bd hf
    refine aw_callV X [.ref (bs + ((σ 0 2).toNat)), .ref (bs + 173)] [] [z_i q7.1] cX11_318 s_745 ciX5 (C_X5_fewestMoves l D cA sa bs ((σ 0 2).toNat) g6 173 (by decide) σ q7 e8) rfl ⟨(Nat.le_of_ble_eq_true rfl), (Nat.le_of_ble_eq_true rfl)⟩ rfl (Nat.le_of_ble_eq_true rfl) rfl dX11_moves_22 (fun p9 => ?_)
    refine aw_goto X (tgt := 29) dX11_moves_25 (by decide) ?_
    obtain rfl := Option.some.inj hf
    exact aw_iret X p9 hr rfl dX11_moves_29
-- SpeedDesk.race(IIII)I
def f_X11_race_28 (v1 : Int) (v2 : Int) (v3 : Int) (v4 : Int) (t0 : Int) (σ : Nat → Nat → Int) : Option Int := if (σ 0 2).toNat ∈ ax_iX1 then (f_X1_hasCluster ((σ 0 2).toNat) v1 σ).bind fun q6 => if q6 = 0 then (some (-1000000)) else (if t0 = 0 then (some (-1000000)) else (if v4 < 0 then (some (-1000000)) else (if v4 ≤ 2 then (if (σ 0 2).toNat ∈ ax_iX1 then (f_X1_racingCost ((σ 0 2).toNat) v1 v2 v3 σ).bind fun q14 => if (σ 0 2).toNat ∈ ax_iX1 then (f_X1_slowCost ((σ 0 2).toNat) v1 v2 v3 σ).bind fun q18 => if v4 = 0 then (some q14) else (if v4 = 1 then (some q18) else (if q14 = (-1) then (some (-1)) else (if q18 = (-1) then (some (-1)) else (if q14 ≤ q18 then (some 0) else (some 1))))) else none else none) else (some (-1000000))))) else none
def f_X11_race (v1 : Int) (v2 : Int) (v3 : Int) (v4 : Int) (σ : Nat → Nat → Int) : Option Int := f_X11_race_28 v1 v2 v3 v4 (if v2 < 1 then 0 else (if 9999 < v2 then 0 else (if v3 < 1 then 0 else (if 99 < v3 then 0 else 1)))) σ
section S_X11_race
variable {p : Program} {l : Launch} {e : Env} {s : State} {m : MethodId} {args : Array Value} {below : List Frame} {meth : Method} {c : Code} {D : va_G} {cA : Nat → ClassId} {sa : Nat → Nat} {bs : Nat} {q : Int}
set_option maxHeartbeats 4000000 in
set_option maxRecDepth 100000 in
theorem A_X11_race_28 (X : AX p s m args meth c D cA sa bs cX11_race 8 RX11) (hr : meth.sig.returnType = (some .int)) (σ : Nat → Nat → Int) (v1 : Int) (c_v1 : Z_I v1) (v2 : Int) (c_v2 : Z_I v2) (v3 : Int) (c_v3 : Z_I v3) (v4 : Int) (c_v4 : Z_I v4) (t0 : Int) (c_t0 : Z_I t0) (hf : f_X11_race_28 v1 v2 v3 v4 t0 σ = some q) : AW p l e (ax_rm 3 0 0) s m args below meth c D cA bs 787 SH (ax_MQ below args s D cA bs 787 SH (some (z_i q)) (Z_I q) σ) 8 28 [(0, .ref (bs + 0)), (1, z_i v1), (2, z_i v2), (3, z_i v3), (4, z_i v4)] [z_i t0] σ := by
  unfold f_X11_race_28 at hf
  refine aw_istore X [(5, z_i t0), (0, .ref (bs + 0)), (1, z_i v1), (2, z_i v2), (3, z_i v3), (4, z_i v4)] dX11_race_28 (by decide) rfl ?_
  refine aw_aload_n X 1 dX11_race_30 rfl rfl ?_
  obtain ⟨g5, hf⟩ := z_gd hf
  refine aw_getV X s_0 fX11_24 rfl dX11_race_31 ?_
  refine aw_iload_n X 2 dX11_race_34 rfl rfl ?_
  obtain ⟨q6, e7, hf⟩ := z_bd hf
  refine aw_callV X [z_i v1] [] [z_i q6] cX11_150 (sX1_0 ((σ 0 2).toNat) g5) ciX1 (C_X1_hasCluster l D cA sa bs ((σ 0 2).toNat) g5 v1 c_v1 σ q6 e7) rfl ⟨(Nat.le_of_ble_eq_true rfl), (Nat.le_of_ble_eq_true rfl)⟩ rfl (Nat.le_of_ble_eq_true rfl) rfl dX11_race_35 (fun p8 => ?_)
  refine aw_if_eq X (tgt := 57) (z_zI p8) dX11_race_38 (by decide) (fun h9 => ?_) (fun h9 => ?_)
  · rw [if_pos h9] at hf
    refine aw_ldc X (x := (-1000000)) dX11_race_57 kX11_178 (by decide) ?_
    obtain rfl := Option.some.inj hf
    exact aw_iret X (z_lit (x := (-1000000)) (by decide)) hr rfl dX11_race_59
  · rw [if_neg h9] at hf
    refine aw_iload X 0 dX11_race_41 rfl ?_
    refine aw_if_eq X (tgt := 57) c_t0 dX11_race_43 (by decide) (fun h10 => ?_) (fun h10 => ?_)
    · rw [if_pos h10] at hf
      refine aw_ldc X (x := (-1000000)) dX11_race_57 kX11_178 (by decide) ?_
      obtain rfl := Option.some.inj hf
      exact aw_iret X (z_lit (x := (-1000000)) (by decide)) hr rfl dX11_race_59
    · rw [if_neg h10] at hf
      refine aw_iload X 5 dX11_race_46 rfl ?_
      refine aw_if_lt X (tgt := 57) c_v4 dX11_race_48 (by decide) (fun h11 => ?_) (fun h11 => ?_)
      · rw [if_pos h11] at hf
        refine aw_ldc X (x := (-1000000)) dX11_race_57 kX11_178 (by decide) ?_
        obtain rfl := Option.some.inj hf
        exact aw_iret X (z_lit (x := (-1000000)) (by decide)) hr rfl dX11_race_59
      · rw [if_neg h11] at hf
        refine aw_iload X 5 dX11_race_51 rfl ?_
        refine aw_iconst X dX11_race_53 ?_
        refine aw_icmp_le X (tgt := 60) c_v4 (z_lit (x := 2) (by decide)) dX11_race_54 (by decide) (fun h12 => ?_) (fun h12 => ?_)
        · rw [if_pos h12] at hf
          refine aw_aload_n X 1 dX11_race_60 rfl rfl ?_
          obtain ⟨g13, hf⟩ := z_gd hf
          refine aw_getV X s_0 fX11_24 rfl dX11_race_61 ?_
          refine aw_iload_n X 2 dX11_race_64 rfl rfl ?_
          refine aw_iload_n X 3 dX11_race_65 rfl rfl ?_
          refine aw_iload_n X 4 dX11_race_66 rfl rfl ?_
          obtain ⟨q14, e15, hf⟩ := z_bd hf
          refine aw_callV X [z_i v1, z_i v2, z_i v3] [] [z_i q14] cX11_321 (sX1_0 ((σ 0 2).toNat) g13) ciX1 (C_X1_racingCost l D cA sa bs ((σ 0 2).toNat) g13 v1 c_v1 v2 c_v2 v3 c_v3 σ q14 e15) rfl ⟨(Nat.le_of_ble_eq_true rfl), (Nat.le_of_ble_eq_true rfl)⟩ rfl (Nat.le_of_ble_eq_true rfl) rfl dX11_race_67 (fun p16 => ?_)
          refine aw_istore X [(6, z_i q14), (5, z_i t0), (0, .ref (bs + 0)), (1, z_i v1), (2, z_i v2), (3, z_i v3), (4, z_i v4)] dX11_race_70 (by decide) rfl ?_
          refine aw_aload_n X 2 dX11_race_72 rfl rfl ?_
          obtain ⟨g17, hf⟩ := z_gd hf
          refine aw_getV X s_0 fX11_24 rfl dX11_race_73 ?_
          refine aw_iload_n X 3 dX11_race_76 rfl rfl ?_
          refine aw_iload_n X 4 dX11_race_77 rfl rfl ?_
          refine aw_iload_n X 5 dX11_race_78 rfl rfl ?_
          obtain ⟨q18, e19, hf⟩ := z_bd hf
          refine aw_callV X [z_i v1, z_i v2, z_i v3] [] [z_i q18] cX11_325 (sX1_0 ((σ 0 2).toNat) g17) ciX1 (C_X1_slowCost l D cA sa bs ((σ 0 2).toNat) g17 v1 c_v1 v2 c_v2 v3 c_v3 σ q18 e19) rfl ⟨(Nat.le_of_ble_eq_true rfl), (Nat.le_of_ble_eq_true rfl)⟩ rfl (Nat.le_of_ble_eq_true rfl) rfl dX11_race_79 (fun p20 => ?_)
          refine aw_istore X [(7, z_i q18), (6, z_i q14), (5, z_i t0), (0, .ref (bs + 0)), (1, z_i v1), (2, z_i v2), (3, z_i v3), (4, z_i v4)] dX11_race_82 (by decide) rfl ?_
          refine aw_iload X 7 dX11_race_84 rfl ?_
          refine aw_if_ne X (tgt := 92) c_v4 dX11_race_86 (by decide) (fun h21 => ?_) (fun h21 => ?_)
          · rw [if_neg h21] at hf
            refine aw_iload X 7 dX11_race_92 rfl ?_
            refine aw_iconst X dX11_race_94 ?_
            refine aw_icmp_ne X (tgt := 101) c_v4 (z_lit (x := 1) (by decide)) dX11_race_95 (by decide) (fun h22 => ?_) (fun h22 => ?_)
            · rw [if_neg h22] at hf
              refine aw_iload X 1 dX11_race_101 rfl ?_
              refine aw_iconst X dX11_race_103 ?_
              refine aw_icmp_eq X (tgt := 113) p16 (z_lit (x := (-1)) (by decide)) dX11_race_104 (by decide) (fun h23 => ?_) (fun h23 => ?_)
              · rw [if_pos h23] at hf
                refine aw_iconst X dX11_race_113 ?_
                obtain rfl := Option.some.inj hf
                exact aw_iret X (z_lit (x := (-1)) (by decide)) hr rfl dX11_race_114
              · rw [if_neg h23] at hf
                refine aw_iload X 0 dX11_race_107 rfl ?_
                refine aw_iconst X dX11_race_109 ?_
                refine aw_icmp_ne X (tgt := 115) p20 (z_lit (x := (-1)) (by decide)) dX11_race_110 (by decide) (fun h24 => ?_) (fun h24 => ?_)
                · rw [if_neg h24] at hf
                  refine aw_iload X 0 dX11_race_115 rfl ?_
                  refine aw_iload X 1 dX11_race_117 rfl ?_
                  refine aw_icmp_ge X (tgt := 126) p20 p16 dX11_race_119 (by decide) (fun h25 => ?_) (fun h25 => ?_)
                  · rw [if_pos h25] at hf
                    refine aw_iconst X dX11_race_126 ?_
                    obtain rfl := Option.some.inj hf
                    exact aw_iret X (z_lit (x := 0) (by decide)) hr rfl dX11_race_127
                  · rw [if_neg h25] at hf
                    refine aw_iconst X dX11_race_122 ?_
                    refine aw_goto X (tgt := 127) dX11_race_123 (by decide) ?_
                    obtain rfl := Option.some.inj hf
                    exact aw_iret X (z_lit (x := 1) (by decide)) hr rfl dX11_race_127
                · rw [if_pos h24] at hf
                  refine aw_iconst X dX11_race_113 ?_
                  obtain rfl := Option.some.inj hf
                  exact aw_iret X (z_lit (x := (-1)) (by decide)) hr rfl dX11_race_114
            · rw [if_pos h22] at hf
              refine aw_iload X 0 dX11_race_98 rfl ?_
              obtain rfl := Option.some.inj hf
              exact aw_iret X p20 hr rfl dX11_race_100
          · rw [if_pos h21] at hf
            refine aw_iload X 1 dX11_race_89 rfl ?_
            obtain rfl := Option.some.inj hf
            exact aw_iret X p16 hr rfl dX11_race_91
        · rw [if_neg h12] at hf
          refine aw_ldc X (x := (-1000000)) dX11_race_57 kX11_178 (by decide) ?_
          obtain rfl := Option.some.inj hf
          exact aw_iret X (z_lit (x := (-1000000)) (by decide)) hr rfl dX11_race_59
end S_X11_race
set_option maxHeartbeats 4000000 in
set_option maxRecDepth 100000 in
theorem C_X11_race (l : Launch) (D : va_G) (cA : Nat → ClassId) (sa : Nat → Nat) (bs : Nat) (v1 : Int) (c_v1 : Z_I v1) (v2 : Int) (c_v2 : Z_I v2) (v3 : Int) (c_v3 : Z_I v3) (v4 : Int) (c_v4 : Z_I v4) (σ : Nat → Nat → Int) (q : Int) (hf : f_X11_race v1 v2 v3 v4 σ = some q) : AM l D cA sa bs 787 SH yX11_race cX11_race 8 (some .int) 3 [.ref (bs + 0), z_i v1, z_i v2, z_i v3, z_i v4] σ (some (z_i q)) (Z_I q) σ := by
  refine am_of (by decide +kernel) (Nat.le_of_ble_eq_true rfl) (fun p e s m args below meth c X hr => ?_)
  refine aw_lv (lv' := [(0, .ref (bs + 0)), (1, z_i v1), (2, z_i v2), (3, z_i v3), (4, z_i v4)]) rfl ?_
  unfold f_X11_race at hf
  refine aw_iload_n X 2 dX11_race_0 rfl rfl ?_
  refine aw_iconst X dX11_race_1 ?_
  refine aw_icmp_lt X (tgt := 27) c_v2 (z_lit (x := 1) (by decide)) dX11_race_2 (by decide) (fun h1 => ?_) (fun h1 => ?_)
  · simp only [if_pos h1] at hf
    refine aw_iconst X dX11_race_27 ?_
    exact A_X11_race_28 X hr σ v1 c_v1 v2 c_v2 v3 c_v3 v4 c_v4 0 (z_lit (x := 0) (by decide)) hf
  · simp only [if_neg h1] at hf
    refine aw_iload_n X 2 dX11_race_5 rfl rfl ?_
    refine aw_sipush X dX11_race_6 (by decide) ?_
    refine aw_icmp_gt X (tgt := 27) c_v2 (z_lit (x := 9999) (by decide)) dX11_race_9 (by decide) (fun h2 => ?_) (fun h2 => ?_)
    · simp only [if_pos h2] at hf
      refine aw_iconst X dX11_race_27 ?_
      exact A_X11_race_28 X hr σ v1 c_v1 v2 c_v2 v3 c_v3 v4 c_v4 0 (z_lit (x := 0) (by decide)) hf
    · simp only [if_neg h2] at hf
      refine aw_iload_n X 3 dX11_race_12 rfl rfl ?_
      refine aw_iconst X dX11_race_13 ?_
      refine aw_icmp_lt X (tgt := 27) c_v3 (z_lit (x := 1) (by decide)) dX11_race_14 (by decide) (fun h3 => ?_) (fun h3 => ?_)
      · simp only [if_pos h3] at hf
        refine aw_iconst X dX11_race_27 ?_
        exact A_X11_race_28 X hr σ v1 c_v1 v2 c_v2 v3 c_v3 v4 c_v4 0 (z_lit (x := 0) (by decide)) hf
      · simp only [if_neg h3] at hf
        refine aw_iload_n X 3 dX11_race_17 rfl rfl ?_
        refine aw_bipush X dX11_race_18 (by decide) ?_
        refine aw_icmp_gt X (tgt := 27) c_v3 (z_lit (x := 99) (by decide)) dX11_race_20 (by decide) (fun h4 => ?_) (fun h4 => ?_)
        · simp only [if_pos h4] at hf
          refine aw_iconst X dX11_race_27 ?_
          exact A_X11_race_28 X hr σ v1 c_v1 v2 c_v2 v3 c_v3 v4 c_v4 0 (z_lit (x := 0) (by decide)) hf
        · simp only [if_neg h4] at hf
          refine aw_iconst X dX11_race_23 ?_
          refine aw_goto X (tgt := 28) dX11_race_24 (by decide) ?_
          exact A_X11_race_28 X hr σ v1 c_v1 v2 c_v2 v3 c_v3 v4 c_v4 1 (z_lit (x := 1) (by decide)) hf
-- SpeedDesk.ahead(II)I
def f_X11_ahead_77 (v1 : Int) (v2 : Int) (σ : Nat → Nat → Int) : Option (Int × (Nat → Nat → Int)) := (f_X7_copyFrom 186 173 σ).bind fun q19 => if (q19 0 2).toNat ∈ ax_iX1 then (f_X2_passMany ((q19 0 2).toNat) 186 v1 q19).bind fun q23 => if v2 = 0 then (some (q23.2 186 2, q23.2)) else if v2 = 1 then (if (q23.2 0 2).toNat ∈ ax_iX1 then (f_X7_lateOfAll 186 ((q23.2 0 2).toNat) q23.2).bind fun q30 => some (q30, q23.2) else none) else if v2 = 2 then (some (q23.2 186 1, q23.2)) else (if 0 ≤ (z_w (v2 - 3)) ∧ (z_w (v2 - 3)) < 3 then some (q23.2 (186 + 5) (z_w (v2 - 3)).toNat, q23.2) else none) else none
def f_X11_ahead_25 (v1 : Int) (v2 : Int) (t0 : Int) (σ : Nat → Nat → Int) : Option (Int × (Nat → Nat → Int)) := if (σ 0 2).toNat ∈ ax_iX1 then (f_X1_isTold ((σ 0 2).toNat) σ).bind fun q6 => if q6 = 0 then (some ((-1), σ)) else (if t0 = 0 then (some ((-1), σ)) else (if (z_w ((σ 173 0) + v1)) ≤ 9999 then (if v2 < 3 then (f_X11_ahead_77 v1 v2 σ) else (if (σ 0 2).toNat ∈ ax_iX1 then (f_X1_hasCluster ((σ 0 2).toNat) (z_w (v2 - 3)) σ).bind fun q15 => if q15 = 0 then (some ((-1), σ)) else (f_X11_ahead_77 v1 v2 σ) else none)) else (some ((-1), σ)))) else none
def f_X11_ahead (v1 : Int) (v2 : Int) (σ : Nat → Nat → Int) : Option (Int × (Nat → Nat → Int)) := f_X11_ahead_25 v1 v2 (if v1 < 0 then 0 else (if 200 < v1 then 0 else (if v2 < 0 then 0 else (if 5 < v2 then 0 else 1)))) σ
section S_X11_ahead
variable {p : Program} {l : Launch} {e : Env} {s : State} {m : MethodId} {args : Array Value} {below : List Frame} {meth : Method} {c : Code} {D : va_G} {cA : Nat → ClassId} {sa : Nat → Nat} {bs : Nat} {q : (Int × (Nat → Nat → Int))}
set_option maxHeartbeats 4000000 in
set_option maxRecDepth 100000 in
theorem A_X11_ahead_77 (X : AX p s m args meth c D cA sa bs cX11_ahead 4 RX11) (hr : meth.sig.returnType = (some .int)) (v1 : Int) (c_v1 : Z_I v1) (v2 : Int) (c_v2 : Z_I v2) (σ : Nat → Nat → Int) (hf : f_X11_ahead_77 v1 v2 σ = some q) : AW p l e (ax_rm 6 0 0) s m args below meth c D cA bs 787 SH (ax_MQ below args s D cA bs 787 SH (some (z_i q.1)) (Z_I q.1) q.2) 4 77 [(0, .ref (bs + 0)), (1, z_i v1), (2, z_i v2)] [] σ := by
  unfold f_X11_ahead_77 at hf
  refine aw_aload_n X 0 dX11_ahead_77 rfl rfl ?_
  refine aw_getR X s_0 fX11_46 rfl dX11_ahead_78 ?_
  refine aw_aload_n X 0 dX11_ahead_81 rfl rfl ?_
  refine aw_getR X s_0 fX11_42 rfl dX11_ahead_82 ?_
  obtain ⟨q19, e20, hf⟩ := z_bd hf
  refine aw_callV X [.ref (bs + 173)] [] [] cX11_328 (sX7_0 186 (by decide)) ciX7 (C_X7_copyFrom l D cA sa bs 186 (by decide) 173 (by decide) σ q19 e20) rfl ⟨(Nat.le_of_ble_eq_true rfl), (Nat.le_of_ble_eq_true rfl)⟩ rfl (Nat.le_of_ble_eq_true rfl) rfl dX11_ahead_85 (fun p21 => ?_)
  refine aw_aload_n X 0 dX11_ahead_88 rfl rfl ?_
  refine aw_getR X s_0 fX11_80 rfl dX11_ahead_89 ?_
  refine aw_aload_n X 0 dX11_ahead_92 rfl rfl ?_
  obtain ⟨g22, hf⟩ := z_gd hf
  refine aw_getV X s_0 fX11_24 rfl dX11_ahead_93 ?_
  refine aw_aload_n X 0 dX11_ahead_96 rfl rfl ?_
  refine aw_getR X s_0 fX11_46 rfl dX11_ahead_97 ?_
  refine aw_iload_n X 1 dX11_ahead_100 rfl rfl ?_
  obtain ⟨q23, e24, hf⟩ := z_bd hf
  refine aw_callV X [.ref (bs + ((q19 0 2).toNat)), .ref (bs + 186), z_i v1] [] [z_i q23.1] cX11_332 s_743 ciX2 (C_X2_passMany l D cA sa bs ((q19 0 2).toNat) g22 186 (by decide) v1 c_v1 q19 q23 e24) rfl ⟨(Nat.le_of_ble_eq_true rfl), (Nat.le_of_ble_eq_true rfl)⟩ rfl (Nat.le_of_ble_eq_true rfl) rfl dX11_ahead_101 (fun p25 => ?_)
  refine aw_pop X dX11_ahead_104 rfl ?_
  refine aw_iload_n X 2 dX11_ahead_105 rfl rfl ?_
  by_cases h26 : v2 = 0
  · rw [if_pos h26] at hf
    refine aw_tabIn X (tgt := 132) c_v2 dX11_ahead_106 (by omega) (by omega) (by rw [h26]; rfl) (by decide) ?_
    refine aw_aload_n X 0 dX11_ahead_132 rfl rfl ?_
    refine aw_getR X s_0 fX11_46 rfl dX11_ahead_133 ?_
    refine aw_getI X (sX7_0 186 (by decide)) fX11_335 rfl dX11_ahead_136 (fun c27 => ?_)
    obtain rfl := Option.some.inj hf
    exact aw_iret X c27 hr rfl dX11_ahead_139
  rw [if_neg h26] at hf
  by_cases h28 : v2 = 1
  · rw [if_pos h28] at hf
    refine aw_tabIn X (tgt := 140) c_v2 dX11_ahead_106 (by omega) (by omega) (by rw [h28]; rfl) (by decide) ?_
    refine aw_aload_n X 0 dX11_ahead_140 rfl rfl ?_
    refine aw_getR X s_0 fX11_46 rfl dX11_ahead_141 ?_
    refine aw_aload_n X 0 dX11_ahead_144 rfl rfl ?_
    obtain ⟨g29, hf⟩ := z_gd hf
    refine aw_getV X s_0 fX11_24 rfl dX11_ahead_145 ?_
    obtain ⟨q30, e31, hf⟩ := z_bd hf
    refine aw_callV X [.ref (bs + ((q23.2 0 2).toNat))] [] [z_i q30] cX11_338 (sX7_0 186 (by decide)) ciX7 (C_X7_lateOfAll l D cA sa bs 186 (by decide) ((q23.2 0 2).toNat) g29 q23.2 q30 e31) rfl ⟨(Nat.le_of_ble_eq_true rfl), (Nat.le_of_ble_eq_true rfl)⟩ rfl (Nat.le_of_ble_eq_true rfl) rfl dX11_ahead_148 (fun p32 => ?_)
    obtain rfl := Option.some.inj hf
    exact aw_iret X p32 hr rfl dX11_ahead_151
  rw [if_neg h28] at hf
  by_cases h33 : v2 = 2
  · rw [if_pos h33] at hf
    refine aw_tabIn X (tgt := 152) c_v2 dX11_ahead_106 (by omega) (by omega) (by rw [h33]; rfl) (by decide) ?_
    refine aw_aload_n X 0 dX11_ahead_152 rfl rfl ?_
    refine aw_getR X s_0 fX11_46 rfl dX11_ahead_153 ?_
    refine aw_getI X (sX7_0 186 (by decide)) fX11_341 rfl dX11_ahead_156 (fun c34 => ?_)
    obtain rfl := Option.some.inj hf
    exact aw_iret X c34 hr rfl dX11_ahead_159
  rw [if_neg h33] at hf
  refine aw_tabOut X (tgt := 160) c_v2 dX11_ahead_106 (by omega) (by decide) ?_
  refine aw_aload_n X 0 dX11_ahead_160 rfl rfl ?_
  refine aw_getR X s_0 fX11_46 rfl dX11_ahead_161 ?_
  refine aw_getR X (sX7_0 186 (by decide)) fX11_344 rfl dX11_ahead_164 ?_
  refine aw_iload_n X 2 dX11_ahead_167 rfl rfl ?_
  refine aw_iconst X dX11_ahead_168 ?_
  refine aw_isub X dX11_ahead_169 ?_
  obtain ⟨g35, hf⟩ := z_gd hf
  refine aw_iald X (j := (z_w (v2 - 3)).toNat) (sX7_5 186 (by decide)) (z_w_in _) g35.1 g35.2 rfl dX11_ahead_170 (fun c36 => ?_)
  obtain rfl := Option.some.inj hf
  exact aw_iret X c36 hr rfl dX11_ahead_171
set_option maxHeartbeats 4000000 in
set_option maxRecDepth 100000 in
theorem A_X11_ahead_25 (X : AX p s m args meth c D cA sa bs cX11_ahead 4 RX11) (hr : meth.sig.returnType = (some .int)) (v1 : Int) (c_v1 : Z_I v1) (v2 : Int) (c_v2 : Z_I v2) (t0 : Int) (c_t0 : Z_I t0) (σ : Nat → Nat → Int) (hf : f_X11_ahead_25 v1 v2 t0 σ = some q) : AW p l e (ax_rm 6 0 0) s m args below meth c D cA bs 787 SH (ax_MQ below args s D cA bs 787 SH (some (z_i q.1)) (Z_I q.1) q.2) 4 25 [(0, .ref (bs + 0)), (1, z_i v1), (2, z_i v2)] [z_i t0] σ := by
  unfold f_X11_ahead_25 at hf
  refine aw_istore_n X [(3, z_i t0), (0, .ref (bs + 0)), (1, z_i v1), (2, z_i v2)] dX11_ahead_25 rfl (by decide) rfl ?_
  refine aw_aload_n X 1 dX11_ahead_26 rfl rfl ?_
  obtain ⟨g5, hf⟩ := z_gd hf
  refine aw_getV X s_0 fX11_24 rfl dX11_ahead_27 ?_
  obtain ⟨q6, e7, hf⟩ := z_bd hf
  refine aw_callV X [] [] [z_i q6] cX11_137 (sX1_0 ((σ 0 2).toNat) g5) ciX1 (C_X1_isTold l D cA sa bs ((σ 0 2).toNat) g5 σ q6 e7) rfl ⟨(Nat.le_of_ble_eq_true rfl), (Nat.le_of_ble_eq_true rfl)⟩ rfl (Nat.le_of_ble_eq_true rfl) rfl dX11_ahead_30 (fun p8 => ?_)
  refine aw_if_eq X (tgt := 55) (z_zI p8) dX11_ahead_33 (by decide) (fun h9 => ?_) (fun h9 => ?_)
  · rw [if_pos h9] at hf
    refine aw_iconst X dX11_ahead_55 ?_
    obtain rfl := Option.some.inj hf
    exact aw_iret X (z_lit (x := (-1)) (by decide)) hr rfl dX11_ahead_56
  · rw [if_neg h9] at hf
    refine aw_iload_n X 0 dX11_ahead_36 rfl rfl ?_
    refine aw_if_eq X (tgt := 55) c_t0 dX11_ahead_37 (by decide) (fun h10 => ?_) (fun h10 => ?_)
    · rw [if_pos h10] at hf
      refine aw_iconst X dX11_ahead_55 ?_
      obtain rfl := Option.some.inj hf
      exact aw_iret X (z_lit (x := (-1)) (by decide)) hr rfl dX11_ahead_56
    · rw [if_neg h10] at hf
      refine aw_aload_n X 1 dX11_ahead_40 rfl rfl ?_
      refine aw_getR X s_0 fX11_42 rfl dX11_ahead_41 ?_
      refine aw_getI X (sX7_0 173 (by decide)) fX11_274 rfl dX11_ahead_44 (fun c11 => ?_)
      refine aw_iload_n X 2 dX11_ahead_47 rfl rfl ?_
      refine aw_iadd X dX11_ahead_48 ?_
      refine aw_sipush X dX11_ahead_49 (by decide) ?_
      refine aw_icmp_le X (tgt := 57) (z_w_in _) (z_lit (x := 9999) (by decide)) dX11_ahead_52 (by decide) (fun h12 => ?_) (fun h12 => ?_)
      · rw [if_pos h12] at hf
        refine aw_iload_n X 3 dX11_ahead_57 rfl rfl ?_
        refine aw_iconst X dX11_ahead_58 ?_
        refine aw_icmp_lt X (tgt := 77) c_v2 (z_lit (x := 3) (by decide)) dX11_ahead_59 (by decide) (fun h13 => ?_) (fun h13 => ?_)
        · rw [if_pos h13] at hf
          refine aw_sub [1, 2, 3] rfl ?_
          exact A_X11_ahead_77 X hr v1 c_v1 v2 c_v2 σ hf
        · rw [if_neg h13] at hf
          refine aw_aload_n X 1 dX11_ahead_62 rfl rfl ?_
          obtain ⟨g14, hf⟩ := z_gd hf
          refine aw_getV X s_0 fX11_24 rfl dX11_ahead_63 ?_
          refine aw_iload_n X 3 dX11_ahead_66 rfl rfl ?_
          refine aw_iconst X dX11_ahead_67 ?_
          refine aw_isub X dX11_ahead_68 ?_
          obtain ⟨q15, e16, hf⟩ := z_bd hf
          refine aw_callV X [z_i (z_w (v2 - 3))] [] [z_i q15] cX11_150 (sX1_0 ((σ 0 2).toNat) g14) ciX1 (C_X1_hasCluster l D cA sa bs ((σ 0 2).toNat) g14 (z_w (v2 - 3)) (z_w_in _) σ q15 e16) rfl ⟨(Nat.le_of_ble_eq_true rfl), (Nat.le_of_ble_eq_true rfl)⟩ rfl (Nat.le_of_ble_eq_true rfl) rfl dX11_ahead_69 (fun p17 => ?_)
          refine aw_if_ne X (tgt := 77) (z_zI p17) dX11_ahead_72 (by decide) (fun h18 => ?_) (fun h18 => ?_)
          · rw [if_neg h18] at hf
            refine aw_sub [1, 2, 3] rfl ?_
            exact A_X11_ahead_77 X hr v1 c_v1 v2 c_v2 σ hf
          · rw [if_pos h18] at hf
            refine aw_iconst X dX11_ahead_75 ?_
            obtain rfl := Option.some.inj hf
            exact aw_iret X (z_lit (x := (-1)) (by decide)) hr rfl dX11_ahead_76
      · rw [if_neg h12] at hf
        refine aw_iconst X dX11_ahead_55 ?_
        obtain rfl := Option.some.inj hf
        exact aw_iret X (z_lit (x := (-1)) (by decide)) hr rfl dX11_ahead_56
end S_X11_ahead
set_option maxHeartbeats 4000000 in
set_option maxRecDepth 100000 in
theorem C_X11_ahead (l : Launch) (D : va_G) (cA : Nat → ClassId) (sa : Nat → Nat) (bs : Nat) (v1 : Int) (c_v1 : Z_I v1) (v2 : Int) (c_v2 : Z_I v2) (σ : Nat → Nat → Int) (q : (Int × (Nat → Nat → Int))) (hf : f_X11_ahead v1 v2 σ = some q) : AM l D cA sa bs 787 SH yX11_ahead cX11_ahead 4 (some .int) 6 [.ref (bs + 0), z_i v1, z_i v2] σ (some (z_i q.1)) (Z_I q.1) q.2 := by
  refine am_of (by decide +kernel) (Nat.le_of_ble_eq_true rfl) (fun p e s m args below meth c X hr => ?_)
  refine aw_lv (lv' := [(0, .ref (bs + 0)), (1, z_i v1), (2, z_i v2)]) rfl ?_
  unfold f_X11_ahead at hf
  refine aw_iload_n X 1 dX11_ahead_0 rfl rfl ?_
  refine aw_if_lt X (tgt := 24) c_v1 dX11_ahead_1 (by decide) (fun h1 => ?_) (fun h1 => ?_)
  · simp only [if_pos h1] at hf
    refine aw_iconst X dX11_ahead_24 ?_
    exact A_X11_ahead_25 X hr v1 c_v1 v2 c_v2 0 (z_lit (x := 0) (by decide)) σ hf
  · simp only [if_neg h1] at hf
    refine aw_iload_n X 1 dX11_ahead_4 rfl rfl ?_
    refine aw_sipush X dX11_ahead_5 (by decide) ?_
    refine aw_icmp_gt X (tgt := 24) c_v1 (z_lit (x := 200) (by decide)) dX11_ahead_8 (by decide) (fun h2 => ?_) (fun h2 => ?_)
    · simp only [if_pos h2] at hf
      refine aw_iconst X dX11_ahead_24 ?_
      exact A_X11_ahead_25 X hr v1 c_v1 v2 c_v2 0 (z_lit (x := 0) (by decide)) σ hf
    · simp only [if_neg h2] at hf
      refine aw_iload_n X 2 dX11_ahead_11 rfl rfl ?_
      refine aw_if_lt X (tgt := 24) c_v2 dX11_ahead_12 (by decide) (fun h3 => ?_) (fun h3 => ?_)
      · simp only [if_pos h3] at hf
        refine aw_iconst X dX11_ahead_24 ?_
        exact A_X11_ahead_25 X hr v1 c_v1 v2 c_v2 0 (z_lit (x := 0) (by decide)) σ hf
      · simp only [if_neg h3] at hf
        refine aw_iload_n X 2 dX11_ahead_15 rfl rfl ?_
        refine aw_iconst X dX11_ahead_16 ?_
        refine aw_icmp_gt X (tgt := 24) c_v2 (z_lit (x := 5) (by decide)) dX11_ahead_17 (by decide) (fun h4 => ?_) (fun h4 => ?_)
        · simp only [if_pos h4] at hf
          refine aw_iconst X dX11_ahead_24 ?_
          exact A_X11_ahead_25 X hr v1 c_v1 v2 c_v2 0 (z_lit (x := 0) (by decide)) σ hf
        · simp only [if_neg h4] at hf
          refine aw_iconst X dX11_ahead_20 ?_
          refine aw_goto X (tgt := 25) dX11_ahead_21 (by decide) ?_
          exact A_X11_ahead_25 X hr v1 c_v1 v2 c_v2 1 (z_lit (x := 1) (by decide)) σ hf
-- SpeedDesk.bound(II)I
def f_X11_bound_41 : Nat → Int → Int → Int → (Nat → Nat → Int) → Option (Int × (Nat → Nat → Int))
  | 0, _, _, _, _ => none
  | k + 1, v1, v2, v3, σ => if (σ 0 2).toNat ∈ ax_iX1 then if 0 ≤ v1 ∧ v1 < 3 then if (σ (((σ 0 2).toNat) + 5) v1.toNat) ≤ v3 then (some ((-1), σ)) else ((f_X7_copyFrom 186 173 σ).bind fun q14 => (f_X7_tell 186 0 v1 0 v3 q14).bind fun q17 => if (q17.2 0 2).toNat ∈ ax_iX1 then (f_X2_passMany ((q17.2 0 2).toNat) 186 v2 q17.2).bind fun q21 => if (q21.2 0 2).toNat ∈ ax_iX1 then (f_X7_isNoLater 186 ((q21.2 0 2).toNat) 173 q21.2).bind fun q25 => if q25 = 0 then ((f_X11_bound_41 k) v1 v2 (z_w (v3 + 1)) q21.2) else (some (v3, q21.2)) else none else none) else none else none
def f_X11_bound (v1 : Int) (v2 : Int) (σ : Nat → Nat → Int) : Option (Int × (Nat → Nat → Int)) := if (σ 0 2).toNat ∈ ax_iX1 then (f_X1_hasCluster ((σ 0 2).toNat) v1 σ).bind fun q2 => if q2 = 0 then (some ((-1), σ)) else (if v2 < 1 then (some ((-1), σ)) else (if 100 < v2 then (some ((-1), σ)) else (if (z_w ((σ 173 0) + v2)) ≤ 9999 then (f_X11_bound_41 100000 v1 v2 0 σ) else (some ((-1), σ))))) else none
section S_X11_bound
variable {p : Program} {l : Launch} {e : Env} {s : State} {m : MethodId} {args : Array Value} {below : List Frame} {meth : Method} {c : Code} {D : va_G} {cA : Nat → ClassId} {sa : Nat → Nat} {bs : Nat} {q : (Int × (Nat → Nat → Int))}
set_option maxHeartbeats 4000000 in
set_option maxRecDepth 100000 in
theorem A_X11_bound_41 (X : AX p s m args meth c D cA sa bs cX11_bound 4 RX11) (hr : meth.sig.returnType = (some .int)) : ∀ (k : Nat) (v1 : Int) (c_v1 : Z_I v1) (v2 : Int) (c_v2 : Z_I v2) (v3 : Int) (c_v3 : Z_I v3) (σ : Nat → Nat → Int), f_X11_bound_41 k v1 v2 v3 σ = some q → AW p l e (ax_rm 6 0 0) s m args below meth c D cA bs 787 SH (ax_MQ below args s D cA bs 787 SH (some (z_i q.1)) (Z_I q.1) q.2) 4 41 [(0, .ref (bs + 0)), (1, z_i v1), (2, z_i v2), (3, z_i v3)] [] σ := by
  intro k
  induction k with
  | zero =>
    intro v1 c_v1 v2 c_v2 v3 c_v3 σ hf
    unfold f_X11_bound_41 at hf
    cases hf
  | succ k ih =>
    intro v1 c_v1 v2 c_v2 v3 c_v3 σ hf
    unfold f_X11_bound_41 at hf
    refine aw_iload_n X 3 dX11_bound_41 rfl rfl ?_
    refine aw_aload_n X 0 dX11_bound_42 rfl rfl ?_
    obtain ⟨g10, hf⟩ := z_gd hf
    refine aw_getV X s_0 fX11_24 rfl dX11_bound_43 ?_
    refine aw_getR X (sX1_0 ((σ 0 2).toNat) g10) fX11_347 rfl dX11_bound_46 ?_
    refine aw_iload_n X 1 dX11_bound_49 rfl rfl ?_
    obtain ⟨g11, hf⟩ := z_gd hf
    refine aw_iald X (j := v1.toNat) (sX1_5 ((σ 0 2).toNat) g10) c_v1 g11.1 g11.2 rfl dX11_bound_50 (fun c12 => ?_)
    refine aw_icmp_ge X (tgt := 120) c_v3 c12 dX11_bound_51 (by decide) (fun h13 => ?_) (fun h13 => ?_)
    · rw [if_pos h13] at hf
      refine aw_iconst X dX11_bound_120 ?_
      obtain rfl := Option.some.inj hf
      exact aw_iret X (z_lit (x := (-1)) (by decide)) hr rfl dX11_bound_121
    · rw [if_neg h13] at hf
      refine aw_aload_n X 0 dX11_bound_54 rfl rfl ?_
      refine aw_getR X s_0 fX11_46 rfl dX11_bound_55 ?_
      refine aw_aload_n X 0 dX11_bound_58 rfl rfl ?_
      refine aw_getR X s_0 fX11_42 rfl dX11_bound_59 ?_
      obtain ⟨q14, e15, hf⟩ := z_bd hf
      refine aw_callV X [.ref (bs + 173)] [] [] cX11_328 (sX7_0 186 (by decide)) ciX7 (C_X7_copyFrom l D cA sa bs 186 (by decide) 173 (by decide) σ q14 e15) rfl ⟨(Nat.le_of_ble_eq_true rfl), (Nat.le_of_ble_eq_true rfl)⟩ rfl (Nat.le_of_ble_eq_true rfl) rfl dX11_bound_62 (fun p16 => ?_)
      refine aw_aload_n X 0 dX11_bound_65 rfl rfl ?_
      refine aw_getR X s_0 fX11_46 rfl dX11_bound_66 ?_
      refine aw_lconst X (x := 0) dX11_bound_69 (by decide) ?_
      refine aw_iload_n X 1 dX11_bound_70 rfl rfl ?_
      refine aw_iconst X dX11_bound_71 ?_
      refine aw_iload_n X 3 dX11_bound_72 rfl rfl ?_
      obtain ⟨q17, e18, hf⟩ := z_bd hf
      refine aw_callV X [z_v 0, z_i v1, z_i 0, z_i v3] [] [z_i q17.1] cX11_350 (sX7_0 186 (by decide)) ciX7 (C_X7_tell l D cA sa bs 186 (by decide) 0 (z_litL (x := 0) (by decide)) v1 c_v1 0 (z_lit (x := 0) (by decide)) v3 c_v3 q14 q17 e18) rfl ⟨(Nat.le_of_ble_eq_true rfl), (Nat.le_of_ble_eq_true rfl)⟩ rfl (Nat.le_of_ble_eq_true rfl) rfl dX11_bound_73 (fun p19 => ?_)
      refine aw_pop X dX11_bound_76 rfl ?_
      refine aw_aload_n X 0 dX11_bound_77 rfl rfl ?_
      refine aw_getR X s_0 fX11_80 rfl dX11_bound_78 ?_
      refine aw_aload_n X 0 dX11_bound_81 rfl rfl ?_
      obtain ⟨g20, hf⟩ := z_gd hf
      refine aw_getV X s_0 fX11_24 rfl dX11_bound_82 ?_
      refine aw_aload_n X 0 dX11_bound_85 rfl rfl ?_
      refine aw_getR X s_0 fX11_46 rfl dX11_bound_86 ?_
      refine aw_iload_n X 2 dX11_bound_89 rfl rfl ?_
      obtain ⟨q21, e22, hf⟩ := z_bd hf
      refine aw_callV X [.ref (bs + ((q17.2 0 2).toNat)), .ref (bs + 186), z_i v2] [] [z_i q21.1] cX11_332 s_743 ciX2 (C_X2_passMany l D cA sa bs ((q17.2 0 2).toNat) g20 186 (by decide) v2 c_v2 q17.2 q21 e22) rfl ⟨(Nat.le_of_ble_eq_true rfl), (Nat.le_of_ble_eq_true rfl)⟩ rfl (Nat.le_of_ble_eq_true rfl) rfl dX11_bound_90 (fun p23 => ?_)
      refine aw_pop X dX11_bound_93 rfl ?_
      refine aw_aload_n X 0 dX11_bound_94 rfl rfl ?_
      refine aw_getR X s_0 fX11_46 rfl dX11_bound_95 ?_
      refine aw_aload_n X 0 dX11_bound_98 rfl rfl ?_
      obtain ⟨g24, hf⟩ := z_gd hf
      refine aw_getV X s_0 fX11_24 rfl dX11_bound_99 ?_
      refine aw_aload_n X 0 dX11_bound_102 rfl rfl ?_
      refine aw_getR X s_0 fX11_42 rfl dX11_bound_103 ?_
      obtain ⟨q25, e26, hf⟩ := z_bd hf
      refine aw_callV X [.ref (bs + ((q21.2 0 2).toNat)), .ref (bs + 173)] [] [z_i q25] cX11_354 (sX7_0 186 (by decide)) ciX7 (C_X7_isNoLater l D cA sa bs 186 (by decide) ((q21.2 0 2).toNat) g24 173 (by decide) q21.2 q25 e26) rfl ⟨(Nat.le_of_ble_eq_true rfl), (Nat.le_of_ble_eq_true rfl)⟩ rfl (Nat.le_of_ble_eq_true rfl) rfl dX11_bound_106 (fun p27 => ?_)
      refine aw_if_eq X (tgt := 114) (z_zI p27) dX11_bound_109 (by decide) (fun h28 => ?_) (fun h28 => ?_)
      · rw [if_pos h28] at hf
        refine aw_iinc X 3 [(3, z_i (z_w (v3 + 1))), (0, .ref (bs + 0)), (1, z_i v1), (2, z_i v2)] dX11_bound_114 rfl (by decide) rfl ?_
        refine aw_goto X (tgt := 41) dX11_bound_117 (by decide) ?_
        refine aw_sub [1, 2, 3, 0] rfl ?_
        exact ih v1 c_v1 v2 c_v2 (z_w (v3 + 1)) (z_w_in _) q21.2 hf
      · rw [if_neg h28] at hf
        refine aw_iload_n X 3 dX11_bound_112 rfl rfl ?_
        obtain rfl := Option.some.inj hf
        exact aw_iret X c_v3 hr rfl dX11_bound_113
end S_X11_bound
set_option maxHeartbeats 4000000 in
set_option maxRecDepth 100000 in
theorem C_X11_bound (l : Launch) (D : va_G) (cA : Nat → ClassId) (sa : Nat → Nat) (bs : Nat) (v1 : Int) (c_v1 : Z_I v1) (v2 : Int) (c_v2 : Z_I v2) (σ : Nat → Nat → Int) (q : (Int × (Nat → Nat → Int))) (hf : f_X11_bound v1 v2 σ = some q) : AM l D cA sa bs 787 SH yX11_bound cX11_bound 4 (some .int) 6 [.ref (bs + 0), z_i v1, z_i v2] σ (some (z_i q.1)) (Z_I q.1) q.2 := by
  refine am_of (by decide +kernel) (Nat.le_of_ble_eq_true rfl) (fun p e s m args below meth c X hr => ?_)
  refine aw_lv (lv' := [(0, .ref (bs + 0)), (1, z_i v1), (2, z_i v2)]) rfl ?_
  unfold f_X11_bound at hf
  refine aw_aload_n X 0 dX11_bound_0 rfl rfl ?_
  obtain ⟨g1, hf⟩ := z_gd hf
  refine aw_getV X s_0 fX11_24 rfl dX11_bound_1 ?_
  refine aw_iload_n X 1 dX11_bound_4 rfl rfl ?_
  obtain ⟨q2, e3, hf⟩ := z_bd hf
  refine aw_callV X [z_i v1] [] [z_i q2] cX11_150 (sX1_0 ((σ 0 2).toNat) g1) ciX1 (C_X1_hasCluster l D cA sa bs ((σ 0 2).toNat) g1 v1 c_v1 σ q2 e3) rfl ⟨(Nat.le_of_ble_eq_true rfl), (Nat.le_of_ble_eq_true rfl)⟩ rfl (Nat.le_of_ble_eq_true rfl) rfl dX11_bound_5 (fun p4 => ?_)
  refine aw_if_eq X (tgt := 37) (z_zI p4) dX11_bound_8 (by decide) (fun h5 => ?_) (fun h5 => ?_)
  · rw [if_pos h5] at hf
    refine aw_iconst X dX11_bound_37 ?_
    obtain rfl := Option.some.inj hf
    exact aw_iret X (z_lit (x := (-1)) (by decide)) hr rfl dX11_bound_38
  · rw [if_neg h5] at hf
    refine aw_iload_n X 2 dX11_bound_11 rfl rfl ?_
    refine aw_iconst X dX11_bound_12 ?_
    refine aw_icmp_lt X (tgt := 37) c_v2 (z_lit (x := 1) (by decide)) dX11_bound_13 (by decide) (fun h6 => ?_) (fun h6 => ?_)
    · rw [if_pos h6] at hf
      refine aw_iconst X dX11_bound_37 ?_
      obtain rfl := Option.some.inj hf
      exact aw_iret X (z_lit (x := (-1)) (by decide)) hr rfl dX11_bound_38
    · rw [if_neg h6] at hf
      refine aw_iload_n X 2 dX11_bound_16 rfl rfl ?_
      refine aw_bipush X dX11_bound_17 (by decide) ?_
      refine aw_icmp_gt X (tgt := 37) c_v2 (z_lit (x := 100) (by decide)) dX11_bound_19 (by decide) (fun h7 => ?_) (fun h7 => ?_)
      · rw [if_pos h7] at hf
        refine aw_iconst X dX11_bound_37 ?_
        obtain rfl := Option.some.inj hf
        exact aw_iret X (z_lit (x := (-1)) (by decide)) hr rfl dX11_bound_38
      · rw [if_neg h7] at hf
        refine aw_aload_n X 0 dX11_bound_22 rfl rfl ?_
        refine aw_getR X s_0 fX11_42 rfl dX11_bound_23 ?_
        refine aw_getI X (sX7_0 173 (by decide)) fX11_274 rfl dX11_bound_26 (fun c8 => ?_)
        refine aw_iload_n X 2 dX11_bound_29 rfl rfl ?_
        refine aw_iadd X dX11_bound_30 ?_
        refine aw_sipush X dX11_bound_31 (by decide) ?_
        refine aw_icmp_le X (tgt := 39) (z_w_in _) (z_lit (x := 9999) (by decide)) dX11_bound_34 (by decide) (fun h9 => ?_) (fun h9 => ?_)
        · rw [if_pos h9] at hf
          refine aw_iconst X dX11_bound_39 ?_
          refine aw_istore_n X [(3, z_i 0), (0, .ref (bs + 0)), (1, z_i v1), (2, z_i v2)] dX11_bound_40 rfl (by decide) rfl ?_
          refine aw_sub [1, 2, 3, 0] rfl ?_
          exact A_X11_bound_41 X hr 100000 v1 c_v1 v2 c_v2 0 (z_lit (x := 0) (by decide)) σ hf
        · rw [if_neg h9] at hf
          refine aw_iconst X dX11_bound_37 ?_
          obtain rfl := Option.some.inj hf
          exact aw_iret X (z_lit (x := (-1)) (by decide)) hr rfl dX11_bound_38
-- SpeedDesk.odds(I)I
def f_X11_odds (v1 : Int) (σ : Nat → Nat → Int) : Option (Int × (Nat → Nat → Int)) := if (σ 0 2).toNat ∈ ax_iX1 then (f_X1_isTold ((σ 0 2).toNat) σ).bind fun q2 => if q2 = 0 then (some ((-1), σ)) else (if v1 < 0 then (some ((-1), σ)) else (if 100 < v1 then (some ((-1), σ)) else (if (σ 0 2).toNat ∈ ax_iX1 then (f_X5_oddsBy ((σ 0 2).toNat) 173 v1 σ).bind fun q9 => some (q9.1, q9.2) else none))) else none
section S_X11_odds
variable {p : Program} {l : Launch} {e : Env} {s : State} {m : MethodId} {args : Array Value} {below : List Frame} {meth : Method} {c : Code} {D : va_G} {cA : Nat → ClassId} {sa : Nat → Nat} {bs : Nat} {q : (Int × (Nat → Nat → Int))}

end S_X11_odds
set_option maxHeartbeats 4000000 in
set_option maxRecDepth 100000 in
theorem C_X11_odds (l : Launch) (D : va_G) (cA : Nat → ClassId) (sa : Nat → Nat) (bs : Nat) (v1 : Int) (c_v1 : Z_I v1) (σ : Nat → Nat → Int) (q : (Int × (Nat → Nat → Int))) (hf : f_X11_odds v1 σ = some q) : AM l D cA sa bs 787 SH yX11_odds cX11_odds 2 (some .int) 6 [.ref (bs + 0), z_i v1] σ (some (z_i q.1)) (Z_I q.1) q.2 := by
  refine am_of (by decide +kernel) (Nat.le_of_ble_eq_true rfl) (fun p e s m args below meth c X hr => ?_)
  refine aw_lv (lv' := [(0, .ref (bs + 0)), (1, z_i v1)]) rfl ?_
  unfold f_X11_odds at hf
  refine aw_aload_n X 0 dX11_odds_0 rfl rfl ?_
  obtain ⟨g1, hf⟩ := z_gd hf
  refine aw_getV X s_0 fX11_24 rfl dX11_odds_1 ?_
  obtain ⟨q2, e3, hf⟩ := z_bd hf
  refine aw_callV X [] [] [z_i q2] cX11_137 (sX1_0 ((σ 0 2).toNat) g1) ciX1 (C_X1_isTold l D cA sa bs ((σ 0 2).toNat) g1 σ q2 e3) rfl ⟨(Nat.le_of_ble_eq_true rfl), (Nat.le_of_ble_eq_true rfl)⟩ rfl (Nat.le_of_ble_eq_true rfl) rfl dX11_odds_4 (fun p4 => ?_)
  refine aw_if_eq X (tgt := 39) (z_zI p4) dX11_odds_7 (by decide) (fun h5 => ?_) (fun h5 => ?_)
  · rw [if_pos h5] at hf
    refine aw_iconst X dX11_odds_39 ?_
    obtain rfl := Option.some.inj hf
    exact aw_iret X (z_lit (x := (-1)) (by decide)) hr rfl dX11_odds_40
  · rw [if_neg h5] at hf
    refine aw_iload_n X 1 dX11_odds_10 rfl rfl ?_
    refine aw_if_lt X (tgt := 39) c_v1 dX11_odds_11 (by decide) (fun h6 => ?_) (fun h6 => ?_)
    · rw [if_pos h6] at hf
      refine aw_iconst X dX11_odds_39 ?_
      obtain rfl := Option.some.inj hf
      exact aw_iret X (z_lit (x := (-1)) (by decide)) hr rfl dX11_odds_40
    · rw [if_neg h6] at hf
      refine aw_iload_n X 1 dX11_odds_14 rfl rfl ?_
      refine aw_bipush X dX11_odds_15 (by decide) ?_
      refine aw_icmp_gt X (tgt := 39) c_v1 (z_lit (x := 100) (by decide)) dX11_odds_17 (by decide) (fun h7 => ?_) (fun h7 => ?_)
      · rw [if_pos h7] at hf
        refine aw_iconst X dX11_odds_39 ?_
        obtain rfl := Option.some.inj hf
        exact aw_iret X (z_lit (x := (-1)) (by decide)) hr rfl dX11_odds_40
      · rw [if_neg h7] at hf
        refine aw_aload_n X 0 dX11_odds_20 rfl rfl ?_
        refine aw_getR X s_0 fX11_85 rfl dX11_odds_21 ?_
        refine aw_aload_n X 0 dX11_odds_24 rfl rfl ?_
        obtain ⟨g8, hf⟩ := z_gd hf
        refine aw_getV X s_0 fX11_24 rfl dX11_odds_25 ?_
        refine aw_aload_n X 0 dX11_odds_28 rfl rfl ?_
        refine aw_getR X s_0 fX11_42 rfl dX11_odds_29 ?_
        refine aw_iload_n X 1 dX11_odds_32 rfl rfl ?_
        obtain ⟨q9, e10, hf⟩ := z_bd hf
        refine aw_callV X [.ref (bs + ((σ 0 2).toNat)), .ref (bs + 173), z_i v1] [] [z_i q9.1] cX11_357 s_745 ciX5 (C_X5_oddsBy l D cA sa bs ((σ 0 2).toNat) g8 173 (by decide) v1 c_v1 σ q9 e10) rfl ⟨(Nat.le_of_ble_eq_true rfl), (Nat.le_of_ble_eq_true rfl)⟩ rfl (Nat.le_of_ble_eq_true rfl) rfl dX11_odds_33 (fun p11 => ?_)
        refine aw_goto X (tgt := 40) dX11_odds_36 (by decide) ?_
        obtain rfl := Option.some.inj hf
        exact aw_iret X p11 hr rfl dX11_odds_40
