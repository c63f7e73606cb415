-- the law's case of the cluster
section S_L5
variable {p : Program} {l : Launch} {e : Env} {R : Room} {s : State} {m : MethodId} {args : Array Value} {below : List Frame} {meth : Method} {c : Code} {D : va_G} {cA : Nat → ClassId} {sa ad : Nat → Nat} {bs kc ks : Nat} {Q : State → Prop} {nL pc n : Nat} {own : String} {cc : ByteArray} {sh : Nat → ax_S} {lv : List (Nat × Value)} {st : List Value} {σ σ2 : Nat → Nat → Int} {b L i : Nat} {xs : Nat → Int32} {q bb : Int} {o : Option Int}
theorem aw_argW (X : AX p s m args meth c D cA sa bs cc nL own) (hX : va_X b L xs s s.heap) (hbl : b < s.heap.size) (hbA : ¬ ax_A bs b) {i j : Nat} (q0 q4 : Nat) (e0 : lv[q0]? = some (0, .ref b)) (e4 : lv[q4]? = some (4, .int (Int32.ofInt (i : Int)))) (hj : i + j < L) (hL : L ≤ 3072) (d0 : decode cc pc = .ok (.aload_n 0, 1)) (d1 : decode cc (pc + 1) = .ok (.iload 4, 2)) (d2 : decode cc (pc + 3) = .ok (.iconst (j : Int), 1)) (d3 : decode cc (pc + 4) = .ok (.iadd, 1)) (d4 : decode cc (pc + 5) = .ok (.iaload, 1)) (k : AW p l e R s m args below meth c D cA ad bs n sh kc ks Q nL (pc + 6) lv (z_i (xs (i + j)).toInt :: st) σ) : AW p l e R s m args below meth c D cA ad bs n sh kc ks Q nL pc lv st σ := by
  refine aw_aload_n X q0 d0 rfl e0 ?_
  refine aw_iload X (x := Int32.ofInt (i : Int)) q4 d1 e4 ?_
  refine aw_iconst X d2 ?_
  refine aw_iadd X (x := (i : Int)) d3 ?_
  rw [zid (x := (i : Int) + (j : Int)) (by omega) (by omega)]
  refine aw_xld X hX hbl hbA (by unfold Z_I; omega) (by omega) (by omega) d4 ?_
  rw [show ((i : Int) + (j : Int)).toNat = i + j from by omega, (lw_num _).1]
  exact k
theorem LW_cl (X : AX p s m args meth c D cA sa bs cL_law 7 RLw) (hZ : ax_Z bs s) (hX : va_X b L xs s s.heap) (hbl : b < s.heap.size) (hbA : ¬ ax_A bs b) (hi : i + 5 < L) (hL : L ≤ 3072) (hk : kc + 1 ≤ room_1.cells ∧ ks + 6 ≤ room_1.slots) (hM : XM l D cA sa ad bs (xs (i + 1)).toInt (xs (i + 2)).toInt σ o) (h2 : f_X12_cluster (xs (i + 1)).toInt (xs (i + 2)).toInt (xHm σ o) = some (q, σ2)) (h3 : σ2 758 0 = xHk o) (h4 : xHk o = 0 → σ2 787 0 = q) (k : AW p l e room_1 s m args below meth c D cA ad bs 788 SHp (kc + 1) (ks + 6) Q 7 1444 (lw_lv b ad i) [] σ2) : AW p l e room_1 s m args below meth c D cA ad bs 788 SHp kc ks Q 7 377 (lw_lv b ad i) [] σ := by
  have ct : f_X12_thrown σ2 = some (xHk o) := by unfold f_X12_thrown; rw [h3]
  refine aw_aload_n X 1 dL_law_377 rfl rfl ?_
  refine aw_arg X hX hbl hbA (j := 1) (by omega) hL dL_law_378 dL_law_379 dL_law_381 dL_law_382 dL_law_383 ?_
  refine aw_arg X hX hbl hbA (j := 2) (by omega) hL dL_law_384 dL_law_385 dL_law_387 dL_law_388 dL_law_389 ?_
  refine aw_aload_n X 3 dL_law_390 rfl rfl ?_
  refine aw_callH X [] hZ (C_L_cluster l D cA sa ad bs _ _ σ o hM) ⟨(Nat.le_of_ble_eq_true rfl), (Nat.le_of_ble_eq_true rfl), hk.1, hk.2⟩ (Nat.le_of_ble_eq_true rfl) dL_law_391 (fun pf => ?_)
  refine aw_istore X [(5, z_i (xHk o)), (0, .ref b), (1, .ref (ad 0)), (2, .ref (ad 758)), (3, .ref (ad 787)), (4, z_i (i : Int))] dL_law_394 (by decide) rfl ?_
  refine aw_aload_n X 3 dL_law_396 rfl rfl ?_
  refine aw_argW X hX hbl hbA (i := i) (j := 1) 1 5 rfl rfl (by omega) hL dL_law_397 dL_law_398 dL_law_400 dL_law_401 dL_law_402 ?_
  refine aw_argW X hX hbl hbA (i := i) (j := 2) 1 5 rfl rfl (by omega) hL dL_law_403 dL_law_404 dL_law_406 dL_law_407 dL_law_408 ?_
  refine aw_callV X [z_i (xs (i + 1)).toInt, z_i (xs (i + 2)).toInt] [] [z_i q] cL_47 s_758 ⟨_, _, rfl⟩ (C_X12_cluster l D cA sa ad bs ((xs (i + 1)).toInt) (lw_num _).2 ((xs (i + 2)).toInt) (lw_num _).2 (xHm σ o) (q, σ2) h2) rfl ⟨(Nat.le_of_ble_eq_true rfl), (Nat.le_of_ble_eq_true rfl), hk.1, hk.2⟩ rfl (Nat.le_of_ble_eq_true rfl) rfl dL_law_409 (fun p1 => ?_)
  refine aw_istore X [(6, z_i q), (5, z_i (xHk o)), (0, .ref b), (1, .ref (ad 0)), (2, .ref (ad 758)), (3, .ref (ad 787)), (4, z_i (i : Int))] dL_law_412 (by decide) rfl ?_
  refine aw_aload_n X 4 dL_law_414 rfl rfl ?_
  refine aw_callV X [] [] [z_i (xHk o)] cL_48 s_758 ⟨_, _, rfl⟩ (C_X12_thrown l D cA sa ad bs σ2 (xHk o) ct) rfl ⟨(Nat.le_of_ble_eq_true rfl), (Nat.le_of_ble_eq_true rfl), hk.1, hk.2⟩ rfl (Nat.le_of_ble_eq_true rfl) rfl dL_law_415 (fun p2 => ?_)
  refine aw_iload X (x := Int32.ofInt (xHk o)) 1 dL_law_418 rfl ?_
  refine aw_icmp_eq X (x := xHk o) (y := xHk o) (tgt := 425) p2 p2 dL_law_420 (by decide) (fun _ => ?_) (fun h => absurd rfl h)
  refine aw_iload X (x := Int32.ofInt (xHk o)) 1 dL_law_425 rfl ?_
  have END : AW p l e room_1 s m args below meth c D cA ad bs 788 SHp (kc + 1) (ks + 6) Q 7 442 [(6, z_i q), (5, z_i (xHk o)), (0, .ref b), (1, .ref (ad 0)), (2, .ref (ad 758)), (3, .ref (ad 787)), (4, z_i (i : Int))] [] σ2 := by
    refine aw_goto X (tgt := 1444) dL_law_442 (by decide) ?_
    exact aw_sub [2, 3, 4, 5, 6] (lv' := lw_lv b ad i) rfl k
  refine aw_if_ne X (x := xHk o) (tgt := 442) p2 dL_law_427 (by decide) (fun _ => END) (fun h => ?_)
  refine aw_aload_n X 5 dL_law_430 rfl rfl ?_
  refine aw_iconst X dL_law_431 ?_
  refine aw_lald X s_787 (z_lit (x := 0) (by decide)) (by decide) (by decide) (j := 0) rfl dL_law_432 (fun cl => ?_)
  refine aw_iload X (x := Int32.ofInt q) 0 dL_law_433 rfl ?_
  refine aw_i2l X (x := q) p1 dL_law_435 ?_
  refine aw_lcmp X cl (z_IL p1) dL_law_436 ?_
  refine aw_if_eq X (tgt := 442) (z_cmp_in _ _) dL_law_437 (by decide) (fun _ => END) (fun h9 => absurd (z_cmp_0.mpr (h4 h)) h9)
/-- the cluster's case, whether the class answers or throws -/
theorem LW_cluster (X : AX p s m args meth c D cA sa bs cL_law 7 RLw) (hfl : l.stackTraces = false) (hZ : ax_Z bs s) (hX : va_X b L xs s s.heap) (hbl : b < s.heap.size) (hbA : ¬ ax_A bs b) (hi : i + 5 < L) (hL : L ≤ 3072) (hk : kc + 1 ≤ room_1.cells ∧ ks + 6 ≤ room_1.slots) (hG : GV σ bb) (k : ∀ σ2, GV σ2 bb → AW p l e room_1 s m args below meth c D cA ad bs 788 SHp (kc + 1) (ks + 6) Q 7 1444 (lw_lv b ad i) [] σ2) : AW p l e room_1 s m args below meth c D cA ad bs 788 SHp kc ks Q 7 377 (lw_lv b ad i) [] σ := by
  rcases G_cluster2 (v1 := (xs (i + 1)).toInt) (v2 := (xs (i + 2)).toInt) hG (τ := σ) FM.refl with ⟨g1, g2⟩ | ⟨r, g1, -⟩
  · have m1 : GV (u2 (u2 σ 758 0 0) 758 0 1) bb := hG.keep ((FM.refl.u (by unfold SCR; omega)).u (by unfold SCR; omega))
    exact LW_cl X hZ hX hbl hbA hi hL hk (C_X11_cluster l hfl D cA sa ad bs _ (lw_num _).2 _ (lw_num _).2 σ none g1) g2 u2_e (fun h => absurd h (by decide)) (k _ m1)
  · rcases G_cluster2 (v1 := (xs (i + 1)).toInt) (v2 := (xs (i + 2)).toInt) hG (τ := u2 σ 787 0 r) (FM.refl.u rfl) with ⟨g3, -⟩ | ⟨r', g3, g4⟩
    · rw [g1] at g3
      cases g3
    · rw [g1] at g3
      have e := Option.some.inj (Option.some.inj g3)
      subst e
      have m2 : GV (u2 (u2 σ 787 0 r) 758 0 0) bb := hG.keep ((FM.refl.u (by unfold SCR; omega)).u (by unfold SCR; omega))
      exact LW_cl X hZ hX hbl hbA hi hL hk (C_X11_cluster l hfl D cA sa ad bs _ (lw_num _).2 _ (lw_num _).2 σ (some r) g1) g4 u2_e (fun _ => by rw [u2_c (by omega), u2_e]) (k _ m2)
end S_L5
