-- the law: one turn's head, its switch, its end; years
def lw_pc (n : Nat) : Nat := [204, 277, 302, 327, 352, 377, 445, 494, 531, 568, 617, 654, 679, 716, 765, 790, 815, 840, 853, 922, 947, 960, 997, 1010, 1047, 1084, 1097, 1158, 1195, 1232, 1257, 1306, 1343, 1368, 1393, 1406, 1419].getD n 0
theorem lw_off : ∀ n, n < 37 → (#[164, 237, 262, 287, 312, 337, 405, 454, 491, 528, 577, 614, 639, 676, 725, 750, 775, 800, 813, 882, 907, 920, 957, 970, 1007, 1044, 1057, 1118, 1155, 1192, 1217, 1266, 1303, 1328, 1353, 1366, 1379] : Array Int)[n]? = some ((lw_pc n : Int) - 40) := by decide
theorem kL_101 : Cond.constantLong RLw 101 (4294967295) ∈ ax_T := (ax_at 2166 (by decide +kernel) rfl)
section S_LT
variable {p : Program} {l : Launch} {e : Env} {s : State} {m : MethodId} {args : Array Value} {below : List Frame} {meth : Method} {c : Code} {D : va_G} {cA : Nat → ClassId} {sa ad : Nat → Nat} {bs kc ks : Nat} {Q : State → Prop} {σ σ1 σ2 : Nat → Nat → Int} {b L i : Nat} {xs : Nat → Int32} {r : Int} {PF1 PF2 : Prop}
/-- the turn's head: out behind the script's end, or into a case, or to the turn's end -/
theorem LW_head (X : AX p s m args meth c D cA sa bs cL_law 7 RLw) (hX : va_X b L xs s s.heap) (hbl : b < s.heap.size) (hbA : ¬ ax_A bs b) (hL : L ≤ 3072) (hi : i ≤ 4000) (hand : ∀ x : Int, Z_I x → 0 ≤ z_and x 63 ∧ z_and x 63 ≤ 63) (ko : AW p l e room_1 s m args below meth c D cA ad bs 788 SHp kc ks Q 7 1450 (lw_lv b ad i) [] σ) (kk : i + 5 < L → ∀ n, n < 37 → AW p l e room_1 s m args below meth c D cA ad bs 788 SHp kc ks Q 7 (lw_pc n) (lw_lv b ad i) [] σ) (kd : i + 5 < L → AW p l e room_1 s m args below meth c D cA ad bs 788 SHp kc ks Q 7 1444 (lw_lv b ad i) [] σ) : AW p l e room_1 s m args below meth c D cA ad bs 788 SHp kc ks Q 7 23 (lw_lv b ad i) [] σ := by
  refine aw_iload X (x := Int32.ofInt (i : Int)) 4 dL_law_23 rfl ?_
  refine aw_aload_n X 0 dL_law_25 rfl rfl ?_
  refine aw_xlen X hX hbl hbA dL_law_26 ?_
  refine aw_bipush X dL_law_27 (by decide) ?_
  refine aw_isub X dL_law_29 ?_
  rw [zid (x := (L : Int) - 6) (by omega) (by omega)]
  refine aw_icmp_gt X (x := (i : Int)) (tgt := 1450) (by unfold Z_I; omega) (by unfold Z_I; omega) dL_law_30 (by decide) (fun _ => ko) (fun h => ?_)
  have hi5 : i + 5 < L := by omega
  refine aw_aload_n X 0 dL_law_33 rfl rfl ?_
  refine aw_iload X (x := Int32.ofInt (i : Int)) 4 dL_law_34 rfl ?_
  refine aw_xld X (i := (i : Int)) hX hbl hbA (by unfold Z_I; omega) (by omega) (by omega) dL_law_36 ?_
  rw [show ((i : Int)).toNat = i from by omega, (lw_num _).1]
  refine aw_bipush X dL_law_37 (by decide) ?_
  refine aw_iand X dL_law_39 ?_
  have hz := hand (xs i).toInt (lw_num _).2
  generalize z_and (xs i).toInt 63 = x at *
  by_cases d : x ≤ 36
  · have ho := lw_off x.toNat (by omega)
    exact aw_tabIn X (x := x) (tgt := lw_pc x.toNat) (off := (lw_pc x.toNat : Int) - 40) (by unfold Z_I; omega) dL_law_40 (by omega) (by omega) (by rw [show (x - 0).toNat = x.toNat from by omega]; exact ho) (by omega) (kk hi5 x.toNat (by omega))
  · exact aw_tabOut X (x := x) (tgt := 1444) (by unfold Z_I; omega) dL_law_40 (by omega) (by decide) (kd hi5)
/-- the turn's end -/
theorem LW_next (X : AX p s m args meth c D cA sa bs cL_law 7 RLw) (hi : i ≤ 4000) (k : AW p l e room_1 s m args below meth c D cA ad bs 788 SHp kc ks Q 7 23 (lw_lv b ad (i + 6)) [] σ) : AW p l e room_1 s m args below meth c D cA ad bs 788 SHp kc ks Q 7 1444 (lw_lv b ad i) [] σ := by
  refine aw_iinc X (x := (i : Int)) 4 [(4, z_i (z_w ((i : Int) + 6))), (0, .ref b), (1, .ref (ad 0)), (2, .ref (ad 758)), (3, .ref (ad 787))] dL_law_1444 rfl (by decide) rfl ?_
  rw [zid (x := (i : Int) + 6) (by omega) (by omega)]
  refine aw_sub [1, 2, 3, 4, 0] (lv' := lw_lv b ad (i + 6)) rfl ?_
  exact aw_goto X (tgt := 23) dL_law_1447 (by decide) k
def lw_seed (i : Nat) (xs : Nat → Int32) : Int := z_orL (z_shlL (xs (i + 2)).toInt 32) (z_andL (xs (i + 3)).toInt 4294967295)
theorem LW_years (X : AX p s m args meth c D cA sa bs cL_law 7 RLw) (hX : va_X b L xs s s.heap) (hbl : b < s.heap.size) (hbA : ¬ ax_A bs b) (hi : i + 5 < L) (hL : L ≤ 3072) (hk : kc ≤ room_1.cells ∧ ks ≤ room_1.slots) (hzf : PF1 → Z_I r) (h1 : AM l D cA sa ad bs 788 SHp yX11_years cX11_years 5 (some .int) 7 (.ref (ad 0) :: [z_i (xs (i + 1)).toInt, z_v (lw_seed i xs)]) σ (some (z_i r)) PF1 σ1) (h2 : AM l D cA sa ad bs 788 SHp yX12_years cX12_years 5 (some .int) 10 (.ref (ad 758) :: [z_i (xs (i + 1)).toInt, z_v (lw_seed i xs)]) σ1 (some (z_i r)) PF2 σ2) (k : AW p l e room_1 s m args below meth c D cA ad bs 788 SHp kc ks Q 7 1444 (lw_lv b ad i) [] σ2) : AW p l e room_1 s m args below meth c D cA ad bs 788 SHp kc ks Q 7 853 (lw_lv b ad i) [] σ := by
  refine aw_aload_n X 1 dL_law_853 rfl rfl ?_
  refine aw_arg X hX hbl hbA (j := 1) (by omega) hL dL_law_854 dL_law_855 dL_law_857 dL_law_858 dL_law_859 ?_
  refine aw_arg X hX hbl hbA (j := 2) (by omega) hL dL_law_860 dL_law_861 dL_law_863 dL_law_864 dL_law_865 ?_
  refine aw_i2l X (lw_num _).2 dL_law_866 ?_
  refine aw_bipush X dL_law_867 (by decide) ?_
  refine aw_lshl X dL_law_869 ?_
  refine aw_arg X hX hbl hbA (j := 3) (by omega) hL dL_law_870 dL_law_871 dL_law_873 dL_law_874 dL_law_875 ?_
  refine aw_i2l X (lw_num _).2 dL_law_876 ?_
  refine aw_ldc2 X (x := 4294967295) dL_law_877 kL_101 (by decide) ?_
  refine aw_land X dL_law_880 ?_
  refine aw_lor X dL_law_881 ?_
  refine aw_callV X [z_i (xs (i + 1)).toInt, z_v (lw_seed i xs)] [] [z_i r] cL_103 s_0 ⟨_, _, rfl⟩ h1 rfl ⟨(Nat.le_of_ble_eq_true rfl), (Nat.le_of_ble_eq_true rfl), hk.1, hk.2⟩ rfl (Nat.le_of_ble_eq_true rfl) rfl dL_law_882 (fun pf1 => ?_)
  refine aw_aload_n X 2 dL_law_885 rfl rfl ?_
  refine aw_arg X hX hbl hbA (j := 1) (by omega) hL dL_law_886 dL_law_887 dL_law_889 dL_law_890 dL_law_891 ?_
  refine aw_arg X hX hbl hbA (j := 2) (by omega) hL dL_law_892 dL_law_893 dL_law_895 dL_law_896 dL_law_897 ?_
  refine aw_i2l X (lw_num _).2 dL_law_898 ?_
  refine aw_bipush X dL_law_899 (by decide) ?_
  refine aw_lshl X dL_law_901 ?_
  refine aw_arg X hX hbl hbA (j := 3) (by omega) hL dL_law_902 dL_law_903 dL_law_905 dL_law_906 dL_law_907 ?_
  refine aw_i2l X (lw_num _).2 dL_law_908 ?_
  refine aw_ldc2 X (x := 4294967295) dL_law_909 kL_101 (by decide) ?_
  refine aw_land X dL_law_912 ?_
  refine aw_lor X dL_law_913 ?_
  refine aw_callV X [z_i (xs (i + 1)).toInt, z_v (lw_seed i xs)] [z_i r] [z_i r, z_i r] cL_107 s_758 ⟨_, _, rfl⟩ h2 rfl ⟨(Nat.le_of_ble_eq_true rfl), (Nat.le_of_ble_eq_true rfl), hk.1, hk.2⟩ rfl (Nat.le_of_ble_eq_true rfl) rfl dL_law_914 (fun _ => ?_)
  exact aw_icmp_eq X (hzf pf1) (hzf pf1) (tgt := 1444) dL_law_917 (by decide) (fun _ => k) (fun h => absurd rfl h)
end S_LT
