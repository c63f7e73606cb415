-- the contracts of the texts' own methods, of the packed words and of their numbers
theorem q_c38 : Cond.fieldLink RJ0 38 "java/lang/String" "COMPACT_STRINGS" "Z" ∈ ax_T := (ax_at 703 (by decide +kernel) rfl)
theorem q_c15 : Cond.fieldLink RJ0 15 "java/lang/String" "coder" "B" ∈ ax_T := (ax_at 2185 (by decide +kernel) rfl)
theorem q_c9 : Cond.fieldLink RJ0 9 "java/lang/String" "value" "[B" ∈ ax_T := (ax_at 2184 (by decide +kernel) rfl)
theorem q_c1053 : Cond.fieldLink RJ0 1053 "jdk/internal/util/Preconditions" "SIOOBE_FORMATTER" "Ljava/util/function/BiFunction;" ∈ ax_T := (ax_at 719 (by decide +kernel) rfl)
theorem q_v335 : ax_cv RJ0 335 yJ0_coder_7d493 cJ0_coder_7d493 1 (some .byte) 0 := ⟨⟨(ax_at 699 (by decide +kernel) rfl), (ax_at 700 (by decide +kernel) rfl), (ax_at 701 (by decide +kernel) rfl), (ax_at 146 (by decide +kernel) rfl), (ax_at 702 (by decide +kernel) rfl)⟩, by decide +kernel⟩
theorem q_v492 : ax_cv RJ0 492 yJ0_isLatin1_aae02 cJ0_isLatin1_aae02 1 (some .boolean) 0 := ⟨⟨(ax_at 709 (by decide +kernel) rfl), (ax_at 710 (by decide +kernel) rfl), (ax_at 711 (by decide +kernel) rfl), (ax_at 146 (by decide +kernel) rfl), (ax_at 712 (by decide +kernel) rfl)⟩, by decide +kernel⟩
theorem q_v495 : ax_cs RJ0 495 yJ1_charAt_3b067 cJ1_charAt_3b067 2 (some .char) 2 := ⟨⟨(ax_at 713 (by decide +kernel) rfl), (ax_at 714 (by decide +kernel) rfl), (ax_at 147 (by decide +kernel) rfl), (ax_at 715 (by decide +kernel) rfl)⟩, by decide +kernel⟩
theorem q_v9 : ax_cs RJ1 9 yJ0_checkIndex_df160 cJ0_checkIndex_df160 2 none 2 := ⟨⟨(ax_at 716 (by decide +kernel) rfl), (ax_at 717 (by decide +kernel) rfl), (ax_at 146 (by decide +kernel) rfl), (ax_at 718 (by decide +kernel) rfl)⟩, by decide +kernel⟩
theorem q_v1059 : ax_cs RJ0 1059 yJ3_checkIndex_8e157 cJ3_checkIndex_8e157 3 (some .int) 3 := ⟨⟨(ax_at 721 (by decide +kernel) rfl), (ax_at 722 (by decide +kernel) rfl), (ax_at 148 (by decide +kernel) rfl), (ax_at 723 (by decide +kernel) rfl)⟩, by decide +kernel⟩
theorem q_x179 : ax_cv RX10 179 yJ0_length_8abf5 cJ0_length_8abf5 1 (some .int) 0 := ⟨⟨(ax_at 695 (by decide +kernel) rfl), (ax_at 696 (by decide +kernel) rfl), (ax_at 697 (by decide +kernel) rfl), (ax_at 146 (by decide +kernel) rfl), (ax_at 698 (by decide +kernel) rfl)⟩, by decide +kernel⟩
theorem q_x183 : ax_cv RX10 183 yJ0_charAt_5068e cJ0_charAt_5068e 2 (some .char) 1 := ⟨⟨(ax_at 705 (by decide +kernel) rfl), (ax_at 706 (by decide +kernel) rfl), (ax_at 707 (by decide +kernel) rfl), (ax_at 146 (by decide +kernel) rfl), (ax_at 708 (by decide +kernel) rfl)⟩, by decide +kernel⟩
theorem q_x125 : ax_cv RX12 125 yJ0_length_8abf5 cJ0_length_8abf5 1 (some .int) 0 := ⟨⟨(ax_at 1718 (by decide +kernel) rfl), (ax_at 696 (by decide +kernel) rfl), (ax_at 697 (by decide +kernel) rfl), (ax_at 146 (by decide +kernel) rfl), (ax_at 698 (by decide +kernel) rfl)⟩, by decide +kernel⟩
theorem q_x129 : ax_cv RX12 129 yJ0_charAt_5068e cJ0_charAt_5068e 2 (some .char) 1 := ⟨⟨(ax_at 1719 (by decide +kernel) rfl), (ax_at 706 (by decide +kernel) rfl), (ax_at 707 (by decide +kernel) rfl), (ax_at 146 (by decide +kernel) rfl), (ax_at 708 (by decide +kernel) rfl)⟩, by decide +kernel⟩
set_option maxHeartbeats 4000000 in
set_option maxRecDepth 100000 in
theorem C_coder (l : Launch) (D : va_G) (cA : Nat → ClassId) (sa ad : Nat → Nat) (bs n : Nat) (sh : Nat → ax_S) (i : Nat) (hi : i < 17) (σ : Nat → Nat → Int) : AM l D cA sa ad bs n sh yJ0_coder_7d493 cJ0_coder_7d493 1 (some .byte) 0 [.ref (sa (4 + i))] σ (some (z_i 0)) True σ := by
  refine am_of (by decide +kernel) (Nat.le_of_ble_eq_true rfl) (fun p e s m args below meth c X hr => ?_)
  refine aw_lv (lv' := [(0, .ref (sa (4 + i)))]) rfl ?_
  refine aw_getsC X q_c38 dJ0_coder_7d493_0 ?_
  refine aw_if_eq X (tgt := 13) (z_lit (x := 1) (by decide)) dJ0_coder_7d493_3 (by decide) (fun h => absurd h (by decide)) (fun h => ?_)
  refine aw_aload_n X 0 dJ0_coder_7d493_6 rfl rfl ?_
  refine aw_scoder X hi q_c15 dJ0_coder_7d493_7 ?_
  refine aw_goto X (tgt := 14) dJ0_coder_7d493_10 (by decide) ?_
  exact aw_nret X trivial hr rfl rfl dJ0_coder_7d493_14
set_option maxHeartbeats 4000000 in
set_option maxRecDepth 100000 in
theorem C_isLatin1 (l : Launch) (D : va_G) (cA : Nat → ClassId) (sa ad : Nat → Nat) (bs n : Nat) (sh : Nat → ax_S) (i : Nat) (hi : i < 17) (σ : Nat → Nat → Int) : AM l D cA sa ad bs n sh yJ0_isLatin1_aae02 cJ0_isLatin1_aae02 1 (some .boolean) 0 [.ref (sa (4 + i))] σ (some (z_i 1)) True σ := by
  refine am_of (by decide +kernel) (Nat.le_of_ble_eq_true rfl) (fun p e s m args below meth c X hr => ?_)
  refine aw_lv (lv' := [(0, .ref (sa (4 + i)))]) rfl ?_
  refine aw_getsC X q_c38 dJ0_isLatin1_aae02_0 ?_
  refine aw_if_eq X (tgt := 17) (z_lit (x := 1) (by decide)) dJ0_isLatin1_aae02_3 (by decide) (fun h => absurd h (by decide)) (fun h => ?_)
  refine aw_aload_n X 0 dJ0_isLatin1_aae02_6 rfl rfl ?_
  refine aw_scoder X hi q_c15 dJ0_isLatin1_aae02_7 ?_
  refine aw_if_ne X (tgt := 17) (z_lit (x := 0) (by decide)) dJ0_isLatin1_aae02_10 (by decide) (fun h => absurd rfl h) (fun h => ?_)
  refine aw_iconst X dJ0_isLatin1_aae02_13 ?_
  refine aw_goto X (tgt := 18) dJ0_isLatin1_aae02_14 (by decide) ?_
  exact aw_nret X trivial hr rfl rfl dJ0_isLatin1_aae02_18
set_option maxHeartbeats 4000000 in
set_option maxRecDepth 100000 in
theorem C_length (l : Launch) (D : va_G) (cA : Nat → ClassId) (sa ad : Nat → Nat) (bs n : Nat) (sh : Nat → ax_S) (i : Nat) (hi : i < 17) (σ : Nat → Nat → Int) : AM l D cA sa ad bs n sh yJ0_length_8abf5 cJ0_length_8abf5 1 (some .int) 1 [.ref (sa (4 + i))] σ (some (z_i ((ax_tl.getD i 0 : Nat) : Int))) True σ := by
  refine am_of (by decide +kernel) (Nat.le_of_ble_eq_true rfl) (fun p e s m args below meth c X hr => ?_)
  refine aw_lv (lv' := [(0, .ref (sa (4 + i)))]) rfl ?_
  have hz : Z_I ((ax_tl.getD i 0 : Nat) : Int) := by have := tl_all i hi; unfold Z_I; omega
  refine aw_aload_n X 0 dJ0_length_8abf5_0 rfl rfl ?_
  refine aw_svalue X hi q_c9 dJ0_length_8abf5_1 ?_
  refine aw_stlen X hi dJ0_length_8abf5_4 ?_
  refine aw_aload_n X 0 dJ0_length_8abf5_5 rfl rfl ?_
  refine aw_callT X [] [z_i ((ax_tl.getD i 0 : Nat) : Int)] [z_i 0, z_i ((ax_tl.getD i 0 : Nat) : Int)] q_v335 hi rfl (C_coder l D cA sa ad bs n sh i hi σ) rfl ⟨(Nat.le_of_ble_eq_true rfl), (Nat.le_of_ble_eq_true rfl), (Nat.le_of_ble_eq_true rfl), (Nat.le_of_ble_eq_true rfl)⟩ rfl (Nat.le_of_ble_eq_true rfl) rfl dJ0_length_8abf5_6 (fun _ => ?_)
  refine aw_ishr X dJ0_length_8abf5_9 ?_
  rw [z_shr_0 hz]
  exact aw_iret X trivial hr rfl dJ0_length_8abf5_10
set_option maxHeartbeats 4000000 in
set_option maxRecDepth 100000 in
theorem C_pcheck (l : Launch) (D : va_G) (cA : Nat → ClassId) (sa ad : Nat → Nat) (bs n : Nat) (sh : Nat → ax_S) (v : Value) (hv : v.category = 1) (k N : Int) (ck : Z_I k) (cN : Z_I N) (h0 : 0 ≤ k) (h1 : k < N) (hlen : (lg_sl [z_i k, z_i N, v]).length ≤ 3) (hlv : lv_args 0 [z_i k, z_i N, v] = [(0, z_i k), (1, z_i N), (2, v)]) (σ : Nat → Nat → Int) : AM l D cA sa ad bs n sh yJ3_checkIndex_8e157 cJ3_checkIndex_8e157 3 (some .int) 0 [z_i k, z_i N, v] σ (some (z_i k)) True σ := by
  refine am_of (by decide +kernel) hlen (fun p e s m args below meth c X hr => ?_)
  refine aw_lv (lv' := [(0, z_i k), (1, z_i N), (2, v)]) hlv ?_
  refine aw_iload_n X 0 dJ3_checkIndex_8e157_0 rfl rfl ?_
  refine aw_if_lt X (tgt := 9) ck dJ3_checkIndex_8e157_1 (by decide) (fun h => absurd h (by omega)) (fun h => ?_)
  refine aw_iload_n X 0 dJ3_checkIndex_8e157_4 rfl rfl ?_
  refine aw_iload_n X 1 dJ3_checkIndex_8e157_5 rfl rfl ?_
  refine aw_icmp_lt X (tgt := 16) ck cN dJ3_checkIndex_8e157_6 (by decide) (fun h => ?_) (fun h => absurd h1 h)
  refine aw_iload_n X 0 dJ3_checkIndex_8e157_16 rfl rfl ?_
  exact aw_iret X trivial hr rfl dJ3_checkIndex_8e157_17
set_option maxHeartbeats 4000000 in
set_option maxRecDepth 100000 in
theorem C_scheck (l : Launch) (D : va_G) (cA : Nat → ClassId) (sa ad : Nat → Nat) (bs n : Nat) (sh : Nat → ax_S) (k N : Int) (ck : Z_I k) (cN : Z_I N) (h0 : 0 ≤ k) (h1 : k < N) (σ : Nat → Nat → Int) : AM l D cA sa ad bs n sh yJ0_checkIndex_df160 cJ0_checkIndex_df160 2 none 1 [z_i k, z_i N] σ none True σ := by
  refine am_of (by decide +kernel) (Nat.le_of_ble_eq_true rfl) (fun p e s m args below meth c X hr => ?_)
  refine aw_lv (lv' := [(0, z_i k), (1, z_i N)]) rfl ?_
  refine aw_iload_n X 0 dJ0_checkIndex_df160_0 rfl rfl ?_
  refine aw_iload_n X 1 dJ0_checkIndex_df160_1 rfl rfl ?_
  refine aw_getsQ X q_c1053 dJ0_checkIndex_df160_2 (fun v hv => ?_)
  have hlv : lv_args 0 [z_i k, z_i N, v] = [(0, z_i k), (1, z_i N), (2, v)] := rfl
  have hlen : (lg_sl [z_i k, z_i N, v]).length ≤ 3 := by cases v <;> first | exact Nat.le_of_ble_eq_true rfl | exact absurd hv (by intro h; cases h)
  refine aw_callS X [z_i k, z_i N, v] [] [z_i k] q_v1059 (C_pcheck l D cA sa ad bs n sh v hv k N ck cN h0 h1 hlen hlv σ) rfl ⟨(Nat.le_of_ble_eq_true rfl), (Nat.le_of_ble_eq_true rfl), (Nat.le_of_ble_eq_true rfl), (Nat.le_of_ble_eq_true rfl)⟩ rfl (Nat.le_of_ble_eq_true rfl) rfl dJ0_checkIndex_df160_5 (fun _ => ?_)
  refine aw_pop X dJ0_checkIndex_df160_8 rfl ?_
  exact aw_vret X trivial hr rfl dJ0_checkIndex_df160_9
set_option maxHeartbeats 4000000 in
set_option maxRecDepth 100000 in
theorem C_lcharAt (l : Launch) (D : va_G) (cA : Nat → ClassId) (sa ad : Nat → Nat) (bs n : Nat) (sh : Nat → ax_S) (i j : Nat) (hi : i < 17) (hj : j < ax_tl.getD i 0) (σ : Nat → Nat → Int) : AM l D cA sa ad bs n sh yJ1_charAt_3b067 cJ1_charAt_3b067 2 (some .char) 2 [.ref (sa (21 + i)), z_i (j : Int)] σ (some (z_i (tx i j))) True σ := by
  refine am_of (by decide +kernel) (Nat.le_of_ble_eq_true rfl) (fun p e s m args below meth c X hr => ?_)
  refine aw_lv (lv' := [(0, .ref (sa (21 + i))), (1, z_i (j : Int))]) rfl ?_
  obtain ⟨t1, t2, t3, t4, t5⟩ := tx_all i hi j hj
  have h1 := tl_all i hi
  have cj : Z_I (j : Int) := by unfold Z_I; omega
  have cN : Z_I ((ax_tl.getD i 0 : Nat) : Int) := by unfold Z_I; omega
  refine aw_iload_n X 1 dJ1_charAt_3b067_0 rfl rfl ?_
  refine aw_aload_n X 0 dJ1_charAt_3b067_1 rfl rfl ?_
  refine aw_stlen X hi dJ1_charAt_3b067_2 ?_
  refine aw_callS X [z_i (j : Int), z_i ((ax_tl.getD i 0 : Nat) : Int)] [] [] q_v9 (C_scheck l D cA sa ad bs n sh j _ cj cN (by omega) (by omega) σ) rfl ⟨(Nat.le_of_ble_eq_true rfl), (Nat.le_of_ble_eq_true rfl), (Nat.le_of_ble_eq_true rfl), (Nat.le_of_ble_eq_true rfl)⟩ rfl (Nat.le_of_ble_eq_true rfl) rfl dJ1_charAt_3b067_3 (fun _ => ?_)
  refine aw_aload_n X 0 dJ1_charAt_3b067_6 rfl rfl ?_
  refine aw_iload_n X 1 dJ1_charAt_3b067_7 rfl rfl ?_
  refine aw_stbald X hi hj dJ1_charAt_3b067_8 ?_
  refine aw_sipush X dJ1_charAt_3b067_9 (by decide) ?_
  refine aw_iandN X dJ1_charAt_3b067_12 ?_
  refine aw_i2cN X (v := Int32.ofInt (tx i j)) dJ1_charAt_3b067_13 t4 ?_
  exact aw_nret X trivial hr t5 rfl dJ1_charAt_3b067_14
set_option maxHeartbeats 4000000 in
set_option maxRecDepth 100000 in
theorem C_charAt (l : Launch) (D : va_G) (cA : Nat → ClassId) (sa ad : Nat → Nat) (bs n : Nat) (sh : Nat → ax_S) (i j : Nat) (hi : i < 17) (hj : j < ax_tl.getD i 0) (σ : Nat → Nat → Int) : AM l D cA sa ad bs n sh yJ0_charAt_5068e cJ0_charAt_5068e 2 (some .char) 3 [.ref (sa (4 + i)), z_i (j : Int)] σ (some (z_i (tx i j))) True σ := by
  refine am_of (by decide +kernel) (Nat.le_of_ble_eq_true rfl) (fun p e s m args below meth c X hr => ?_)
  refine aw_lv (lv' := [(0, .ref (sa (4 + i))), (1, z_i (j : Int))]) rfl ?_
  obtain ⟨t1, t2, t3, t4, t5⟩ := tx_all i hi j hj
  refine aw_aload_n X 0 dJ0_charAt_5068e_0 rfl rfl ?_
  refine aw_callT X [] [] [z_i 1] q_v492 hi rfl (C_isLatin1 l D cA sa ad bs n sh i hi σ) rfl ⟨(Nat.le_of_ble_eq_true rfl), (Nat.le_of_ble_eq_true rfl), (Nat.le_of_ble_eq_true rfl), (Nat.le_of_ble_eq_true rfl)⟩ rfl (Nat.le_of_ble_eq_true rfl) rfl dJ0_charAt_5068e_1 (fun _ => ?_)
  refine aw_if_eq X (tgt := 16) (z_lit (x := 1) (by decide)) dJ0_charAt_5068e_4 (by decide) (fun h => absurd h (by decide)) (fun h => ?_)
  refine aw_aload_n X 0 dJ0_charAt_5068e_7 rfl rfl ?_
  refine aw_svalue X hi q_c9 dJ0_charAt_5068e_8 ?_
  refine aw_iload_n X 1 dJ0_charAt_5068e_11 rfl rfl ?_
  refine aw_callS X [.ref (sa (21 + i)), z_i (j : Int)] [] [z_i (tx i j)] q_v495 (C_lcharAt l D cA sa ad bs n sh i j hi hj σ) rfl ⟨(Nat.le_of_ble_eq_true rfl), (Nat.le_of_ble_eq_true rfl), (Nat.le_of_ble_eq_true rfl), (Nat.le_of_ble_eq_true rfl)⟩ rfl (Nat.le_of_ble_eq_true rfl) rfl dJ0_charAt_5068e_12 (fun _ => ?_)
  exact aw_nret X trivial hr t5 rfl dJ0_charAt_5068e_15
