-- what is known at the law's entry: classes, statics, texts
def gF : List Cond := flatC (Jvm.Cond.and given_1 narrow_1)
def gE : List Nat := [105, 116, 126, 136, 149, 161, 175, 190, 206, 222, 239, 257, 275, 295, 316, 339, 364]
def gS : List Nat := [676, 677, 678, 679, 680, 681, 682, 683, 684, 685, 686, 687, 688, 689, 690, 691, 1717]
def d0S : String × Nat × String × Nat := ("", 0, "", 0)
def tmS (i : Nat) : Term := .string (ax_sr.getD i d0S).1 (ax_sr.getD i d0S).2.1
set_option maxRecDepth 100000 in
theorem gS_ok : ∀ i, i < 17 → lw_tbl[gS.getD i 0]? = some (.stringRef (ax_sr.getD i d0S).1 (ax_sr.getD i d0S).2.1 (ax_sr.getD i d0S).2.2.1) ∧ (ax_sr.getD i d0S).2.2.2 = i := by decide +kernel
set_option maxRecDepth 100000 in
theorem gE_ex : ∀ i, i < 17 → gF[gE.getD i 0 + 1]? = some (.exactly (tmS i) "java/lang/String") := by decide +kernel
set_option maxRecDepth 100000 in
theorem gE_co : ∀ i, i < 17 → gF[gE.getD i 0 + 2]? = some (.eq (.field (tmS i) "java/lang/String" "coder" "B") (.int 0)) := by decide +kernel
set_option maxRecDepth 100000 in
theorem gE_ar : ∀ i, i < 17 → gF[gE.getD i 0 + 3]? = some (.arrayOf (.field (tmS i) "java/lang/String" "value" "[B") .byte) := by decide +kernel
set_option maxRecDepth 100000 in
theorem gE_le : ∀ i, i < 17 → gF[gE.getD i 0 + 4]? = some (.eq (.length (.field (tmS i) "java/lang/String" "value" "[B")) (.int (Int32.ofNat (ax_tl.getD i 0)))) := by decide +kernel
set_option maxRecDepth 100000 in
theorem gE_el : ∀ i, i < 17 → ∀ j, j < ax_tl.getD i 0 → gF[gE.getD i 0 + 5 + j]? = some (.eq (.elem (.field (tmS i) "java/lang/String" "value" "[B") (.int (Int32.ofNat j))) (.int ((ax_byt.getD i []).getD j 0))) := by decide +kernel
set_option maxRecDepth 100000 in
theorem gE_ne : ∀ i, i < 17 → ∀ k, k < i → gF[gE.getD i 0 + 5 + ax_tl.getD i 0 + k]? = some (.not (.eq (tmS k) (tmS i))) := by decide +kernel
section S_G
variable {s : State} {args : Array Value}
theorem g_in (hgv : (Jvm.Cond.and given_1 narrow_1).before args s = true) {w : Cond} (i : Nat) (h : gF[i]? = some w) : w.before args s = true := flat_of_before _ hgv w (List.mem_of_getElem? h)
theorem g_tab (hts : ∀ w ∈ lw_tbl, w.before args s = true) {w : Cond} (i : Nat) (h : lw_tbl[i]? = some w) : w.before args s = true := hts w (List.mem_of_getElem? h)
theorem gA : ∀ a : Nat, a < s.heap.size → ¬ ax_A s.heap.size a := fun a h q => absurd (show s.heap.size ≤ a from q) (Nat.not_le.mpr h)
theorem g_row (hts : ∀ w ∈ lw_tbl, w.before args s = true) (hgv : (Jvm.Cond.and given_1 narrow_1).before args s = true) {C n : String} {xs : List Int} {N : Nat} (il ii ia : Nat) (hl : lw_tbl[il]? = some (.laysStatic C n "[I")) (hi : lw_tbl[ii]? = some (.initialized C)) (ha : gF[ia]? = some (.arrayOf (.static C n "[I") .int)) (hn : gF[ia + 1]? = some (.eq (.length (.static C n "[I")) (.int (Int32.ofNat N)))) (hN : N < 2 ^ 31) (he : ∀ j, j < N → gF[ia + 2 + j]? = some (.eq (.elem (.static C n "[I") (.int (Int32.ofNat j))) (.int (Int32.ofInt (xs.getD j 0))))) : ∃ t : Nat, va_Z C n "[I" (.ref t) (ax_A s.heap.size) s s.heap ∧ va_T .int t N (fun j => z_i (xs.getD j 0)) (ax_A s.heap.size) s s.heap := by
  obtain ⟨t, ht, hT⟩ := va_Tof (f := fun j => z_i (xs.getD j 0)) (A := ax_A s.heap.size) hN (g_in hgv _ ha) (va_eqt (g_in hgv _ hn)) (fun j hj => va_eqt (g_in hgv _ (he j hj))) gA
  exact ⟨t, va_Zof (g_tab hts _ hl) (g_tab hts _ hi) ht gA, hT⟩
theorem g_E (hts : ∀ w ∈ lw_tbl, w.before args s = true) (hgv : (Jvm.Cond.and given_1 narrow_1).before args s = true) : ∃ sa : Nat → Nat, ax_E sa s.heap.size s ∧ ∀ q ∈ ax_sr, vk_R q.1 q.2.1 q.2.2.1 (sa (4 + q.2.2.2)) s := by
  obtain ⟨t0, z0, u0⟩ := g_row (s := s) (C := "SpeedDesk") (n := "RULE_LEAST") (xs := [0, 0, 1, 0, 1, 2]) (N := 6) hts hgv 818 132 19 (by decide +kernel) (by decide +kernel) (by decide +kernel) (by decide +kernel) (by decide) (by decide +kernel)
  obtain ⟨t1, z1, u1⟩ := g_row (s := s) (C := "SpeedDesk") (n := "RULE_MOST") (xs := [100, 20, 20, 9, 9999, 16]) (N := 6) hts hgv 820 132 28 (by decide +kernel) (by decide +kernel) (by decide +kernel) (by decide +kernel) (by decide) (by decide +kernel)
  obtain ⟨t2, z2, u2⟩ := g_row (s := s) (C := "SpeedDesk") (n := "RULE_UNTOLD") (xs := [25, 3, 2, 0, 9999, 8]) (N := 6) hts hgv 646 132 5 (by decide +kernel) (by decide +kernel) (by decide +kernel) (by decide +kernel) (by decide) (by decide +kernel)
  obtain ⟨t3, z3, u3⟩ := g_row (s := s) (C := "SpeedDesk$Step") (n := "NUMBERS_TOLD") (xs := [1, 2, 3, 1, 1, 1, 0]) (N := 7) hts hgv 855 137 37 (by decide +kernel) (by decide +kernel) (by decide +kernel) (by decide +kernel) (by decide) (by decide +kernel)
  obtain ⟨adK, adV, hS, hT⟩ := vk_Sof (args := args) (s := s) (N := 17) (tm := tmS) (len := ax_tl) (byt := ax_byt) (A := ax_A s.heap.size) (fun i hi => Nat.lt_trans (tl_all i hi) (by decide)) (fun i hi => g_in hgv _ (gE_ex i hi)) (fun i hi => g_in hgv _ (gE_co i hi)) (fun i hi => g_in hgv _ (gE_ar i hi)) (fun i hi => g_in hgv _ (gE_le i hi)) (fun i hi j hj => g_in hgv _ (gE_el i hi j hj)) (fun i j hi hj hij => by
    rcases Nat.lt_or_gt_of_ne hij with h | h
    · exact Or.inl (g_in hgv _ (gE_ne j hj i h))
    · exact Or.inr (g_in hgv _ (gE_ne i hi j h))) gA
  obtain ⟨sa, hsa⟩ : ∃ sa : Nat → Nat, sa = fun k => if k < 4 then [t0, t1, t2, t3].getD k 0 else if k < 21 then adK (k - 4) else adV (k - 21) := ⟨_, rfl⟩
  have e0 : sa 0 = t0 := by rw [hsa]; rfl
  have e1 : sa 1 = t1 := by rw [hsa]; rfl
  have e2 : sa 2 = t2 := by rw [hsa]; rfl
  have e3 : sa 3 = t3 := by rw [hsa]; rfl
  have eK : ∀ i, i < 17 → sa (4 + i) = adK i := fun i hi => by
    rw [hsa]
    show (if 4 + i < 4 then _ else if 4 + i < 21 then adK (4 + i - 4) else _) = _
    rw [if_neg (by omega), if_pos (by omega), Nat.add_sub_cancel_left]
  have eV : ∀ i, i < 17 → sa (21 + i) = adV i := fun i hi => by
    rw [hsa]
    show (if 21 + i < 4 then _ else if 21 + i < 21 then _ else adV (21 + i - 21)) = _
    rw [if_neg (by omega), if_neg (by omega), Nat.add_sub_cancel_left]
  refine ⟨sa, ⟨fun i q hq => ?_, ?_, ?_, ?_⟩, fun q hq => ?_⟩
  · match i, hq with
    | 0, hq => cases hq; rw [e0]; exact ⟨z0, u0⟩
    | 1, hq => cases hq; rw [e1]; exact ⟨z1, u1⟩
    | 2, hq => cases hq; rw [e2]; exact ⟨z2, u2⟩
    | 3, hq => cases hq; rw [e3]; exact ⟨z3, u3⟩
    | i + 4, hq => simp [ax_st] at hq
  · exact va_Zof (g_tab hts 704 (by decide +kernel)) (g_tab hts 146 (by decide +kernel)) (va_eqt (g_in hgv 13 (by decide +kernel))) gA
  · exact va_Zqof (g_tab hts 720 (by decide +kernel)) (g_tab hts 148 (by decide +kernel)) (g_in hgv 14 (by decide +kernel)) gA
  · refine ⟨fun i hi => ?_, fun i j hi hj h => hS.2 i j hi hj ?_⟩
    · show va_O "java/lang/String" (sa (4 + i)) _ s s.heap ∧ va_OF "java/lang/String" "coder" "B" (.int 0) (sa (4 + i)) _ s s.heap ∧ va_OF "java/lang/String" "value" "[B" (.ref (sa (21 + i))) (sa (4 + i)) _ s s.heap ∧ va_T .byte (sa (21 + i)) _ _ _ s s.heap
      rw [eK i hi, eV i hi]
      exact hS.1 i hi
    · rw [← eK i hi, ← eK j hj]
      exact h
  · obtain ⟨i, hq2⟩ := List.mem_iff_getElem?.mp hq
    have hi : i < 17 := (List.getElem?_eq_some_iff.mp hq2).1
    obtain ⟨a1, a2⟩ := gS_ok i hi
    have a3 : ax_sr.getD i d0S = q := by
      rw [List.getD_eq_getElem?_getD, hq2]
      rfl
    rw [a3] at a1 a2
    rw [a2, eK i hi]
    have a4 := hT i hi
    unfold tmS at a4
    rw [a3] at a4
    exact vk_R.of (g_tab hts _ a1) a4
theorem g_arr (hts : ∀ w ∈ lw_tbl, w.before args s = true) {ty : FieldType} (i : Nat) (h : lw_tbl[i]? = some (.arrayClass ty)) : ∃ cA : ClassId, ArrOfT s cA ty ∧ s.vm.findClass ("[" ++ ty.toString) = some cA := by
  obtain ⟨c, k, comp, h1, h2, h3⟩ := Cond.arrayClass_spec (g_tab hts i h)
  exact ⟨c, fun n z => ⟨(fun k h => by cases h), k, h2, comp, h3⟩, h1⟩
theorem g_arO (hts : ∀ w ∈ lw_tbl, w.before args s = true) {C : String} (i : Nat) (h : lw_tbl[i]? = some (.arrayOver (.object C))) : ∃ cA : ClassId, ArrOfT s cA (.object C) ∧ va_RA s cA (.object C) := by
  obtain ⟨comp, c, k, h1, h2, h3, h4, h5⟩ := Cond.arrayOver_spec (va_AO.of (g_tab hts i h))
  exact ⟨c, fun n z => ⟨(fun k h => by cases h), k, h3, comp, h4⟩, k, comp, h3, h4, h1, h5⟩
theorem g_AA (hts : ∀ w ∈ lw_tbl, w.before args s = true) : ax_AA s := by
  have h : (Cond.arrayOver (.array .int)).before args s = true := g_tab hts 208 (by decide +kernel)
  exact h
theorem g_K (hts : ∀ w ∈ lw_tbl, w.before args s = true) : ∃ (D : va_G) (cA : Nat → ClassId), va_K D vwCl (ax_tys cA) s := by
  have hT : ∀ w ∈ ax_T, w.before args s = true := fun w hw => hts w (List.mem_filter.mp hw).1
  obtain ⟨c0, i0, k0⟩ := u_known (C := RX0) (T := TX0) (N := 2) (n := 2) hT inX0 (g_tab hts 486 (by decide +kernel))
  obtain ⟨c1, i1, k1⟩ := u_known (C := RX1) (T := TX1) (N := 17) (n := 17) hT inX1 (g_tab hts 202 (by decide +kernel))
  obtain ⟨c2, i2, k2⟩ := u_known (C := RX2) (T := TX2) (N := 1) (n := 1) hT inX2 (g_tab hts 492 (by decide +kernel))
  obtain ⟨c3, i3, k3⟩ := u_known (C := RX3) (T := TX3) (N := 3) (n := 3) hT inX3 (g_tab hts 466 (by decide +kernel))
  obtain ⟨c4, i4, k4⟩ := u_known (C := RX4) (T := TX4) (N := 3) (n := 3) hT inX4 (g_tab hts 450 (by decide +kernel))
  obtain ⟨c5, i5, k5⟩ := u_known (C := RX5) (T := TX5) (N := 11) (n := 11) hT inX5 (g_tab hts 502 (by decide +kernel))
  obtain ⟨c6, i6, k6⟩ := u_known (C := RX6) (T := TX6) (N := 2) (n := 2) hT inX6 (g_tab hts 308 (by decide +kernel))
  obtain ⟨c7, i7, k7⟩ := u_known (C := RX7) (T := TX7) (N := 19) (n := 19) hT inX7 (g_tab hts 347 (by decide +kernel))
  obtain ⟨c8, i8, k8⟩ := u_known (C := RX8) (T := TX8) (N := 3) (n := 3) hT inX8 (g_tab hts 315 (by decide +kernel))
  obtain ⟨c9, i9, k9⟩ := u_known (C := RX9) (T := TX9) (N := 5) (n := 5) hT inX9 (g_tab hts 170 (by decide +kernel))
  obtain ⟨c10, i10, k10⟩ := u_known (C := RX10) (T := TX10) (N := 1) (n := 1) hT inX10 (g_tab hts 164 (by decide +kernel))
  obtain ⟨c11, i11, k11⟩ := u_known (C := RX11) (T := TX11) (N := 19) (n := 19) hT inX11 (g_tab hts 156 (by decide +kernel))
  obtain ⟨c12, i12, k12⟩ := u_known (C := RX12) (T := TX12) (N := 51) (n := 51) hT inX12 (g_tab hts 1496 (by decide +kernel))
  obtain ⟨a0, b0, d0⟩ := g_arr (ty := .int) hts 195 (by decide +kernel)
  obtain ⟨a1, b1, d1⟩ := g_arr (ty := .long) hts 302 (by decide +kernel)
  obtain ⟨a2, b2, d2⟩ := g_arr (ty := .byte) hts 860 (by decide +kernel)
  obtain ⟨a3, b3, d3⟩ := g_arr (ty := .boolean) hts 1655 (by decide +kernel)
  obtain ⟨a4, b4, d4⟩ := g_arO (C := "SpeedDesk$Script") hts 307 (by decide +kernel)
  obtain ⟨a5, b5, d5⟩ := g_arO (C := "SpeedDesk$State") hts 472 (by decide +kernel)
  obtain ⟨a6, b6, d6⟩ := g_arO (C := "SpeedDesk$Step") hts 314 (by decide +kernel)
  obtain ⟨a8, a7, k7', -, -, f3, f4, f5⟩ := (g_AA hts).spec
  have b7 : ArrOfT s a7 (.array .int) := fun n z => ⟨(fun k h => by cases h), k7', f3, a8, f4⟩
  refine ⟨(fun k => ([c0, c1, c2, c3, c4, c5, c6, c7, c8, c9, c10, c11, c12] : List ClassId).getD k c0, fun k => ([i0, i1, i2, i3, i4, i5, i6, i7, i8, i9, i10, i11, i12] : List (Nat → Nat)).getD k i0), fun k => ([a0, a1, a2, a3, a4, a5, a6, a7] : List ClassId).getD k a0, fun c q hq => ?_, fun k q hq => ?_⟩
  · match c, hq with
    | 0, hq => cases hq; exact k0
    | 1, hq => cases hq; exact k1
    | 2, hq => cases hq; exact k2
    | 3, hq => cases hq; exact k3
    | 4, hq => cases hq; exact k4
    | 5, hq => cases hq; exact k5
    | 6, hq => cases hq; exact k6
    | 7, hq => cases hq; exact k7
    | 8, hq => cases hq; exact k8
    | 9, hq => cases hq; exact k9
    | 10, hq => cases hq; exact k10
    | 11, hq => cases hq; exact k11
    | 12, hq => cases hq; exact k12
    | c + 13, hq => simp [vwCl] at hq
  · match k, hq with
    | 0, hq => cases hq; exact ⟨b0, d0⟩
    | 1, hq => cases hq; exact ⟨b1, d1⟩
    | 2, hq => cases hq; exact ⟨b2, d2⟩
    | 3, hq => cases hq; exact ⟨b3, d3⟩
    | 4, hq => cases hq; exact ⟨b4, d4⟩
    | 5, hq => cases hq; exact ⟨b5, d5⟩
    | 6, hq => cases hq; exact ⟨b6, d6⟩
    | 7, hq => cases hq; exact ⟨b7, f5⟩
    | k + 8, hq => simp [ax_tys] at hq
theorem g_O (hts : ∀ w ∈ lw_tbl, w.before args s = true) : ax_O s := ⟨va_AO.of (g_tab hts 307 (by decide +kernel)), va_AO.of (g_tab hts 472 (by decide +kernel)), va_AO.of (g_tab hts 314 (by decide +kernel)), g_AA hts⟩
theorem g_Z (hts : ∀ w ∈ lw_tbl, w.before args s = true) (hgv : (Jvm.Cond.and given_1 narrow_1).before args s = true) : ax_Z s.heap.size s :=
  ⟨vx_Zqof (g_tab hts 1449 (by decide +kernel)) (g_tab hts 151 (by decide +kernel)) (g_in hgv 46 (by decide +kernel)) gA, vx_Zqof (g_tab hts 1451 (by decide +kernel)) (g_tab hts 151 (by decide +kernel)) (g_in hgv 47 (by decide +kernel)) gA, va_Nw.of rfl (g_tab hts 1425 (by decide +kernel)), va_Nw.of rfl (g_tab hts 1427 (by decide +kernel)), va_Nw.of rfl (g_tab hts 1429 (by decide +kernel)), va_Nw.of rfl (g_tab hts 1424 (by decide +kernel))⟩
theorem g_F (hts : ∀ w ∈ lw_tbl, w.before args s = true) (hgv : (Jvm.Cond.and given_1 narrow_1).before args s = true) : ∃ (D : va_G) (cA : Nat → ClassId) (sa : Nat → Nat), ax_F D cA sa s.heap.size s := by
  obtain ⟨D, cA, hK⟩ := g_K hts
  obtain ⟨sa, hE, hR⟩ := g_E hts hgv
  exact ⟨D, cA, sa, hK, fun w hw => va_Nw.of (ax_nest_tabs (List.mem_filter.mp hw).2) (hts w (List.mem_filter.mp hw).1), hE, hR⟩
end S_G
