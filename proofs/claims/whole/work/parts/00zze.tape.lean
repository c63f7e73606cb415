-- the tape: fed, cut; both sides, one memory each
/-- the class's tape in c is the reference's in r -/
def TPR (c r : Nat → Nat → Int) : Prop := c 2 1 = r 758 2 ∧ 0 ≤ r 758 2 ∧ r 758 2 ≤ 320 ∧ ∀ j : Nat, (j : Int) < r 758 2 → c 3 j = z_and (r 759 j) 255 ∧ 1 ≤ c 3 j ∧ c 3 j ≤ 255
def nb1 (v k : Int) : Int := if z_and (z_shr v k) 255 = 0 then 0 else 1
def nb (v : Int) : Int := nb1 v 24 + nb1 v 16 + nb1 v 8 + nb1 v 0
def STC : Nat → Nat → Prop := fun c j => c = 3 ∨ (c = 2 ∧ j = 1)
def STR : Nat → Nat → Prop := fun c j => c = 759 ∨ (c = 758 ∧ j = 2)
section S_TP
variable {c r σ : Nat → Nat → Int} {v k : Int}
theorem TPR.frame {c' r' : Nat → Nat → Int} (h : TPR c r) (h1 : c' 2 1 = c 2 1) (h2 : c' 3 = c 3) (h3 : r' 758 2 = r 758 2) (h4 : r' 759 = r 759) : TPR c' r' := by
  unfold TPR
  rw [h1, h2, h3, h4]
  exact h
theorem nb1_in : nb1 v k = 0 ∨ nb1 v k = 1 := by
  unfold nb1
  split
  · exact Or.inl rfl
  · exact Or.inr rfl
theorem nb_in : 0 ≤ nb v ∧ nb v ≤ 4 := by
  have h1 := nb1_in (v := v) (k := 24)
  have h2 := nb1_in (v := v) (k := 16)
  have h3 := nb1_in (v := v) (k := 8)
  have h4 := nb1_in (v := v) (k := 0)
  unfold nb
  omega
theorem C_bytesOf : f_X9_bytesOf v σ = some (nb v) := by
  have e24 := by_eq (v := v) (k := 24) (by omega)
  have e16 := by_eq (v := v) (k := 16) (by omega)
  have e8 := by_eq (v := v) (k := 8) (by omega)
  have e0 := by_eq (v := v) (k := 0) (by omega)
  have st : ∀ (n : Nat) (a : Int) (k : Int), 0 ≤ a → a < 100 → (k = 0 ∨ k = 8 ∨ k = 16 ∨ k = 24) → f_X9_bytesOf_5 (n + 1) v a k σ = f_X9_bytesOf_5 n v (a + nb1 v k) (k - 8) σ := fun n a k a0 a1 hk => by
    rw [f_X9_bytesOf_5, if_neg (by omega), by_eq hk, zid (x := k + -8) (by omega) (by omega)]
    unfold nb1
    by_cases c : z_and (z_shr v k) 255 = 0
    · rw [if_pos c, if_pos c, Int.add_zero, show k + -8 = k - 8 from by omega]
    · rw [if_neg c, if_neg c, zid (by omega) (by omega), show k + -8 = k - 8 from by omega]
  have h1 := nb1_in (v := v) (k := 24)
  have h2 := nb1_in (v := v) (k := 16)
  have h3 := nb1_in (v := v) (k := 8)
  have h4 := nb1_in (v := v) (k := 0)
  unfold f_X9_bytesOf nb
  rw [st 99999 0 24 (by omega) (by omega) (by omega), Int.zero_add, show (24 : Int) - 8 = 16 from rfl, st 99998 _ 16 (by omega) (by omega) (by omega), show (16 : Int) - 8 = 8 from rfl, st 99997 _ 8 (by omega) (by omega) (by omega), show (8 : Int) - 8 = 0 from rfl, st 99996 _ 0 (by omega) (by omega) (by omega), f_X9_bytesOf_5, if_pos (by omega)]
theorem R_bytesOf : f_X12_bytesOf v σ = some (nb v) := by
  have st : ∀ (n : Nat) (a : Int) (k : Int), 0 ≤ a → a < 100 → 0 ≤ k → k < 4 → f_X12_bytesOf_4 (n + 1) v a k σ = f_X12_bytesOf_4 n v (a + nb1 v (8 * k)) (k + 1) σ := fun n a k a0 a1 k0 k1 => by
    rw [f_X12_bytesOf_4, if_neg (by omega), zid (x := 8 * k) (by omega) (by omega), zid (x := k + 1) (by omega) (by omega)]
    unfold nb1
    by_cases c : z_and (z_shr v (8 * k)) 255 = 0
    · rw [if_pos c, if_pos c, zid (by omega) (by omega)]
    · rw [if_neg c, if_neg c, zid (by omega) (by omega)]
  have h1 := nb1_in (v := v) (k := 24)
  have h2 := nb1_in (v := v) (k := 16)
  have h3 := nb1_in (v := v) (k := 8)
  have h4 := nb1_in (v := v) (k := 0)
  unfold f_X12_bytesOf nb
  rw [st 99999 0 0 (by omega) (by omega) (by omega) (by omega), show (8 : Int) * 0 = 0 from rfl, show (0 : Int) + 1 = 1 from rfl, st 99998 _ 1 (by omega) (by omega) (by omega) (by omega), show (8 : Int) * 1 = 8 from rfl, show (1 : Int) + 1 = 2 from rfl, st 99997 _ 2 (by omega) (by omega) (by omega) (by omega), show (8 : Int) * 2 = 16 from rfl, show (2 : Int) + 1 = 3 from rfl, st 99996 _ 3 (by omega) (by omega) (by omega) (by omega), show (8 : Int) * 3 = 24 from rfl, f_X12_bytesOf_4, if_pos (by omega)]
  congr 1
  omega
theorem T_step (h : TPR c r) (hk : k = 0 ∨ k = 8 ∨ k = 16 ∨ k = 24) (hl : r 758 2 + nb1 v k ≤ 320) : ∃ c' r', (∀ n, f_X9_append_3 (n + 1) v k c = f_X9_append_3 n v (k - 8) c') ∧ (∀ n, f_X12_brings_3 (n + 1) v k r = f_X12_brings_3 n v (k - 8) r') ∧ TPR c' r' ∧ r' 758 2 = r 758 2 + nb1 v k ∧ FM STC c c' ∧ FM STR r r' := by
  obtain ⟨h1, h2, h3, h4⟩ := h
  have hb := by_in (z_shr v k)
  by_cases d : z_and (z_shr v k) 255 = 0
  · have e : nb1 v k = 0 := if_pos d
    refine ⟨c, r, fun n => ?_, fun n => ?_, ⟨h1, h2, h3, h4⟩, by omega, FM.refl, FM.refl⟩
    · rw [f_X9_append_3, if_neg (by omega), by_eq hk, if_pos d, zid (x := k + -8) (by omega) (by omega), show k + -8 = k - 8 from by omega]
    · rw [f_X12_brings_3, if_neg (by omega), if_pos d, zid (x := k + -8) (by omega) (by omega), show k + -8 = k - 8 from by omega]
  · have e : nb1 v k = 1 := if_neg d
    rw [e] at hl
    refine ⟨u2 (u2 c 3 (r 758 2).toNat (z_and (z_shr v k) 255)) 2 1 (r 758 2 + 1), u2 (u2 r 759 (r 758 2).toNat (z_byte (z_and (z_shr v k) 255))) 758 2 (r 758 2 + 1), fun n => ?_, fun n => ?_, ⟨?_, ?_, ?_, fun j hj => ?_⟩, ?_, (FM.refl.u (Or.inl rfl)).u (Or.inr ⟨rfl, rfl⟩), (FM.refl.u (Or.inl rfl)).u (Or.inr ⟨rfl, rfl⟩)⟩
    · rw [f_X9_append_3, if_neg (by omega), by_eq hk, if_neg d, h1, if_neg (by omega), if_pos (by omega), zid (x := k + -8) (by omega) (by omega), show k + -8 = k - 8 from by omega, u2_c (by omega), h1, zid (by omega) (by omega)]
    · rw [f_X12_brings_3, if_neg (by omega), if_neg d, if_pos (by omega), zid (x := k + -8) (by omega) (by omega), show k + -8 = k - 8 from by omega, u2_c (by omega), zid (by omega) (by omega)]
    · rw [u2_e, u2_e]
    · rw [u2_e]
      omega
    · rw [u2_e]
      omega
    · rw [u2_e] at hj
      rw [u2_ne (show (3 : Nat) ≠ 2 by omega), u2_ne (show (759 : Nat) ≠ 758 by omega)]
      by_cases q : j = (r 758 2).toNat
      · rw [q, u2_e, u2_e, by_b hb.1 hb.2]
        exact ⟨rfl, by omega, by omega⟩
      · rw [u2_i q, u2_i q]
        exact h4 j (by omega)
    · rw [u2_e, e]
theorem T_append (h : TPR c r) (hl : r 758 2 + nb v ≤ 320) : ∃ c' r', f_X9_append v c = some c' ∧ f_X12_brings v r = some r' ∧ TPR c' r' ∧ r' 758 2 = r 758 2 + nb v ∧ FM STC c c' ∧ FM STR r r' := by
  have i1 := nb1_in (v := v) (k := 24)
  have i2 := nb1_in (v := v) (k := 16)
  have i3 := nb1_in (v := v) (k := 8)
  have i4 := nb1_in (v := v) (k := 0)
  unfold nb at hl ⊢
  obtain ⟨c1, r1, a1, a2, a3, a4, a5, a6⟩ := T_step (v := v) (k := 24) h (by omega) (by omega)
  obtain ⟨c2, r2, b1, b2, b3, b4, b5, b6⟩ := T_step (v := v) (k := 16) a3 (by omega) (by omega)
  obtain ⟨c3, r3, d1, d2, d3, d4, d5, d6⟩ := T_step (v := v) (k := 8) b3 (by omega) (by omega)
  obtain ⟨c4, r4, e1, e2, e3, e4, e5, e6⟩ := T_step (v := v) (k := 0) d3 (by omega) (by omega)
  refine ⟨c4, r4, ?_, ?_, e3, by omega, ((a5.trans b5).trans d5).trans e5, ((a6.trans b6).trans d6).trans e6⟩
  · unfold f_X9_append
    rw [a1 99999, show (24 : Int) - 8 = 16 from rfl, b1 99998, show (16 : Int) - 8 = 8 from rfl, d1 99997, show (8 : Int) - 8 = 0 from rfl, e1 99996, f_X9_append_3, if_pos (by omega)]
  · unfold f_X12_brings
    rw [a2 99999, show (24 : Int) - 8 = 16 from rfl, b2 99998, show (16 : Int) - 8 = 8 from rfl, d2 99997, show (8 : Int) - 8 = 0 from rfl, e2 99996, f_X12_brings_3, if_pos (by omega)]
theorem T_feed {v1 v2 v3 v4 v5 : Int} (h : TPR c (u2 r 758 0 0)) : ∃ x c' r', f_X11_feed v1 v2 v3 v4 v5 c = some (x, c') ∧ f_X12_feed v1 v2 v3 v4 v5 r = some (x, r') ∧ TPR c' r' ∧ FM STC c c' ∧ FM (fun c j => STR c j ∨ (c = 758 ∧ j = 0)) r r' := by
  have h' := h
  obtain ⟨h1, h2, h3, h4⟩ := h
  have i1 := nb_in (v := v1)
  have i2 := nb_in (v := v2)
  have i3 := nb_in (v := v3)
  have i4 := nb_in (v := v4)
  have i5 := nb_in (v := v5)
  have hm0 : FM (fun c j => STR c j ∨ (c = 758 ∧ j = 0)) r (u2 r 758 0 0) := FM.refl.u (Or.inr ⟨rfl, rfl⟩)
  unfold f_X11_feed f_X12_feed
  rw [C_bytesOf, C_bytesOf, C_bytesOf, C_bytesOf, C_bytesOf]
  generalize u2 r 758 0 0 = r0 at *
  rw [R_bytesOf, R_bytesOf, R_bytesOf, R_bytesOf, R_bytesOf]
  simp only [Option.bind_some]
  rw [h1, zid (x := nb v1 + nb v2) (by omega) (by omega), zid (x := nb v1 + nb v2 + nb v3) (by omega) (by omega), zid (x := nb v1 + nb v2 + nb v3 + nb v4) (by omega) (by omega), zid (x := nb v1 + nb v2 + nb v3 + nb v4 + nb v5) (by omega) (by omega), zid (x := r0 758 2 + (nb v1 + nb v2 + nb v3 + nb v4 + nb v5)) (by omega) (by omega), zid (x := r0 758 2 + nb v1) (by omega) (by omega), zid (x := r0 758 2 + nb v1 + nb v2) (by omega) (by omega), zid (x := r0 758 2 + nb v1 + nb v2 + nb v3) (by omega) (by omega), zid (x := r0 758 2 + nb v1 + nb v2 + nb v3 + nb v4) (by omega) (by omega), zid (x := r0 758 2 + nb v1 + nb v2 + nb v3 + nb v4 + nb v5) (by omega) (by omega)]
  by_cases d : r0 758 2 + (nb v1 + nb v2 + nb v3 + nb v4 + nb v5) ≤ 320
  · rw [if_pos d, if_pos (show r0 758 2 + nb v1 + nb v2 + nb v3 + nb v4 + nb v5 ≤ 320 by omega)]
    obtain ⟨c1, r1, a1, a2, a3, a4, a5, a6⟩ := T_append (v := v1) h' (by omega)
    obtain ⟨c2, r2, b1, b2, b3, b4, b5, b6⟩ := T_append (v := v2) a3 (by omega)
    obtain ⟨c3, r3, d1, d2, d3, d4, d5, d6⟩ := T_append (v := v3) b3 (by omega)
    obtain ⟨c4, r4, e1, e2, e3, e4, e5, e6⟩ := T_append (v := v4) d3 (by omega)
    obtain ⟨c5, r5, g1, g2, g3, g4, g5, g6⟩ := T_append (v := v5) e3 (by omega)
    refine ⟨r5 758 2, c5, r5, ?_, ?_, g3, (((a5.trans b5).trans d5).trans e5).trans g5, hm0.trans (((((a6.trans b6).trans d6).trans e6).trans g6).mono (fun c j hc => Or.inl hc))⟩
    · rw [a1, Option.bind_some, b1, Option.bind_some, d1, Option.bind_some, e1, Option.bind_some, g1, Option.bind_some, g3.1]
    · rw [a2, Option.bind_some, b2, Option.bind_some, d2, Option.bind_some, e2, Option.bind_some, g2, Option.bind_some]
  · rw [if_neg d, if_neg (show ¬ r0 758 2 + nb v1 + nb v2 + nb v3 + nb v4 + nb v5 ≤ 320 by omega)]
    exact ⟨-1, c, r0, rfl, rfl, h', FM.refl, hm0⟩
theorem T_end {v1 : Int} (h : TPR c (u2 r 758 0 0)) : ∃ x c' r', f_X11_end v1 c = some (x, c') ∧ f_X12_end v1 r = some (x, r') ∧ TPR c' r' ∧ FM STC c c' ∧ FM (fun c j => STR c j ∨ (c = 758 ∧ j = 0)) r r' := by
  have h' := h
  obtain ⟨h1, h2, h3, h4⟩ := h
  have hm0 : FM (fun c j => STR c j ∨ (c = 758 ∧ j = 0)) r (u2 r 758 0 0) := FM.refl.u (Or.inr ⟨rfl, rfl⟩)
  unfold f_X11_end f_X12_end
  generalize u2 r 758 0 0 = r0 at *
  rw [h1]
  by_cases d : v1 < 0
  · rw [if_pos d, if_pos d]
    exact ⟨0, c, r0, rfl, rfl, h', FM.refl, hm0⟩
  rw [if_neg d, if_neg d]
  by_cases e : v1 ≤ r0 758 2
  · rw [if_pos e, if_pos e]
    refine ⟨1, _, _, rfl, rfl, ⟨?_, ?_, ?_, fun j hj => ?_⟩, FM.refl.u (Or.inr ⟨rfl, rfl⟩), hm0.u (Or.inl (Or.inr ⟨rfl, rfl⟩))⟩
    · rw [u2_e, u2_e]
    · rw [u2_e]
      omega
    · rw [u2_e]
      omega
    · rw [u2_e] at hj
      rw [u2_ne (show (3 : Nat) ≠ 2 by omega), u2_ne (show (759 : Nat) ≠ 758 by omega)]
      exact h4 j (by omega)
  · rw [if_neg e, if_neg e]
    exact ⟨0, c, r0, rfl, rfl, h', FM.refl, hm0⟩
end S_TP
