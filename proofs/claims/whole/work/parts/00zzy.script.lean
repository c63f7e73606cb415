-- a script read, both sides
def SSC (a : Nat) : Nat → Nat → Prop := fun x j => SRD x j ∨ (a ≤ x ∧ x < a + 26)
def SSR : Nat → Nat → Prop := fun x j => SRE x j ∨ (x = 773 ∧ 192 ≤ j) ∨ (x = 775 ∧ 48 ≤ j) ∨ (x = 774 ∧ j = 4)
/-- what a script's text leaves -/
def SE (c r : Nat → Nat → Int) (a : Nat) (f : Int) : Prop := TPR c r ∧ c 2 4 = f ∧ r 758 4 = f ∧ ((f = -1 ∧ ∃ (len : Nat) (stp : Nat → QS), 1 ≤ len ∧ len ≤ 12 ∧ QC c a stp len ∧ r 774 4 = len ∧ (∀ i, i < len → SR1 r (48 + i) (stp i)) ∧ ∀ i, i < len → QW (stp i)) ∨ f ≠ -1)
def SB (c r : Nat → Nat → Int) (a i : Nat) (stp : Nat → QS) : Prop := ∀ j, j < i → TS c (a + 2 + 2 * j) (stp j).1 (stp j).2.1 (stp j).2.2.1 (stp j).2.2.2.1 (stp j).2.2.2.2 ∧ SR1 r (48 + j) (stp j) ∧ QW (stp j)
def SLP (a i : Nat) : Prop := ∀ (kc kr : Nat) (c r : Nat → Nat → Int) (p : Int) (stp : Nat → QS), TA c r p → SB c r a i stp → 15 < kc + i → 15 < kr + i → ∃ f c' r', f_X10_readScript_16 kc a 1 (i : Int) c = some (f, c') ∧ f_X12_readScript_4 kr (i : Int) 1 r = some r' ∧ FM (SSC a) c c' ∧ FM SSR r r' ∧ SE c' r' a f
section S_SP
variable {c r : Nat → Nat → Int} {a i : Nat} {p q f : Int} {stp : Nat → QS}
theorem look_again (h : TA c r q) (hq : hv c r q ≠ 32) : f_X12_look r = some (hv c r q, r) := by
  have hh := R_here h.1 h.2.2.1 h.2.2.2.1
  have st : ∀ k, f_X12_look_0 (k + 1) r = some (hv c r q, r) := fun k => by rw [f_X12_look_0, hh, Option.bind_some, if_neg hq, Option.bind_some]
  exact st 99999
theorem SB.keep {c' r' : Nat → Nat → Int} (h : SB c r a i stp) (hc : ∀ x, a + 2 ≤ x → x < a + 2 + 2 * i → c' x = c x) (h3 : ∀ j, j < 4 * (48 + i) → r' 773 j = r 773 j) (h5 : ∀ j, j < 48 + i → r' 775 j = r 775 j) : SB c' r' a i stp := fun j hj => by
  obtain ⟨h1, ⟨e1, e2, e3, e4, e5⟩, h2⟩ := h j hj
  refine ⟨?_, ⟨by rw [h3 _ (by omega)]; exact e1, by rw [h3 _ (by omega)]; exact e2, by rw [h3 _ (by omega)]; exact e3, by rw [h3 _ (by omega)]; exact e4, by rw [h5 _ (by omega)]; exact e5⟩, h2⟩
  unfold TS at h1 ⊢
  rw [hc (a + 2 + 2 * j) (by omega) (by omega), hc (a + 2 + 2 * j + 1) (by omega) (by omega)]
  exact h1
set_option maxHeartbeats 1000000 in
theorem T_sstep (ha : 3 < a) (hi : i < 12) (IH : i + 1 < 12 → SLP a (i + 1)) : SLP a i := by
  intro kc kr c r p stp h hB hkc hkr
  obtain ⟨kc, rfl⟩ : ∃ j, kc = j + 2 := ⟨kc - 2, by omega⟩
  obtain ⟨kr, rfl⟩ : ∃ j, kr = j + 2 := ⟨kr - 2, by omega⟩
  obtain ⟨c1, r1, g1, g2, g3, g4, g5⟩ := T_rstep (st := a + 2 + 2 * i) h (by omega) hi
  have hC : f_X10_readScript_16 (kc + 2) a 1 (i : Int) c = (f_X9_isSound (u2 c1 a 1 ((i : Int) + 1))).bind fun q10 => if q10 = 0 then ((f_X10_readScript_16 (kc + 1)) a 0 ((i : Int) + 1) (u2 c1 a 1 ((i : Int) + 1))) else ((f_X9_readSemicolon (u2 c1 a 1 ((i : Int) + 1))).bind fun q14 => (f_X10_readScript_16 (kc + 1)) a (if q14.1 = 0 then 0 else 1) ((i : Int) + 1) q14.2) := by
    rw [f_X10_readScript_16, if_neg (by omega), if_neg (by omega), if_pos (by omega), Int.toNat_natCast, g1, Option.bind_some, zid (x := (i : Int) + 1) (by omega) (by omega)]
  have hR : f_X12_readScript_4 (kr + 2) (i : Int) 1 r = if (r1 758 4) = (-1) then ((f_X12_look r1).bind fun q7 => if q7.1 = 59 then (if (i : Int) + 1 = 12 then ((f_X12_fails (q7.2 758 3) q7.2).bind fun q13 => some q13) else (f_X12_readScript_49 (f_X12_readScript_4 (kr + 1)) ((i : Int) + 1) q7.2)) else (f_X12_readScript_49 (f_X12_readScript_4 (kr + 1)) ((i : Int) + 1) q7.2)) else (some r1) := by
    rw [f_X12_readScript_4, if_neg (by omega), g2, Option.bind_some, zid (x := (i : Int) + 1) (by omega) (by omega)]
  have mc : FM (SSC a) c (u2 c1 a 1 ((i : Int) + 1)) := (g3.mono (fun x j hx => hx.imp id (fun z => by omega))).u (Or.inr ⟨by omega, by omega⟩)
  have mr : FM SSR r r1 := g4.mono (fun x j hx => hx.imp id (fun z => by omega))
  have k2 : ∀ j, (u2 c1 a 1 ((i : Int) + 1)) 2 j = c1 2 j := fun j => u2_c (by omega)
  have k3 : (u2 c1 a 1 ((i : Int) + 1)) 3 = c1 3 := u2_ne (by omega)
  have ka : (u2 c1 a 1 ((i : Int) + 1)) a 1 = (i : Int) + 1 := u2_e
  have kx : ∀ x, a < x → (u2 c1 a 1 ((i : Int) + 1)) x = c1 x := fun x hx => u2_ne (by omega)
  generalize u2 c1 a 1 ((i : Int) + 1) = c2 at *
  have stop : ∀ (v : Int) (c' : Nat → Nat → Int), f_X10_readScript_16 (kc + 1) a 0 v c' = some (c' 2 4, c') := fun v c' => by
    rw [f_X10_readScript_16, if_pos rfl]
    unfold f_X10_readScript_75
    rw [if_pos rfl]
  have rstop : ∀ (v : Int) (r' : Nat → Nat → Int), f_X12_readScript_4 (kr + 1) v 0 r' = some (u2 r' 774 4 v) := fun v r' => by
    rw [f_X12_readScript_4, if_pos rfl]
  rcases g5 with ⟨s, q', a1, a2, a3, a4, a5⟩ | ⟨f, a1⟩
  rotate_left
  · have a1' : TX c2 r1 f := a1.oc k2 k3
    refine ⟨f, c2, r1, ?_, ?_, mc, mr, a1'.1, a1'.2.2.2.1, a1'.2.2.2.2.1, Or.inr (by have := a1'.2.2.2.2.2; omega)⟩
    · rw [hC, a1'.sound, Option.bind_some, if_pos rfl, stop, a1'.2.2.2.1]
    · rw [hR, if_neg (by have := a1'.2.2.2.2; omega)]
  have b1 : TA c2 r1 s := a1.oc k2 k3
  have hB' : SB c2 r1 a (i + 1) (fun j => if j = i then q' else stp j) := fun j hj => by
    by_cases e : j = i
    · rw [e]
      simp only [if_pos]
      refine ⟨?_, a5, a3⟩
      unfold TS at a4 ⊢
      rw [kx (a + 2 + 2 * i) (by omega), kx (a + 2 + 2 * i + 1) (by omega)]
      exact a4
    · simp only [if_neg e]
      exact hB.keep (c' := c2) (r' := r1) (fun x x1 x2 => by rw [kx x (by omega)]; exact funext fun j => g3 x j (by unfold SRD; omega)) (fun j hj => g4 773 j (by unfold SRE; omega)) (fun j hj => g4 775 j (by unfold SRE; omega)) j (by omega)
  generalize (fun j => if j = i then q' else stp j) = stp' at *
  rw [b1.sound, Option.bind_some, if_neg (show ¬ (1 : Int) = 0 by omega)] at hC
  rw [if_pos b1.2.2.2.2.2.2] at hR
  obtain ⟨q2, c3, r2, d1, d2, d3, d4, d5, d6, d7, d8⟩ := T_go b1
  have d5' := d5
  obtain ⟨h1, h2, h3, h4, h5, h6, h7⟩ := d5
  have hl := h1.2.2.1
  have e2 : r2 758 2 = r1 758 2 := d8 758 2 (by unfold SRE; omega)
  have ehv : hv c2 r1 q2 = hv c3 r2 q2 := by
    unfold hv
    rw [e2, (funext fun j => d7 3 j (by unfold SRD; omega) : c3 3 = c2 3)]
  rw [ehv] at d2 d4
  have hag := look_again d5' d4
  have hv1 := hv_in h1 h4
  have hsm := C_semi_at d1 h1.1 h2
  have mc3 : FM (SSC a) c c3 := mc.trans (d7.mono (fun x j hx => Or.inl hx))
  have mr3 : FM SSR r r2 := mr.trans (d8.mono (fun x j hx => Or.inl hx))
  have hB3 : SB c3 r2 a (i + 1) stp' := hB'.keep (fun x x1 x2 => funext fun j => d7 x j (by unfold SRD; omega)) (fun j hj => d8 773 j (by unfold SRE; omega)) (fun j hj => d8 775 j (by unfold SRE; omega))
  have e3a : c3 a 1 = (i : Int) + 1 := (d7 a 1 (by unfold SRD; omega)).trans ka
  rw [d2, Option.bind_some] at hR
  have hgo := R_goesOn_at h7 hag
  have h34 : ∀ (v : Int) (r' : Nat → Nat → Int), v ≠ 59 → f_X12_goesOn_34 v r' = some (0, r') := fun v r' hv => if_neg hv
  by_cases d : r2 758 2 ≤ q2
  · have em := hv1.2.2.1.mpr d
    rw [if_neg (show ¬ q2 < r2 758 2 by omega)] at hsm
    rw [if_pos em, em, h34 _ _ (by omega)] at hgo
    rw [hsm, Option.bind_some] at hC
    refine ⟨-1, c3, u2 r2 774 4 ((i : Int) + 1), ?_, ?_, mc3, mr3.u (by unfold SSR; omega), h1.other (u2_ne (by omega)) (u2_ne (by omega)), h6, (u2_c (by omega)).trans h7, Or.inl ⟨rfl, i + 1, stp', by omega, by omega, ⟨e3a.trans (by omega), fun j hj => (hB3 j hj).1⟩, u2_e.trans (by omega), fun j hj => ?_, fun j hj => (hB3 j hj).2.2⟩⟩
    · rw [hC]
      dsimp only
      rw [if_pos rfl, stop, h6]
    · rw [hR, if_neg (by rw [em]; omega)]
      unfold f_X12_readScript_49
      rw [hgo, Option.bind_some, rstop]
    · have := (hB3 j hj).2.1
      unfold SR1 at this ⊢
      rw [u2_ne (show (773 : Nat) ≠ 774 by omega), u2_ne (show (775 : Nat) ≠ 774 by omega)]
      exact this
  · have e := hv1.2.2.2 d
    rw [if_pos (show q2 < r2 758 2 by omega), if_pos (show 0 ≤ q2 ∧ q2 < 320 by omega)] at hsm
    rw [if_neg (show ¬ hv c3 r2 q2 = -1 by omega)] at hgo
    have hTX := d5'.fails (c' := c3) (r' := r2) h4
    by_cases d9 : c3 3 q2.toNat = 59
    · rw [if_pos d9, zid (x := q2 + 1) (by omega) (by omega)] at hsm
      rw [if_pos (e.trans d9), e.trans d9, show f_X12_goesOn_34 59 r2 = some (1, u2 r2 758 3 (z_w (r2 758 3 + 1))) from if_pos rfl, h3, zid (x := q2 + 1) (by omega) (by omega)] at hgo
      rw [hsm, Option.bind_some] at hC
      rw [if_pos (e.trans d9)] at hR
      by_cases d12 : i + 1 = 12
      · rw [if_pos (show (i : Int) + 1 = 12 by omega), R_fails h7, Option.bind_some] at hR
        dsimp only at hR
        rw [h3] at hR
        have mm : FM SRD c3 (u2 (u2 c3 2 2 (q2 + 1)) 2 4 q2) := (FM.refl.u (by unfold SRD; omega)).u (by unfold SRD; omega)
        have mm2 : FM SRE r2 (u2 r2 758 4 q2) := FM.refl.u (by unfold SRE; omega)
        refine ⟨q2, u2 (u2 c3 2 2 (q2 + 1)) 2 4 q2, u2 r2 758 4 q2, ?_, hR, mc3.trans (mm.mono (fun x j hx => Or.inl hx)), mr3.trans (mm2.mono (fun x j hx => Or.inl hx)), h1.fm mm mm2, u2_e, u2_e, Or.inr (by omega)⟩
        rw [hC]
        dsimp only
        rw [if_neg (show ¬ (1 : Int) = 0 by omega), f_X10_readScript_16, if_neg (by omega), if_pos (by omega)]
        unfold f_X10_readScript_75
        rw [if_neg (by omega), C_refusePart ((u2_i (by omega)).trans h6), Option.bind_some, u2_i (show (3 : Nat) ≠ 2 by omega), d6, u2_e]
      · rw [if_neg (show ¬ (i : Int) + 1 = 12 by omega)] at hR
        have mm : FM SRD c3 (u2 c3 2 2 (q2 + 1)) := FM.refl.u (by unfold SRD; omega)
        have mm2 : FM SRE r2 (u2 r2 758 3 (q2 + 1)) := FM.refl.u (by unfold SRE; omega)
        obtain ⟨f, c', r', n1, n2, n3, n4, n5⟩ := IH (by omega) (kc + 1) (kr + 1) (u2 c3 2 2 (q2 + 1)) (u2 r2 758 3 (q2 + 1)) (q2 + 1) stp' ⟨h1.fm mm mm2, u2_e, u2_e, by omega, by rw [u2_i (by omega)]; omega, (u2_i (by omega)).trans h6, (u2_i (by omega)).trans h7⟩ (hB3.keep (fun x x1 x2 => u2_ne (by omega)) (fun j hj => u2_c (by omega)) (fun j hj => u2_c (by omega))) (by omega) (by omega)
        have ei : ((i + 1 : Nat) : Int) = (i : Int) + 1 := by omega
        rw [ei] at n1 n2
        refine ⟨f, c', r', ?_, ?_, (mc3.trans (mm.mono (fun x j hx => Or.inl hx))).trans n3, (mr3.trans (mm2.mono (fun x j hx => Or.inl hx))).trans n4, n5⟩
        · rw [hC]
          dsimp only
          rw [if_neg (show ¬ (1 : Int) = 0 by omega)]
          exact n1
        · rw [hR]
          unfold f_X12_readScript_49
          rw [hgo, Option.bind_some]
          exact n2
    · have n59 : hv c3 r2 q2 ≠ 59 := by rw [e]; exact d9
      rw [if_neg d9, C_refusePart h6, Option.bind_some, d6] at hsm
      rw [if_neg n59, R_fails h7, Option.bind_some, h3, h34 _ _ n59] at hgo
      rw [hsm, Option.bind_some] at hC
      rw [if_neg n59] at hR
      have mm : FM SRD c3 (u2 c3 2 4 q2) := FM.refl.u (by unfold SRD; omega)
      have mm2 : FM SRE r2 (u2 r2 758 4 q2) := FM.refl.u (by unfold SRE; omega)
      refine ⟨q2, u2 c3 2 4 q2, u2 (u2 r2 758 4 q2) 774 4 ((i : Int) + 1), ?_, ?_, mc3.trans (mm.mono (fun x j hx => Or.inl hx)), (mr3.trans (mm2.mono (fun x j hx => Or.inl hx))).u (by unfold SSR; omega), (h1.fm mm mm2).other (u2_ne (by omega)) (u2_ne (by omega)), u2_e, (u2_c (by omega)).trans u2_e, Or.inr (by omega)⟩
      · rw [hC]
        dsimp only
        rw [if_pos rfl, stop, u2_e]
      · rw [hR]
        unfold f_X12_readScript_49
        rw [hgo, Option.bind_some, rstop]
theorem T_sloop (ha : 3 < a) : ∀ (m i : Nat), i + m + 1 = 12 → SLP a i := by
  intro m
  induction m with
  | zero => exact fun i hi => T_sstep ha (by omega) (fun z => by omega)
  | succ m ih => exact fun i hi => T_sstep ha (by omega) (fun z => ih (i + 1) (by omega))
theorem T_script (h : TPR c r) (ha : 3 < a) : ∃ f c' r', f_X10_readScript a c = some (f, c') ∧ f_X12_readScript (u2 (u2 r 758 3 0) 758 4 (-1)) = some r' ∧ FM (SSC a) c c' ∧ FM SSR r r' ∧ SE c' r' a f := by
  have hb := TA.begin h
  have hm1 : FM (SSC a) c (u2 (u2 (u2 (u2 c 2 2 0) 2 3 0) 2 4 (-1)) a 1 0) := (((FM.refl.u (Or.inl (by unfold SRD; omega))).u (Or.inl (by unfold SRD; omega))).u (Or.inl (by unfold SRD; omega))).u (Or.inr ⟨by omega, by omega⟩)
  have hm2 : FM SSR r (u2 (u2 r 758 3 0) 758 4 (-1)) := (FM.refl.u (Or.inl (by unfold SRE; omega))).u (Or.inl (by unfold SRE; omega))
  obtain ⟨f, c', r', g1, g2, g3, g4, g5⟩ := T_sloop ha 11 0 (by omega) 100000 100000 _ _ 0 (fun _ => (0, 0, 0, 0, 0)) (hb.oc (c' := u2 (u2 (u2 (u2 c 2 2 0) 2 3 0) 2 4 (-1)) a 1 0) (fun j => u2_c (by omega)) (u2_ne (by omega))) (fun j hj => by omega) (by omega) (by omega)
  rw [show ((0 : Nat) : Int) = 0 from rfl] at g1 g2
  refine ⟨f, c', r', ?_, ?_, hm1.trans g3, hm2.trans g4, g5⟩
  · unfold f_X10_readScript f_X9_rewind
    rw [Option.bind_some, g1]
  · unfold f_X12_readScript
    rw [g2]
end S_SP
