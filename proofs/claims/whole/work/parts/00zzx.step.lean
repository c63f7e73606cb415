-- a step of a script read, both sides
def SR1 (r : Nat → Nat → Int) (e : Nat) (q : QS) : Prop := r 773 (4 * e) = q.1 ∧ r 773 (4 * e + 1) = q.2.1 ∧ r 773 (4 * e + 2) = q.2.2.1 ∧ r 773 (4 * e + 3) = q.2.2.2.1 ∧ (q.1 = 2 ∨ q.1 = 3 → r 775 e = q.2.2.2.2)
section S_ST
variable {c r : Nat → Nat → Int} {st b n i : Nat} {p q f what : Int}
theorem TA.oc {c' : Nat → Nat → Int} (h : TA c r p) (h2 : ∀ j, c' 2 j = c 2 j) (h3 : c' 3 = c 3) : TA c' r p := by
  obtain ⟨h1, k1, k2, k3, k4, k5, k6⟩ := h
  exact ⟨h1.frame (h2 1) h3 rfl rfl, (h2 2).trans k1, k2, k3, k4, (h2 4).trans k5, k6⟩
theorem TX.oc {c' : Nat → Nat → Int} (h : TX c r f) (h2 : ∀ j, c' 2 j = c 2 j) (h3 : c' 3 = c 3) : TX c' r f := by
  obtain ⟨h1, k1, k2, k3, k4, k5⟩ := h
  exact ⟨h1.frame (h2 1) h3 rfl rfl, by rw [h2 2]; exact k1, by rw [h2 2, h2 1]; exact k2, (h2 4).trans k3, k4, k5⟩
theorem T_nums {Z : Prop} (hs : 3 < st) (hb : b + 3 < 240) (hn : n ≤ 3) : ∀ (m k k' v : Nat) (c r : Nat → Nat → Int), v + m = n → m < k → m < k' → (((∃ p, TA c r p ∧ q ≤ p) ∧ Z ∧ ∀ j, j < v → c (st + 1) j = r 773 (b + 1 + j) ∧ 0 ≤ c (st + 1) j ∧ c (st + 1) j ≤ 60) ∨ ∃ f, TX c r f) →
    ∃ c' r', f_X10_readStep_69 k st what (n : Int) (v : Int) c = some c' ∧ f_X12_readStep_153 k' (b : Int) what (n : Int) ((v : Int) + 1) r = some r' ∧ FM (fun x j => SRD x j ∨ x = st + 1) c c' ∧ FM (fun x j => SRE x j ∨ (x = 773 ∧ b + v < j ∧ j ≤ b + n)) r r' ∧ (((∃ p, TA c' r' p ∧ q ≤ p) ∧ Z ∧ ∀ j, j < n → c' (st + 1) j = r' 773 (b + 1 + j) ∧ 0 ≤ c' (st + 1) j ∧ c' (st + 1) j ≤ 60) ∨ ∃ f, TX c' r' f) := by
  intro m
  induction m with
  | zero =>
    intro k k' v c r hv hk hk' h
    obtain ⟨k, rfl⟩ : ∃ j, k = j + 1 := ⟨k - 1, by omega⟩
    obtain ⟨k', rfl⟩ : ∃ j, k' = j + 1 := ⟨k' - 1, by omega⟩
    have e : v = n := by omega
    subst e
    exact ⟨c, r, by rw [f_X10_readStep_69, if_pos (Int.le_refl _)], by rw [f_X12_readStep_153, if_pos (by omega)], FM.refl, FM.refl, h⟩
  | succ m ih =>
    intro k k' v c r hv hk hk' h
    obtain ⟨k, rfl⟩ : ∃ j, k = j + 1 := ⟨k - 1, by omega⟩
    obtain ⟨k', rfl⟩ : ∃ j, k' = j + 1 := ⟨k' - 1, by omega⟩
    have step : ∀ lo hi : Int, 0 ≤ lo → hi ≤ 60 → (f_X10_readStep_69 (k + 1) st what (n : Int) (v : Int) c = (f_X9_readNumber lo hi c).bind fun q30 => if 0 ≤ (v : Int) ∧ (v : Int) < 3 then (f_X10_readStep_69 k) st what n (z_w ((v : Int) + 1)) (u2 q30.2 (st + 1) (v : Int).toNat q30.1) else none) → (f_X12_readStep_153 (k' + 1) (b : Int) what (n : Int) ((v : Int) + 1) r = (f_X12_number lo hi r).bind fun q38 => if 0 ≤ (z_w ((b : Int) + ((v : Int) + 1))) ∧ (z_w ((b : Int) + ((v : Int) + 1))) < 240 then (f_X12_readStep_153 k') b what n (z_w (((v : Int) + 1) + 1)) (u2 q38.2 773 (z_w ((b : Int) + ((v : Int) + 1))).toNat q38.1) else none) → ∃ c' r', f_X10_readStep_69 (k + 1) st what (n : Int) (v : Int) c = some c' ∧ f_X12_readStep_153 (k' + 1) (b : Int) what (n : Int) ((v : Int) + 1) r = some r' ∧ FM (fun x j => SRD x j ∨ x = st + 1) c c' ∧ FM (fun x j => SRE x j ∨ (x = 773 ∧ b + v < j ∧ j ≤ b + n)) r r' ∧ (((∃ p, TA c' r' p ∧ q ≤ p) ∧ Z ∧ ∀ j, j < n → c' (st + 1) j = r' 773 (b + 1 + j) ∧ 0 ≤ c' (st + 1) j ∧ c' (st + 1) j ≤ 60) ∨ ∃ f, TX c' r' f) := by
      intro lo hi l0 h0 e1 e2
      obtain ⟨x, y, c1, r1, g1, g2, g3, g4, g5⟩ := T_numE (q := q) (lo := lo) (hi := hi) (c := c) (r := r) (h.imp (fun z => z.1) id) l0 (by omega)
      have hx : ((v : Int)).toNat = v := by omega
      have hy : ((b : Int) + ((v : Int) + 1)).toNat = b + 1 + v := by omega
      rw [g1, Option.bind_some, if_pos (by omega), zid (x := (v : Int) + 1) (by omega) (by omega), hx, show (v : Int) + 1 = ((v + 1 : Nat) : Int) from by omega] at e1
      rw [g2, Option.bind_some, zid (x := (b : Int) + ((v : Int) + 1)) (by omega) (by omega), if_pos (by omega), zid (x := (v : Int) + 1 + 1) (by omega) (by omega), hy, show (v : Int) + 1 + 1 = ((v + 1 : Nat) : Int) + 1 from by omega] at e2
      obtain ⟨c', r', k1, k2, k3, k4, k5⟩ := ih k k' (v + 1) (u2 c1 (st + 1) v x) (u2 r1 773 (b + 1 + v) y) (by omega) (by omega) (by omega) (by
        rcases g5 with ⟨⟨s0, a0, _⟩, ⟨s, a1, a2⟩, a3, a4, a5⟩ | ⟨f, a1⟩
        · have hl : Z ∧ ∀ j, j < v → c (st + 1) j = r 773 (b + 1 + j) ∧ 0 ≤ c (st + 1) j ∧ c (st + 1) j ≤ 60 := by
            rcases h with h | ⟨f, h⟩
            · exact h.2
            · exact absurd (a0.2.2.2.2.2.1.symm.trans h.2.2.2.1) (by have := h.2.2.2.2.2; omega)
          refine Or.inl ⟨⟨s, (a1.oc (fun j => by rw [u2_ne (by omega)]) (by rw [u2_ne (by omega)])).other (u2_ne (by omega)) (u2_ne (by omega)), a2⟩, hl.1, fun j hj => ?_⟩
          by_cases e : j = v
          · rw [e, u2_e, u2_e, a3]
            omega
          · rw [u2_i e, u2_i (by omega), g3 (st + 1) j (by unfold SRD; omega), g4 773 _ (by unfold SRE; omega)]
            exact hl.2 j (by omega)
        · exact Or.inr ⟨f, (a1.oc (fun j => by rw [u2_ne (by omega)]) (by rw [u2_ne (by omega)])).other (u2_ne (by omega)) (u2_ne (by omega))⟩)
      have m1 : FM (fun x j => SRD x j ∨ x = st + 1) c (u2 c1 (st + 1) v x) := (g3.mono (fun x j hx => Or.inl hx)).u (Or.inr rfl)
      have m2 : FM (fun x j => SRE x j ∨ (x = 773 ∧ b + v < j ∧ j ≤ b + n)) r (u2 r1 773 (b + 1 + v) y) := (g4.mono (fun x j hx => Or.inl hx)).u (Or.inr ⟨rfl, by omega, by omega⟩)
      exact ⟨c', r', e1.trans k1, e2.trans k2, m1.trans k3, m2.trans (k4.mono (fun x j hx => hx.imp id (fun z => ⟨z.1, by omega, z.2.2⟩))), k5⟩
    by_cases w : what = 0
    · exact step 1 60 (by omega) (by omega) (by rw [f_X10_readStep_69, if_neg (by omega), if_neg (by omega), if_pos w]) (by rw [f_X12_readStep_153, if_neg (by omega), if_pos w])
    · exact step 0 9 (by omega) (by omega) (by rw [f_X10_readStep_69, if_neg (by omega), if_neg (by omega), if_neg w]) (by rw [f_X12_readStep_153, if_neg (by omega), if_neg w])
theorem R_step9 {v1 : Int} (hb : b + 3 < 240) : f_X12_readStep_9 100000 v1 (b : Int) 1 r = (f_X12_word (u2 (u2 (u2 r 773 (b + 1) (-1)) 773 (b + 2) (-1)) 773 (b + 3) (-1))).bind fun q2 => if (q2 758 4) = (-1) then ((f_X12_known (q2 758 6) q2).bind fun q8 => f_X12_readStep_55 v1 b (z_w (q8 - 9)) q2) else (f_X12_readStep_55 v1 b (-1) q2) := by
  have st : ∀ k, f_X12_readStep_9 (k + 4) v1 (b : Int) 1 r = (f_X12_word (u2 (u2 (u2 r 773 (b + 1) (-1)) 773 (b + 2) (-1)) 773 (b + 3) (-1))).bind fun q2 => if (q2 758 4) = (-1) then ((f_X12_known (q2 758 6) q2).bind fun q8 => f_X12_readStep_55 v1 b (z_w (q8 - 9)) q2) else (f_X12_readStep_55 v1 b (-1) q2) := fun k => by
    rw [f_X12_readStep_9, if_neg (by omega), zid (x := (b : Int) + 1) (by omega) (by omega), if_pos (by omega), zid (x := (1 : Int) + 1) (by omega) (by omega), show ((b : Int) + 1).toNat = b + 1 from by omega, show (1 : Int) + 1 = 2 from rfl]
    rw [f_X12_readStep_9, if_neg (by omega), zid (x := (b : Int) + 2) (by omega) (by omega), if_pos (by omega), zid (x := (2 : Int) + 1) (by omega) (by omega), show ((b : Int) + 2).toNat = b + 2 from by omega, show (2 : Int) + 1 = 3 from rfl]
    rw [f_X12_readStep_9, if_neg (by omega), zid (x := (b : Int) + 3) (by omega) (by omega), if_pos (by omega), zid (x := (3 : Int) + 1) (by omega) (by omega), show ((b : Int) + 3).toNat = b + 3 from by omega, show (3 : Int) + 1 = 4 from rfl]
    rw [f_X12_readStep_9, if_pos (by omega)]
  exact st 99996
theorem T_fin {who w : Int} (hs : 3 < st) (hi : i < 12) (w0 : 0 ≤ w) (w6 : w ≤ 6) (h : ((∃ s, TA c r s ∧ q ≤ s) ∧ (w = 2 ∨ w = 3 → r 775 (48 + i) = who ∧ 0 < who ∧ who < 4611686018427387904 ∧ NB who)) ∨ ∃ f, TX c r f) (e0 : r 773 (4 * (48 + i)) = w) (e1 : r 773 (4 * (48 + i) + 1) = -1) (e2 : r 773 (4 * (48 + i) + 2) = -1) (e3 : r 773 (4 * (48 + i) + 3) = -1) : ∃ c' r', f_X10_readStep_58 st w who 0 0 0 w st c = some c' ∧ f_X12_readStep_119 ((4 * (48 + i) : Nat) : Int) w r = some r' ∧ FM (fun x j => SRD x j ∨ x = st ∨ x = st + 1) c c' ∧ FM (fun x j => SRE x j ∨ (x = 773 ∧ 4 * (48 + i) < j ∧ j ≤ 4 * (48 + i) + 3)) r r' ∧ ((∃ s q', TA c' r' s ∧ q ≤ s ∧ QW q' ∧ TS c' st q'.1 q'.2.1 q'.2.2.1 q'.2.2.2.1 q'.2.2.2.2 ∧ SR1 r' (48 + i) q') ∨ ∃ f, TX c' r' f) := by
  generalize hb : 4 * (48 + i) = b at *
  have m0 : FM (fun x j => SRD x j ∨ x = st ∨ x = st + 1) c (u2 (u2 (u2 (u2 (u2 c st 1 w) (st + 1) 0 0) (st + 1) 1 0) (st + 1) 2 0) st 2 who) := ((((FM.refl.u (Or.inr (Or.inl rfl))).u (Or.inr (Or.inr rfl))).u (Or.inr (Or.inr rfl))).u (Or.inr (Or.inr rfl))).u (Or.inr (Or.inl rfl))
  have hput : f_X8_put st w 0 0 0 who c = some (u2 (u2 (u2 (u2 (u2 c st 1 w) (st + 1) 0 0) (st + 1) 1 0) (st + 1) 2 0) st 2 who) := rfl
  have c01 : (u2 (u2 (u2 (u2 (u2 c st 1 w) (st + 1) 0 0) (st + 1) 1 0) (st + 1) 2 0) st 2 who) st 1 = w := by rw [u2_i (by omega), u2_c (by omega), u2_c (by omega), u2_c (by omega), u2_e]
  have c02 : (u2 (u2 (u2 (u2 (u2 c st 1 w) (st + 1) 0 0) (st + 1) 1 0) (st + 1) 2 0) st 2 who) st 2 = who := u2_e
  have m2j : ∀ j, (u2 (u2 (u2 (u2 (u2 c st 1 w) (st + 1) 0 0) (st + 1) 1 0) (st + 1) 2 0) st 2 who) 2 j = c 2 j := fun j => by rw [u2_c (by omega), u2_c (by omega), u2_c (by omega), u2_c (by omega), u2_c (by omega)]
  have m3 : (u2 (u2 (u2 (u2 (u2 c st 1 w) (st + 1) 0 0) (st + 1) 1 0) (st + 1) 2 0) st 2 who) 3 = c 3 := by rw [u2_ne (by omega), u2_ne (by omega), u2_ne (by omega), u2_ne (by omega), u2_ne (by omega)]
  generalize u2 (u2 (u2 (u2 (u2 c st 1 w) (st + 1) 0 0) (st + 1) 1 0) (st + 1) 2 0) st 2 who = c0 at *
  have hn : ∃ n : Nat, n ≤ 3 ∧ f_X8_numbersTold st c0 = some (n : Int) ∧ (if w = 6 then (0 : Int) else (if w = 1 then 2 else (if w = 2 then 3 else 1))) = (n : Int) ∧ (n = 0 ↔ w = 6) ∧ (2 ≤ n ↔ (w = 1 ∨ w = 2)) ∧ (n = 3 ↔ w = 2) := by
    unfold f_X8_numbersTold
    rw [c01]
    have k : w = 0 ∨ w = 1 ∨ w = 2 ∨ w = 3 ∨ w = 4 ∨ w = 5 ∨ w = 6 := by omega
    rcases k with rfl | rfl | rfl | rfl | rfl | rfl | rfl
    · exact ⟨1, by decide, by decide, by decide, by decide, by decide, by decide⟩
    · exact ⟨2, by decide, by decide, by decide, by decide, by decide, by decide⟩
    · exact ⟨3, by decide, by decide, by decide, by decide, by decide, by decide⟩
    · exact ⟨1, by decide, by decide, by decide, by decide, by decide, by decide⟩
    · exact ⟨1, by decide, by decide, by decide, by decide, by decide, by decide⟩
    · exact ⟨1, by decide, by decide, by decide, by decide, by decide, by decide⟩
    · exact ⟨0, by decide, by decide, by decide, by decide, by decide, by decide⟩
  obtain ⟨n, n3, hn1, hn2, hn3, hn4, hn5⟩ := hn
  obtain ⟨c', r', k1, k2, k3, k4, k5⟩ := T_nums (Z := w = 2 ∨ w = 3 → r 775 (48 + i) = who ∧ 0 < who ∧ who < 4611686018427387904 ∧ NB who) (q := q) (st := st) (b := b) (n := n) (what := w) hs (by omega) n3 n 100000 100000 0 c0 r (by omega) (by omega) (by omega) (h.imp (fun z => ⟨by obtain ⟨⟨s, z1, z2⟩, z3⟩ := z; exact ⟨s, z1.oc m2j m3, z2⟩, z.2, fun j hj => by omega⟩) (fun z => by obtain ⟨f, z⟩ := z; exact ⟨f, z.oc m2j m3⟩))
  have k1' : f_X10_readStep_69 100000 st w (n : Int) 0 c0 = some c' := k1
  have k2' : f_X12_readStep_153 100000 (b : Int) w (n : Int) 1 r = some r' := k2
  have keep : ∀ j, n < j → j ≤ 3 → r' 773 (b + j) = r 773 (b + j) := fun j j1 j2 => k4 773 (b + j) (by unfold SRE; omega)
  have keep0 : r' 773 b = r 773 b := k4 773 b (by unfold SRE; omega)
  refine ⟨c', r', ?_, ?_, m0.trans (k3.mono (fun x j hx => hx.imp id Or.inr)), k4.mono (fun x j hx => hx.imp id (fun z => by omega)), ?_⟩
  · unfold f_X10_readStep_58
    rw [hput, Option.bind_some, hn1, Option.bind_some, k1']
  · unfold f_X12_readStep_119
    rw [hn2, k2']
  rcases k5 with ⟨⟨s, z1, z2⟩, zw, z3⟩ | z
  · refine Or.inl ⟨s, (w, r' 773 (b + 1), r' 773 (b + 2), r' 773 (b + 3), who), z1, z2, ⟨⟨w0, w6⟩, ?_, fun hw => ?_, fun hw => ?_, fun hw => ?_, fun hw => ?_⟩, ⟨?_, fun hw => ?_, fun hw => ?_, fun hw => ?_, fun hw => ?_⟩, ?_⟩
    · show -1 ≤ r' 773 (b + 1) ∧ r' 773 (b + 1) ≤ 60
      by_cases d : n = 0
      · rw [keep 1 (by omega) (by omega), e1]
        omega
      · have := z3 0 (by omega)
        rw [show b + 1 + 0 = b + 1 from rfl] at this
        omega
    · exact (zw hw).2
    · exact (keep 1 (by have : w = 6 := hw; omega) (by omega)).trans e1
    · exact (keep 2 (by have : ¬ (w = 1 ∨ w = 2) := hw; omega) (by omega)).trans e2
    · exact (keep 3 (by have : w ≠ 2 := hw; omega) (by omega)).trans e3
    · show c' st 1 = w
      rw [k3 st 1 (by unfold SRD; omega), c01]
    · have : w ≠ 6 := hw
      exact (z3 0 (by omega)).1
    · have : w = 1 ∨ w = 2 := hw
      exact (z3 1 (by omega)).1
    · have : w = 2 := hw
      exact (z3 2 (by omega)).1
    · show c' st 2 = who
      rw [k3 st 2 (by unfold SRD; omega), c02]
    · unfold SR1
      rw [hb]
      refine ⟨keep0.trans e0, rfl, rfl, rfl, fun hw => ?_⟩
      rw [k4 775 (48 + i) (by unfold SRE; omega)]
      exact (zw hw).1
  · exact Or.inr z
set_option maxHeartbeats 1000000 in
theorem T_rstep (h : TA c r p) (hs : 3 < st) (hi : i < 12) : ∃ c' r', f_X10_readStep st c = some c' ∧ f_X12_readStep (i : Int) r = some r' ∧ FM (fun x j => SRD x j ∨ x = st ∨ x = st + 1) c c' ∧ FM (fun x j => SRE x j ∨ (x = 773 ∧ 4 * (48 + i) ≤ j ∧ j ≤ 4 * (48 + i) + 3) ∨ (x = 775 ∧ j = 48 + i)) r r' ∧ ((∃ s q', TA c' r' s ∧ p ≤ s ∧ QW q' ∧ TS c' st q'.1 q'.2.1 q'.2.2.1 q'.2.2.2.1 q'.2.2.2.2 ∧ SR1 r' (48 + i) q') ∨ ∃ f, TX c' r' f) := by
  have hp0 := h.2.2.2.1
  have hR : f_X12_readStep (i : Int) r = (f_X12_word (u2 (u2 (u2 r 773 (4 * (48 + i) + 1) (-1)) 773 (4 * (48 + i) + 2) (-1)) 773 (4 * (48 + i) + 3) (-1))).bind fun q2 => if (q2 758 4) = (-1) then ((f_X12_known (q2 758 6) q2).bind fun q8 => f_X12_readStep_55 (i : Int) ((4 * (48 + i) : Nat) : Int) (z_w (q8 - 9)) q2) else (f_X12_readStep_55 (i : Int) ((4 * (48 + i) : Nat) : Int) (-1) q2) := by
    unfold f_X12_readStep
    rw [zid (x := 48 + (i : Int)) (by omega) (by omega), zid (x := 4 * (48 + (i : Int))) (by omega) (by omega), show 4 * (48 + (i : Int)) = ((4 * (48 + i) : Nat) : Int) from by omega]
    exact R_step9 (by omega)
  have m0 : FM (fun x j => SRE x j ∨ (x = 773 ∧ 4 * (48 + i) ≤ j ∧ j ≤ 4 * (48 + i) + 3) ∨ (x = 775 ∧ j = 48 + i)) r (u2 (u2 (u2 r 773 (4 * (48 + i) + 1) (-1)) 773 (4 * (48 + i) + 2) (-1)) 773 (4 * (48 + i) + 3) (-1)) := ((FM.refl.u (Or.inr (Or.inl ⟨rfl, by omega, by omega⟩))).u (Or.inr (Or.inl ⟨rfl, by omega, by omega⟩))).u (Or.inr (Or.inl ⟨rfl, by omega, by omega⟩))
  have h0 : TA c (u2 (u2 (u2 r 773 (4 * (48 + i) + 1) (-1)) 773 (4 * (48 + i) + 2) (-1)) 773 (4 * (48 + i) + 3) (-1)) p := h.other (by rw [u2_ne (by omega), u2_ne (by omega), u2_ne (by omega)]) (by rw [u2_ne (by omega), u2_ne (by omega), u2_ne (by omega)])
  have f1 : (u2 (u2 (u2 r 773 (4 * (48 + i) + 1) (-1)) 773 (4 * (48 + i) + 2) (-1)) 773 (4 * (48 + i) + 3) (-1)) 773 (4 * (48 + i) + 1) = -1 := by rw [u2_i (by omega), u2_i (by omega), u2_e]
  have f2 : (u2 (u2 (u2 r 773 (4 * (48 + i) + 1) (-1)) 773 (4 * (48 + i) + 2) (-1)) 773 (4 * (48 + i) + 3) (-1)) 773 (4 * (48 + i) + 2) = -1 := by rw [u2_i (by omega), u2_e]
  have f3 : (u2 (u2 (u2 r 773 (4 * (48 + i) + 1) (-1)) 773 (4 * (48 + i) + 2) (-1)) 773 (4 * (48 + i) + 3) (-1)) 773 (4 * (48 + i) + 3) = -1 := u2_e
  generalize u2 (u2 (u2 r 773 (4 * (48 + i) + 1) (-1)) 773 (4 * (48 + i) + 2) (-1)) 773 (4 * (48 + i) + 3) (-1) = r0 at *
  obtain ⟨x, c1, r1, s, q, g1, g2, g3, g4, gq, g5⟩ := T_word h0
  have hwn := wno_in (v := x) 16 (Nat.le_refl _)
  have hC : f_X10_readStep st c = if z_wno x 16 - 9 < 0 then f_X10_readStep_24 c1 else (if z_wno x 16 - 9 ≤ 6 then (if z_wno x 16 - 9 = 2 then (f_X10_readStep_47 st (z_wno x 16 - 9) 0 0 0 (z_wno x 16 - 9) st c1) else (if z_wno x 16 - 9 = 3 then (f_X10_readStep_47 st (z_wno x 16 - 9) 0 0 0 (z_wno x 16 - 9) st c1) else (f_X10_readStep_58 st (z_wno x 16 - 9) 0 0 0 0 (z_wno x 16 - 9) st c1))) else f_X10_readStep_24 c1) := by
    unfold f_X10_readStep f_X10_wordNumber
    rw [g1, Option.bind_some, Option.bind_some, zid (x := z_wno x 16 - 9) (by omega) (by omega)]
  have mc : FM (fun x j => SRD x j ∨ x = st ∨ x = st + 1) c c1 := g3.mono (fun x j hx => Or.inl hx)
  have mr : FM (fun x j => SRE x j ∨ (x = 773 ∧ 4 * (48 + i) ≤ j ∧ j ≤ 4 * (48 + i) + 3) ∨ (x = 775 ∧ j = 48 + i)) r r1 := m0.trans (g4.mono (fun x j hx => Or.inl hx))
  have e1 : r1 773 (4 * (48 + i) + 1) = -1 := (g4 773 _ (by unfold SRE; omega)).trans f1
  have e2 : r1 773 (4 * (48 + i) + 2) = -1 := (g4 773 _ (by unfold SRE; omega)).trans f2
  have e3 : r1 773 (4 * (48 + i) + 3) = -1 := (g4 773 _ (by unfold SRE; omega)).trans f3
  rcases g5 with ⟨b1, b2, b3, b4, b5, b6⟩ | ⟨b1, b2⟩
  · have h4 : r1 758 4 = -1 := b1.2.2.2.2.2.2
    rw [g2, Option.bind_some, if_pos h4, show f_X12_known (r1 758 6) r1 = some (z_wno x 16) by unfold f_X12_known; rw [b2], Option.bind_some, zid (x := z_wno x 16 - 9) (by omega) (by omega)] at hR
    generalize hw : z_wno x 16 - 9 = w at *
    by_cases d : w < 0
    · refine ⟨u2 c1 2 4 q, u2 r1 758 4 q, ?_, ?_, mc.u (Or.inl (by unfold SRD; omega)), mr.u (Or.inl (by unfold SRE; omega)), Or.inr ⟨q, b1.fails (c' := c1) (r' := r1) (by omega)⟩⟩
      · rw [hC, if_pos d]
        unfold f_X10_readStep_24
        rw [C_refusePart b1.2.2.2.2.2.1, Option.bind_some, b3]
      · rw [hR]
        unfold f_X12_readStep_55
        rw [if_pos h4, if_neg (by omega), R_fails h4, Option.bind_some, b4]
        unfold f_X12_readStep_76
        rw [u2_e, if_neg (by omega)]
    have w0 : 0 ≤ w := by omega
    have w6 : w ≤ 6 := by omega
    rw [if_neg d, if_pos w6] at hC
    have hR' : f_X12_readStep (i : Int) r = if w = 2 then (f_X12_readStep_102 (i : Int) ((4 * (48 + i) : Nat) : Int) w (u2 r1 773 (4 * (48 + i)) w)) else (if w = 3 then (f_X12_readStep_102 (i : Int) ((4 * (48 + i) : Nat) : Int) w (u2 r1 773 (4 * (48 + i)) w)) else (f_X12_readStep_119 ((4 * (48 + i) : Nat) : Int) w (u2 r1 773 (4 * (48 + i)) w))) := by
      rw [hR]
      unfold f_X12_readStep_55
      rw [if_pos h4, if_pos (by omega)]
      unfold f_X12_readStep_76
      rw [if_pos h4, if_pos (by omega), Int.toNat_natCast]
    have mr2 : FM (fun x j => SRE x j ∨ (x = 773 ∧ 4 * (48 + i) ≤ j ∧ j ≤ 4 * (48 + i) + 3) ∨ (x = 775 ∧ j = 48 + i)) r (u2 r1 773 (4 * (48 + i)) w) := mr.u (Or.inr (Or.inl ⟨rfl, by omega, by omega⟩))
    have hA2 : TA c1 (u2 r1 773 (4 * (48 + i)) w) s := b1.other (u2_ne (by omega)) (u2_ne (by omega))
    have z0 : (u2 r1 773 (4 * (48 + i)) w) 773 (4 * (48 + i)) = w := u2_e
    have z1 : (u2 r1 773 (4 * (48 + i)) w) 773 (4 * (48 + i) + 1) = -1 := (u2_i (by omega)).trans e1
    have z2 : (u2 r1 773 (4 * (48 + i)) w) 773 (4 * (48 + i) + 2) = -1 := (u2_i (by omega)).trans e2
    have z3 : (u2 r1 773 (4 * (48 + i)) w) 773 (4 * (48 + i) + 3) = -1 := (u2_i (by omega)).trans e3
    generalize u2 r1 773 (4 * (48 + i)) w = r2 at *
    by_cases ask : w = 2 ∨ w = 3
    · obtain ⟨who, c2, r3, s', q2, n1, n2, n3, n4, nq, n5⟩ := T_word hA2
      have hA4 : ((∃ s, TA c2 (u2 r3 775 (48 + i) (r3 758 6)) s ∧ p ≤ s) ∧ (w = 2 ∨ w = 3 → (u2 r3 775 (48 + i) (r3 758 6)) 775 (48 + i) = who ∧ 0 < who ∧ who < 4611686018427387904 ∧ NB who)) ∨ ∃ f, TX c2 (u2 r3 775 (48 + i) (r3 758 6)) f := by
        rcases n5 with ⟨a1, a2, a3, a4, a5, k, a6, a7, a8⟩ | ⟨a1, a2⟩
        · have hw1 := a8.in
          have hw2 := a8.lt a7
          exact Or.inl ⟨⟨s', a1.other (u2_ne (by omega)) (u2_ne (by omega)), by omega⟩, fun _ => ⟨by rw [u2_e, a2], by omega, by omega, a8.nb a7⟩⟩
        · exact Or.inr ⟨_, a1.other (u2_ne (by omega)) (u2_ne (by omega))⟩
      have mr4 : FM (fun x j => SRE x j ∨ (x = 773 ∧ 4 * (48 + i) ≤ j ∧ j ≤ 4 * (48 + i) + 3) ∨ (x = 775 ∧ j = 48 + i)) r (u2 r3 775 (48 + i) (r3 758 6)) := (mr2.trans (n4.mono (fun x j hx => Or.inl hx))).u (Or.inr (Or.inr ⟨rfl, rfl⟩))
      have y : ∀ j, (u2 r3 775 (48 + i) (r3 758 6)) 773 j = r2 773 j := fun j => by rw [u2_c (by omega), n4 773 j (by unfold SRE; omega)]
      have hRw : f_X12_readStep (i : Int) r = f_X12_readStep_119 ((4 * (48 + i) : Nat) : Int) w (u2 r3 775 (48 + i) (r3 758 6)) := by
        have e : f_X12_readStep_102 (i : Int) ((4 * (48 + i) : Nat) : Int) w r2 = f_X12_readStep_119 ((4 * (48 + i) : Nat) : Int) w (u2 r3 775 (48 + i) (r3 758 6)) := by
          unfold f_X12_readStep_102
          rw [n2, Option.bind_some, zid (x := 48 + (i : Int)) (by omega) (by omega), if_pos (by omega), show (48 + (i : Int)).toNat = 48 + i from by omega]
        rw [hR', e]
        by_cases k : w = 2
        · rw [if_pos k]
        · rw [if_neg k, if_pos (ask.resolve_left k)]
      have hCw : f_X10_readStep st c = f_X10_readStep_58 st w who 0 0 0 w st c2 := by
        have e : f_X10_readStep_47 st w 0 0 0 w st c1 = f_X10_readStep_58 st w who 0 0 0 w st c2 := by
          unfold f_X10_readStep_47
          rw [n1, Option.bind_some]
        rw [hC, e]
        by_cases k : w = 2
        · rw [if_pos k]
        · rw [if_neg k, if_pos (ask.resolve_left k)]
      obtain ⟨c', r', k1, k2, k3, k4, k5⟩ := T_fin (q := p) hs hi w0 w6 hA4 ((y _).trans z0) ((y _).trans z1) ((y _).trans z2) ((y _).trans z3)
      exact ⟨c', r', hCw.trans k1, hRw.trans k2, (mc.trans (n3.mono (fun x j hx => Or.inl hx))).trans k3, mr4.trans (k4.mono (fun x j hx => hx.imp id (fun z => Or.inl ⟨z.1, by omega, z.2.2⟩))), k5⟩
    · obtain ⟨c', r', k1, k2, k3, k4, k5⟩ := T_fin (q := p) (st := st) (w := w) (who := 0) hs hi w0 w6 (Or.inl ⟨⟨s, hA2, b5⟩, fun z => absurd z ask⟩) z0 z1 z2 z3
      exact ⟨c', r', by rw [hC, if_neg (fun z => ask (Or.inl z)), if_neg (fun z => ask (Or.inr z)), k1], by rw [hR', if_neg (fun z => ask (Or.inl z)), if_neg (fun z => ask (Or.inr z)), k2], mc.trans k3, mr2.trans (k4.mono (fun x j hx => hx.imp id (fun z => Or.inl ⟨z.1, by omega, z.2.2⟩))), k5⟩
  · have hn4 : r1 758 4 ≠ -1 := by
      have := b1.2.2.2.2
      omega
    have hx : z_wno x 16 = -1 := by
      rw [b2]
      decide
    rw [hx, if_pos (by omega)] at hC
    rw [g2, Option.bind_some, if_neg hn4] at hR
    refine ⟨c1, r1, ?_, ?_, mc, mr, Or.inr ⟨_, b1⟩⟩
    · rw [hC]
      unfold f_X10_readStep_24
      rw [C_refusePartX (by have := b1.2.2.2; omega), Option.bind_some]
    · rw [hR]
      unfold f_X12_readStep_55 f_X12_readStep_76
      rw [if_neg hn4, if_neg hn4]
end S_ST
