-- a script told: both sides; the whole of text
section S_T2
variable {σ σ' r K : Nat → Nat → Int} {b v1 : Int} {a N : Nat} {stp : Nat → Nat → QS} {len : Nat → Nat}
theorem R_text89 (hN : N < 4) : ∀ (m k v : Nat) (s : Nat → Nat → Int), v + m = 12 → m < k → s 758 30 = N → (∀ j, j < v → s 775 (12 * N + j) = r 775 (48 + j)) → FM (fun x j => x = 775 ∧ 12 * N ≤ j ∧ j < 12 * N + 12) r s → ∃ r', f_X12_text_89 k (v : Int) s = some ((N : Int), r') ∧ (∀ j, j < 12 → r' 775 (12 * N + j) = r 775 (48 + j)) ∧ r' 774 N = r 774 4 ∧ r' 758 30 = N + 1 ∧ FM (fun x j => (x = 775 ∧ 12 * N ≤ j ∧ j < 12 * N + 12) ∨ (x = 774 ∧ j = N) ∨ (x = 758 ∧ j = 30)) r r' := by
  intro m
  induction m with
  | zero =>
    intro k v s hv hk h3 hs hf
    obtain ⟨k, rfl⟩ : ∃ j, k = j + 1 := ⟨k - 1, by omega⟩
    have e : v = 12 := by omega
    subst e
    have hA : FM (fun x j => (x = 775 ∧ 12 * N ≤ j ∧ j < 12 * N + 12) ∨ (x = 774 ∧ j = N) ∨ (x = 758 ∧ j = 30)) r s := hf.mono (fun x j q => Or.inl q)
    refine ⟨u2 (u2 s 774 N (s 774 4)) 758 30 ((N : Int) + 1), ?_, fun j hj => ?_, ?_, u2_e, (hA.u (Or.inr (Or.inl ⟨rfl, rfl⟩))).u (Or.inr (Or.inr ⟨rfl, rfl⟩))⟩
    · have e1 : (s 758 30).toNat = N := by omega
      rw [f_X12_text_89, if_pos (by omega), if_pos (by omega), e1, u2_ne (show (758 : Nat) ≠ 774 by omega), h3, zid (x := (N : Int) + 1) (by omega) (by omega), u2_e, zid (by omega) (by omega), show (N : Int) + 1 - 1 = N from by omega]
    · rw [u2_ne (by omega), u2_ne (by omega)]
      exact hs j (by omega)
    · rw [u2_c (by omega), u2_e, hf 774 4 (by omega)]
  | succ m ih =>
    intro k v s hv hk h3 hs hf
    obtain ⟨k, rfl⟩ : ∃ j, k = j + 1 := ⟨k - 1, by omega⟩
    have e1 : (48 + (v : Int)).toNat = 48 + v := by omega
    have e2 : (12 * (N : Int) + (v : Int)).toNat = 12 * N + v := by omega
    obtain ⟨r', g1, g2⟩ := ih k (v + 1) (u2 s 775 (12 * N + v) (s 775 (48 + v))) (by omega) (by omega) ((u2_ne (σ := s) (show (758 : Nat) ≠ 775 by omega) ▸ h3)) (fun j hj => by
      by_cases e : j = v
      · rw [e, u2_e]
        exact hf 775 (48 + v) (by omega)
      · rw [u2_i (by omega)]
        exact hs j (by omega)) (hf.u ⟨rfl, by omega, by omega⟩)
    refine ⟨r', ?_, g2⟩
    rw [f_X12_text_89, if_neg (by omega), h3, zid (x := 48 + (v : Int)) (by omega) (by omega), zid (x := 12 * (N : Int)) (by omega) (by omega), zid (x := 12 * (N : Int) + (v : Int)) (by omega) (by omega), if_pos (by omega), if_pos (by omega), zid (x := (v : Int) + 1) (by omega) (by omega), e1, e2, show (v : Int) + 1 = ((v + 1 : Nat) : Int) from by omega, g1]
theorem R_text51 (hN : N < 4) : ∀ (m k v : Nat) (s : Nat → Nat → Int), v + m = 48 → m < k → s 758 30 = N → (∀ j, j < v → s 773 (48 * N + j) = r 773 (192 + j)) → FM (fun x j => x = 773 ∧ 48 * N ≤ j ∧ j < 48 * N + 48) r s → ∃ r', f_X12_text_51 k (v : Int) s = some ((N : Int), r') ∧ (∀ j, j < 48 → r' 773 (48 * N + j) = r 773 (192 + j)) ∧ (∀ j, j < 12 → r' 775 (12 * N + j) = r 775 (48 + j)) ∧ r' 774 N = r 774 4 ∧ r' 758 30 = N + 1 ∧ FM (fun x j => (x = 773 ∧ 48 * N ≤ j ∧ j < 48 * N + 48) ∨ (x = 775 ∧ 12 * N ≤ j ∧ j < 12 * N + 12) ∨ (x = 774 ∧ j = N) ∨ (x = 758 ∧ j = 30)) r r' := by
  intro m
  induction m with
  | zero =>
    intro k v s hv hk h3 hs hf
    obtain ⟨k, rfl⟩ : ∃ j, k = j + 1 := ⟨k - 1, by omega⟩
    have e : v = 48 := by omega
    subst e
    obtain ⟨r', g1, g2, g3, g4, g5⟩ := R_text89 (r := s) hN 12 100000 0 s (by omega) (by omega) h3 (fun j hj => by omega) FM.refl
    refine ⟨r', ?_, fun j hj => ?_, fun j hj => ?_, ?_, g4, (hf.mono (fun x j q => Or.inl q)).trans (g5.mono (fun x j q => Or.inr q))⟩
    · rw [f_X12_text_51, if_pos (by omega)]
      exact g1
    · rw [g5 773 _ (by omega)]
      exact hs j (by omega)
    · rw [g2 j hj]
      exact hf 775 _ (by omega)
    · rw [g3]
      exact hf 774 4 (by omega)
  | succ m ih =>
    intro k v s hv hk h3 hs hf
    obtain ⟨k, rfl⟩ : ∃ j, k = j + 1 := ⟨k - 1, by omega⟩
    have e1 : (192 + (v : Int)).toNat = 192 + v := by omega
    have e2 : (48 * (N : Int) + (v : Int)).toNat = 48 * N + v := by omega
    obtain ⟨r', g1, g2⟩ := ih k (v + 1) (u2 s 773 (48 * N + v) (s 773 (192 + v))) (by omega) (by omega) ((u2_ne (σ := s) (show (758 : Nat) ≠ 773 by omega) ▸ h3)) (fun j hj => by
      by_cases e : j = v
      · rw [e, u2_e]
        exact hf 773 (192 + v) (by omega)
      · rw [u2_i (by omega)]
        exact hs j (by omega)) (hf.u ⟨rfl, by omega, by omega⟩)
    refine ⟨r', ?_, g2⟩
    rw [f_X12_text_51, if_neg (by omega), h3, zid (x := 192 + (v : Int)) (by omega) (by omega), zid (x := 48 * (N : Int)) (by omega) (by omega), zid (x := 48 * (N : Int) + (v : Int)) (by omega) (by omega), if_pos (by omega), if_pos (by omega), zid (x := (v : Int) + 1) (by omega) (by omega), e1, e2, show (v : Int) + 1 = ((v + 1 : Nat) : Int) from by omega, g1]
def SXR : Nat → Nat → Prop := fun x j => SSR x j ∨ (x = 758 ∧ (j = 0 ∨ j = 2 ∨ j = 30)) ∨ x = 773 ∨ x = 774 ∨ x = 775
set_option maxHeartbeats 1000000 in
theorem G_text1 (h : GV σ b) : ∃ r σ1 σ2, f_X11_text 1 σ = some (r, σ1) ∧ f_X12_text 1 σ1 = some (r, σ2) ∧ GV σ2 b := by
  have h' := h
  obtain ⟨⟨N, stp, len, hG, hT, hQ, hB⟩, hU⟩ := h
  have ha := hG.cell.2.2
  have hN := hQ.2.2.1
  by_cases d4 : N = 4
  · refine ⟨-1, σ, u2 σ 758 0 0, ?_, ?_, h'.keep (FM.refl.u (by unfold SCR; omega))⟩
    · rw [f_X11_text_e]
      unfold f_X11_takeScript
      rw [if_neg (show ¬ (1 : Int) = 0 by omega), if_pos rfl, hQ.1, if_pos (by omega), Option.bind_some]
    · unfold f_X12_text
      rw [R_isIn_y (by omega) (by omega), Option.bind_some, if_neg (show ¬ (1 : Int) = 0 by omega), if_pos rfl, u2_i (show (30 : Nat) ≠ 0 by omega), hQ.2.1, if_pos (by omega)]
  obtain ⟨f, c', g1, g2, g3⟩ := J_script (a := 43 + 26 * N) hT (by omega)
  have gr : ∀ c, 758 ≤ c → c' c = σ c := fun c hc => funext fun j => g2 c j (by unfold SSC SRD; omega)
  have cl : f_X11_text 1 σ = if f = -1 then some (z_w (((u2 (u2 c' 2 1 0) 0 5 (z_w (((u2 c' 2 1 0) 0 5) + 1))) 0 5) - 1), u2 (u2 c' 2 1 0) 0 5 (z_w (((u2 c' 2 1 0) 0 5) + 1))) else some (-1, c') := by
    rw [f_X11_text_e]
    unfold f_X11_takeScript
    rw [if_neg (show ¬ (1 : Int) = 0 by omega), if_pos rfl, hQ.1, if_neg (by omega), C_spare hQ, Option.bind_some, g1, Option.bind_some]
    by_cases hf : f = -1
    · rw [if_pos hf, Option.bind_some]
    · rw [if_neg hf, Option.bind_some]
  have rf : ∀ s : Nat → Nat → Int, s 758 30 = N → f_X12_text 1 s = f_X12_text_28 1 (u2 s 758 0 0) := fun s hs => by
    unfold f_X12_text
    rw [R_isIn_y (by omega) (by omega), Option.bind_some, if_neg (show ¬ (1 : Int) = 0 by omega), if_pos rfl, u2_i (show (30 : Nat) ≠ 0 by omega), hs, if_neg (by omega)]
  by_cases hf : f = -1
  · rw [if_pos hf, u2_c (show (0 : Nat) ≠ 2 by omega), g2 0 5 (by unfold SSC SRD; omega), hQ.1, zid (x := (N : Int) + 1) (by omega) (by omega), u2_e, zid (by omega) (by omega), show (N : Int) + 1 - 1 = N from by omega] at cl
    have m05 : (u2 (u2 c' 2 1 0) 0 5 ((N : Int) + 1)) 0 5 = (N : Int) + 1 := u2_e
    have m21 : (u2 (u2 c' 2 1 0) 0 5 ((N : Int) + 1)) 2 1 = 0 := by rw [u2_c (by omega), u2_e]
    have mo : ∀ c, c ≠ 0 → c ≠ 2 → (u2 (u2 c' 2 1 0) 0 5 ((N : Int) + 1)) c = c' c := fun c c0 c2 => by rw [u2_ne c0, u2_ne c2]
    have mm : FM (SCX (σ 0 2).toNat) σ (u2 (u2 c' 2 1 0) 0 5 ((N : Int) + 1)) := (((g2.mono (fun c j q => by unfold SSC SRD at q; unfold SCX; omega)).u (Or.inr (Or.inr (Or.inl rfl)))).u (Or.inl ⟨rfl, by omega, by omega, by omega⟩))
    generalize u2 (u2 c' 2 1 0) 0 5 ((N : Int) + 1) = σ1 at *
    have mr : ∀ c, 758 ≤ c → σ1 c = σ c := fun c hc => by rw [mo c (by omega) (by omega), gr c hc]
    obtain ⟨r', k1, k2, k3, k4, k5, k6⟩ := g3 (u2 (u2 σ1 758 0 0) 758 0 0) (by rw [u2_i (by omega), u2_i (by omega), mr 758 (by omega)]) (by rw [u2_ne (by omega), u2_ne (by omega), mr 759 (by omega)])
    rcases k6 with ⟨_, ln, st, l1, l2, q1, q2, q3, q4⟩ | q
    rotate_left
    · exact absurd hf q
    have e30 : r' 758 30 = N := by rw [k2 758 30 (by unfold SSR SRE; omega), u2_i (by omega), u2_i (by omega), mr 758 (by omega)]; exact hQ.2.1
    obtain ⟨r4, w1, w2, w3, w4, w5, w6⟩ := R_text51 (r := u2 r' 758 2 0) (N := N) (by omega) 48 100000 0 (u2 r' 758 2 0) (by omega) (by omega) ((u2_i (by omega)).trans e30) (fun j hj => by omega) FM.refl
    have w1' : f_X12_text_51 100000 0 (u2 r' 758 2 0) = some ((N : Int), r4) := w1
    have hA : FM SXR σ1 (u2 (u2 σ1 758 0 0) 758 0 0) := (FM.refl.u (Or.inr (Or.inl ⟨rfl, Or.inl rfl⟩))).u (Or.inr (Or.inl ⟨rfl, Or.inl rfl⟩))
    have hBB : FM SXR (u2 (u2 σ1 758 0 0) 758 0 0) r' := k2.mono (fun c j q => Or.inl q)
    have hC : FM SXR r' (u2 r' 758 2 0) := FM.refl.u (Or.inr (Or.inl ⟨rfl, Or.inr (Or.inl rfl)⟩))
    have hE : FM SXR (u2 r' 758 2 0) r4 := w6.mono (fun c j q => Or.inr (by omega))
    have hall : FM SXR σ1 r4 := ((hA.trans hBB).trans hC).trans hE
    have lo : ∀ c, c < 758 → r4 c = σ1 c := fun c hc => funext fun j => hall c j (by unfold SXR SSR SRE; omega)
    have r2 : r4 758 2 = 0 := by rw [w6 758 2 (by omega), u2_e]
    -- the older ones, below the spare
    have old : ∀ c j, (c = 773 ∧ j < 48 * N) ∨ (c = 775 ∧ j < 12 * N) ∨ (c = 774 ∧ j < N) → r4 c j = σ c j := fun c j hj => by
      rw [w6 c j (by omega), u2_ne (by omega), k2 c j (by unfold SSR SRE; omega), u2_ne (by omega), u2_ne (by omega), mr c (by omega)]
    have hsl := hQ.slots (σ' := r4) (fun c c1 c2 => by
      rw [lo c (by omega), mo c (by omega) (by omega)]
      exact funext fun j => g2 c j (by unfold SSC SRD; omega)) old
    have new1 : QC r4 (43 + 26 * N) st ln := q1.frame l2 (fun c c1 c2 => by rw [lo c (by omega), mo c (by omega) (by omega)])
    have new2 : QR r4 N st ln := by
      refine ⟨by rw [w4, u2_ne (by omega)]; exact q2, fun i hi => ?_⟩
      have t := q3 i hi
      unfold SR1 at t
      obtain ⟨t1, t2, t3, t4, t5⟩ := t
      have y : ∀ j, j < 48 → r4 773 (48 * N + j) = r' 773 (192 + j) := fun j hj => by rw [w2 j hj, u2_ne (by omega)]
      have y5 : ∀ j, j < 12 → r4 775 (12 * N + j) = r' 775 (48 + j) := fun j hj => by rw [w3 j hj, u2_ne (by omega)]
      rw [show 4 * (12 * N + i) = 48 * N + 4 * i from by omega, show 48 * N + 4 * i + 1 = 48 * N + (4 * i + 1) from by omega, show 48 * N + 4 * i + 2 = 48 * N + (4 * i + 2) from by omega, show 48 * N + 4 * i + 3 = 48 * N + (4 * i + 3) from by omega, y _ (by omega), y _ (by omega), y _ (by omega), y _ (by omega), y5 _ (by omega)]
      rw [show 4 * (48 + i) = 192 + 4 * i from by omega] at t1 t2 t3 t4
      exact ⟨t1, t2, t3, t4, t5⟩
    have hQ' : QV r4 (N + 1) (fun v => if v = N then st else stp v) (fun v => if v = N then ln else len v) := by
      refine ⟨by rw [lo 0 (by omega), m05]; omega, by rw [w5]; omega, by omega, fun v hv => ?_⟩
      by_cases e : v = N
      · simp only [e, if_pos]
        exact ⟨⟨l1, l2⟩, new1, new2, q4⟩
      · simp only [if_neg e]
        exact hsl v (by omega)
    refine ⟨N, σ1, r4, cl, ?_, h'.keepX (mm.trans (hall.mono (fun c j q => by unfold SXR SSR SRE at q; unfold SCX; omega))) ⟨by rw [lo 2 (by omega), m21, r2], by omega, by omega, fun j hj => by rw [r2] at hj; omega⟩ ⟨_, _, _, hQ'⟩⟩
    rw [rf σ1 (by rw [mr 758 (by omega)]; exact hQ.2.1)]
    unfold f_X12_text_28
    rw [T_fault1 k1, Option.bind_some, if_pos (show r' 758 4 = -1 by rw [k5, hf]), if_pos rfl]
    exact w1'
  · rw [if_neg hf] at cl
    obtain ⟨r', k1, k2, k3, k4, k5, k6⟩ := g3 (u2 (u2 c' 758 0 0) 758 0 0) (by rw [u2_i (by omega), u2_i (by omega), gr 758 (by omega)]) (by rw [u2_ne (by omega), u2_ne (by omega), gr 759 (by omega)])
    have mm : FM (fun x j => SSR x j ∨ (x = 758 ∧ j = 0)) c' (u2 (u2 c' 758 0 0) 758 0 0) := (FM.refl.u (Or.inr ⟨rfl, rfl⟩)).u (Or.inr ⟨rfl, rfl⟩)
    refine ⟨-1, c', r', cl, ?_, h'.spare hQ g2 (mm.trans (k2.mono (fun c j hc => Or.inl hc)))⟩
    rw [rf c' (by rw [gr 758 (by omega)]; exact hQ.2.1)]
    unfold f_X12_text_28
    rw [T_fault1 k1, Option.bind_some, if_neg (show ¬ r' 758 4 = -1 by rw [k5]; exact hf)]
theorem G_text (h : GV σ b) (hb : 0 ≤ b) : ∃ r σ1 σ2, f_X11_text v1 σ = some (r, σ1) ∧ f_X12_text v1 σ1 = some (r, σ2) ∧ GV σ2 b := by
  by_cases d0 : v1 = 0
  · subst d0
    exact G_text0 h hb
  by_cases d1 : v1 = 1
  · subst d1
    exact G_text1 h
  refine ⟨-1, σ, u2 σ 758 0 0, ?_, ?_, h.keep (FM.refl.u (by unfold SCR; omega))⟩
  · rw [f_X11_text_e]
    rw [if_neg d0, if_neg d1]
  · unfold f_X12_text
    rw [R_isIn_n (by omega), Option.bind_some, if_pos rfl]
/-- what is fed -/
theorem G_feed {v2 v3 v4 v5 : Int} (h : GV σ b) : ∃ r σ1 σ2, f_X11_feed v1 v2 v3 v4 v5 σ = some (r, σ1) ∧ f_X12_feed v1 v2 v3 v4 v5 σ1 = some (r, σ2) ∧ GV σ2 b := by
  have h' := h
  obtain ⟨⟨N, stp, len, hG, hT, hQ, hB⟩, hU⟩ := h
  have ha := hG.cell.2.2
  obtain ⟨x, c', r1, g1, g2, g3, g4, g5⟩ := T_feed (c := σ) (r := σ) (v1 := v1) (v2 := v2) (v3 := v3) (v4 := v4) (v5 := v5) (hT.frame rfl rfl (u2_i (by omega)) (u2_ne (by omega)))
  have gr : ∀ c, 758 ≤ c → c' c = σ c := fun c hc => funext fun j => g4 c j (by unfold STC; omega)
  obtain ⟨x2, c2, r2, k1, k2, k3, k4, k5⟩ := T_feed (c := σ) (r := c') (v1 := v1) (v2 := v2) (v3 := v3) (v4 := v4) (v5 := v5) (hT.frame rfl rfl (by rw [u2_i (by omega), gr 758 (by omega)]) (by rw [u2_ne (by omega), gr 759 (by omega)]))
  rw [g1] at k1
  obtain ⟨e1, e2⟩ := Prod.mk.inj (Option.some.inj k1)
  rw [← e2] at k3
  rw [← e1] at k2
  have lo : ∀ c j, c ≠ 758 → c ≠ 759 → r2 c j = c' c j := fun c j h1 h2 => k5 c j (by unfold STR; omega)
  refine ⟨x, c', r2, g1, k2, h'.keepX ((g4.mono (fun c j q => by unfold STC at q; unfold SCX; omega)).trans (k5.mono (fun c j q => by unfold STR at q; unfold SCX; omega))) (k3.frame (lo 2 1 (by omega) (by omega)) (funext fun j => lo 3 j (by omega) (by omega)) rfl rfl) ⟨N, stp, len, hQ.frame ((lo 0 5 (by omega) (by omega)).trans (g4 0 5 (by unfold STC; omega))) ((k5 758 30 (by unfold STR; omega)).trans (g4 758 30 (by unfold STC; omega))) (fun c _ _ => funext fun j => (lo c j (by omega) (by omega)).trans (g4 c j (by unfold STC; omega))) (fun c _ _ => funext fun j => (lo c j (by omega) (by omega)).trans (g4 c j (by unfold STC; omega)))⟩⟩
theorem G_end (h : GV σ b) : ∃ r σ1 σ2, f_X11_end v1 σ = some (r, σ1) ∧ f_X12_end v1 σ1 = some (r, σ2) ∧ GV σ2 b := by
  have h' := h
  obtain ⟨⟨N, stp, len, hG, hT, hQ, hB⟩, hU⟩ := h
  have ha := hG.cell.2.2
  obtain ⟨x, c', r1, g1, g2, g3, g4, g5⟩ := T_end (c := σ) (r := σ) (v1 := v1) (hT.frame rfl rfl (u2_i (by omega)) (u2_ne (by omega)))
  have gr : ∀ c, 758 ≤ c → c' c = σ c := fun c hc => funext fun j => g4 c j (by unfold STC; omega)
  obtain ⟨x2, c2, r2, k1, k2, k3, k4, k5⟩ := T_end (c := σ) (r := c') (v1 := v1) (hT.frame rfl rfl (by rw [u2_i (by omega), gr 758 (by omega)]) (by rw [u2_ne (by omega), gr 759 (by omega)]))
  rw [g1] at k1
  obtain ⟨e1, e2⟩ := Prod.mk.inj (Option.some.inj k1)
  rw [← e2] at k3
  rw [← e1] at k2
  have lo : ∀ c j, c ≠ 758 → c ≠ 759 → r2 c j = c' c j := fun c j h1 h2 => k5 c j (by unfold STR; omega)
  refine ⟨x, c', r2, g1, k2, h'.keepX ((g4.mono (fun c j q => by unfold STC at q; unfold SCX; omega)).trans (k5.mono (fun c j q => by unfold STR at q; unfold SCX; omega))) (k3.frame (lo 2 1 (by omega) (by omega)) (funext fun j => lo 3 j (by omega) (by omega)) rfl rfl) ⟨N, stp, len, hQ.frame ((lo 0 5 (by omega) (by omega)).trans (g4 0 5 (by unfold STC; omega))) ((k5 758 30 (by unfold STR; omega)).trans (g4 758 30 (by unfold STC; omega))) (fun c _ _ => funext fun j => (lo c j (by omega) (by omega)).trans (g4 c j (by unfold STC; omega))) (fun c _ _ => funext fun j => (lo c j (by omega) (by omega)).trans (g4 c j (by unfold STC; omega)))⟩⟩
end S_T2
