-- a chip's fault, a chip told: both sides in one memory
section S_NC
variable {σ K : Nat → Nat → Int} {a N : Nat} {stp : Nat → Nat → QS} {len : Nat → Nat} {b f : Int}
/-- the class's run and the reference's, on what the class left -/
theorem J_chip (hT : TPR σ σ) (ha : 3 < a) (ha2 : a + 19 ≤ 42) : ∃ f c', f_X10_readChip a σ = some (f, c') ∧ FM (SLC a) σ c' ∧ ∀ r : Nat → Nat → Int, r 758 2 = σ 758 2 → r 759 = σ 759 → ∃ r', f_X12_readChip (u2 (u2 r 758 3 0) 758 4 (-1)) = some r' ∧ FM SLR r r' ∧ CE c' r' a f := by
  obtain ⟨f, c', r', g1, g2, g3, g4, g5⟩ := T_chip hT ha
  refine ⟨f, c', g1, g3, fun r h2 h9 => ?_⟩
  obtain ⟨f2, c2, r2, k1, k2, k3, k4, k5⟩ := T_chip (c := σ) (r := r) (hT.frame rfl rfl h2 h9) ha
  rw [g1] at k1
  obtain ⟨e1, e2⟩ := Prod.mk.inj (Option.some.inj k1)
  rw [← e1, ← e2] at k5
  exact ⟨r2, k2, k4, k5⟩
theorem SLC.scr {a : Nat} (ha : a = 4 ∧ (σ 0 2).toNat = 23 ∨ a = 23 ∧ (σ 0 2).toNat = 4) : ∀ c j, SLC a c j → SCR (σ 0 2).toNat c j := fun c j h => by unfold SLC SRD at h; unfold SCR; omega
theorem SLR.scr : ∀ c j, (SLR c j ∨ (c = 758 ∧ j = 0)) → SCR (σ 0 2).toNat c j := fun c j h => by unfold SLR SRE at h; unfold SCR; omega
theorem T_fault0 {r r' : Nat → Nat → Int} (h : f_X12_readChip (u2 (u2 (u2 r 758 0 0) 758 3 0) 758 4 (-1)) = some r') : f_X12_fault 0 r = some (r' 758 4, r') := by
  unfold f_X12_fault
  rw [R_isIn_y (by omega) (by omega), Option.bind_some, if_neg (show ¬ (1 : Int) = 0 by omega), if_pos rfl, h, Option.bind_some]
theorem G_fault0 (h : GV σ b) : ∃ r σ1 σ2, f_X11_fault 0 σ = some (r, σ1) ∧ f_X12_fault 0 σ1 = some (r, σ2) ∧ GV σ2 b := by
  have h' := h
  obtain ⟨⟨N, stp, len, hG, hT, hB⟩, hU⟩ := h
  obtain ⟨x1, x2, x3⟩ := hG.cell
  obtain ⟨f, c', g1, g2, g3⟩ := J_chip (a := (σ 0 3).toNat) hT (by omega) (by omega)
  have gr : ∀ c, 758 ≤ c → c' c = σ c := fun c hc => funext fun j => g2 c j (by unfold SLC SRD; omega)
  obtain ⟨r', k1, k2, k3⟩ := g3 (u2 c' 758 0 0) (by rw [u2_i (by omega), gr 758 (by omega)]) (by rw [u2_ne (by omega), gr 759 (by omega)])
  refine ⟨f, c', r', ?_, ?_, h'.keep2 g2 ((FM.refl.u (Or.inr ⟨rfl, rfl⟩)).trans (k2.mono (fun c j hc => Or.inl hc))) (SLC.scr (by omega)) SLR.scr⟩
  · unfold f_X11_fault
    rw [if_pos rfl, if_pos x2, g1, Option.bind_some]
  · rw [T_fault0 k1, k3.2.2.1]
/-- the class's state begun anew -/
theorem C_sbegin {a : Nat} (ha : 0 < a) : ∃ σ', f_X7_begin a σ = some σ' ∧ (∀ j, j ≤ 6 → σ' a j = 0) ∧ (∀ j, j < 4 → σ' (a + 1) j = 0 ∧ σ' (a + 2) j = 0 ∧ σ' (a + 3) j = 0 ∧ σ' (a + 4) j = 0) ∧ (∀ j, j < 3 → σ' (a + 5) j = 0 ∧ σ' (a + 6) j = 0 ∧ σ' (a + 7) j = 0) ∧ (∀ j, j < 6 → σ' (a + 8) j = 0) ∧ FM (fun c _ => a ≤ c ∧ c ≤ a + 8) σ σ' := by
  have s112 : ∀ (m k : Nat) (v : Int) (s : Nat → Nat → Int), 0 ≤ v → v + m = 6 → m < k → (∀ j : Nat, (j : Int) < v → s (a + 8) j = 0) → ∃ σ', f_X7_begin_112 k a v s = some σ' ∧ (∀ j, j < 6 → σ' (a + 8) j = 0) ∧ FM (fun c _ => c = a + 8) s σ' := by
    intro m
    induction m with
    | zero =>
      intro k v s v0 hv hk hs
      obtain ⟨k, rfl⟩ : ∃ j, k = j + 1 := ⟨k - 1, by omega⟩
      exact ⟨s, by rw [f_X7_begin_112, if_pos (by omega)], fun j hj => hs j (by omega), FM.refl⟩
    | succ m ih =>
      intro k v s v0 hv hk hs
      obtain ⟨k, rfl⟩ : ∃ j, k = j + 1 := ⟨k - 1, by omega⟩
      obtain ⟨σ', g1, g2, g3⟩ := ih k (v + 1) (u2 s (a + 8) v.toNat 0) (by omega) (by omega) (by omega) (fun j hj => by
        by_cases e : j = v.toNat
        · rw [e, u2_e]
        · rw [u2_i e]
          exact hs j (by omega))
      refine ⟨σ', ?_, g2, FM.trans (S := fun c _ => c = a + 8) (FM.refl.u rfl) g3⟩
      rw [f_X7_begin_112, if_neg (by omega), if_pos (by omega), zid (x := v + 1) (by omega) (by omega), g1]
  have s78 : ∀ (m k : Nat) (v : Int) (s : Nat → Nat → Int), 0 ≤ v → v + m = 3 → m < k → (∀ j : Nat, (j : Int) < v → s (a + 5) j = 0 ∧ s (a + 6) j = 0 ∧ s (a + 7) j = 0) → ∃ σ', f_X7_begin_78 k a v s = some σ' ∧ (∀ j, j < 3 → σ' (a + 5) j = 0 ∧ σ' (a + 6) j = 0 ∧ σ' (a + 7) j = 0) ∧ (∀ j, j < 6 → σ' (a + 8) j = 0) ∧ FM (fun c _ => a + 5 ≤ c ∧ c ≤ a + 8) s σ' := by
    intro m
    induction m with
    | zero =>
      intro k v s v0 hv hk hs
      obtain ⟨k, rfl⟩ : ∃ j, k = j + 1 := ⟨k - 1, by omega⟩
      obtain ⟨σ', g1, g2, g3⟩ := s112 6 100000 0 s (by omega) (by omega) (by omega) (fun j hj => by omega)
      refine ⟨σ', by rw [f_X7_begin_78, if_pos (by omega), g1], fun j hj => ?_, g2, g3.mono (fun c j hc => by omega)⟩
      rw [g3 (a + 5) j (by omega), g3 (a + 6) j (by omega), g3 (a + 7) j (by omega)]
      exact hs j (by omega)
    | succ m ih =>
      intro k v s v0 hv hk hs
      obtain ⟨k, rfl⟩ : ∃ j, k = j + 1 := ⟨k - 1, by omega⟩
      obtain ⟨σ', g1, g2, g3, g4⟩ := ih k (v + 1) (u2 (u2 (u2 s (a + 5) v.toNat 0) (a + 6) v.toNat 0) (a + 7) v.toNat 0) (by omega) (by omega) (by omega) (fun j hj => by
        by_cases e : j = v.toNat
        · rw [e]
          refine ⟨?_, ?_, ?_⟩
          · rw [u2_c (by omega), u2_c (by omega), u2_e]
          · rw [u2_c (by omega), u2_e]
          · rw [u2_e]
        · rw [u2_i e, u2_i e, u2_i e, u2_i e, u2_i e, u2_i e, u2_i e, u2_i e, u2_i e]
          exact hs j (by omega))
      refine ⟨σ', ?_, g2, g3, (((FM.refl.u (by omega)).u (by omega)).u (by omega)).trans g4⟩
      rw [f_X7_begin_78, if_neg (by omega), if_pos (by omega), if_pos (by omega), if_pos (by omega), zid (x := v + 1) (by omega) (by omega), g1]
  have s37 : ∀ (m k : Nat) (v : Int) (s : Nat → Nat → Int), 0 ≤ v → v + m = 4 → m < k → (∀ j : Nat, (j : Int) < v → s (a + 1) j = 0 ∧ s (a + 2) j = 0 ∧ s (a + 3) j = 0 ∧ s (a + 4) j = 0) → ∃ σ', f_X7_begin_37 k a v s = some σ' ∧ (∀ j, j < 4 → σ' (a + 1) j = 0 ∧ σ' (a + 2) j = 0 ∧ σ' (a + 3) j = 0 ∧ σ' (a + 4) j = 0) ∧ (∀ j, j < 3 → σ' (a + 5) j = 0 ∧ σ' (a + 6) j = 0 ∧ σ' (a + 7) j = 0) ∧ (∀ j, j < 6 → σ' (a + 8) j = 0) ∧ FM (fun c _ => a + 1 ≤ c ∧ c ≤ a + 8) s σ' := by
    intro m
    induction m with
    | zero =>
      intro k v s v0 hv hk hs
      obtain ⟨k, rfl⟩ : ∃ j, k = j + 1 := ⟨k - 1, by omega⟩
      obtain ⟨σ', g1, g2, g3, g4⟩ := s78 3 100000 0 s (by omega) (by omega) (by omega) (fun j hj => by omega)
      refine ⟨σ', by rw [f_X7_begin_37, if_pos (by omega), g1], fun j hj => ?_, g2, g3, g4.mono (fun c j hc => by omega)⟩
      rw [g4 (a + 1) j (by omega), g4 (a + 2) j (by omega), g4 (a + 3) j (by omega), g4 (a + 4) j (by omega)]
      exact hs j (by omega)
    | succ m ih =>
      intro k v s v0 hv hk hs
      obtain ⟨k, rfl⟩ : ∃ j, k = j + 1 := ⟨k - 1, by omega⟩
      obtain ⟨σ', g1, g2, g3, g4, g5⟩ := ih k (v + 1) (u2 (u2 (u2 (u2 s (a + 1) v.toNat 0) (a + 2) v.toNat 0) (a + 3) v.toNat 0) (a + 4) v.toNat 0) (by omega) (by omega) (by omega) (fun j hj => by
        by_cases e : j = v.toNat
        · rw [e]
          refine ⟨?_, ?_, ?_, ?_⟩
          · rw [u2_c (by omega), u2_c (by omega), u2_c (by omega), u2_e]
          · rw [u2_c (by omega), u2_c (by omega), u2_e]
          · rw [u2_c (by omega), u2_e]
          · rw [u2_e]
        · rw [u2_i e, u2_i e, u2_i e, u2_i e, u2_i e, u2_i e, u2_i e, u2_i e, u2_i e, u2_i e, u2_i e, u2_i e, u2_i e, u2_i e, u2_i e, u2_i e]
          exact hs j (by omega))
      refine ⟨σ', ?_, g2, g3, g4, ((((FM.refl.u (by omega)).u (by omega)).u (by omega)).u (by omega)).trans g5⟩
      rw [f_X7_begin_37, if_neg (by omega), if_pos (by omega), if_pos (by omega), if_pos (by omega), if_pos (by omega), zid (x := v + 1) (by omega) (by omega), g1]
  obtain ⟨σ', g1, g2, g3, g4, g5⟩ := s37 4 100000 0 (u2 (u2 (u2 (u2 (u2 (u2 (u2 σ a 0 0) a 1 0) a 2 0) a 3 0) a 4 0) a 5 0) a 6 0) (by omega) (by omega) (by omega) (fun j hj => by omega)
  refine ⟨σ', g1, fun j hj => ?_, g2, g3, g4, (((((((FM.refl.u (by omega)).u (by omega)).u (by omega)).u (by omega)).u (by omega)).u (by omega)).u (by omega)).trans (g5.mono (fun c j hc => by omega))⟩
  rw [g5 a j (by omega)]
  unfold u2
  have k : j = 0 ∨ j = 1 ∨ j = 2 ∨ j = 3 ∨ j = 4 ∨ j = 5 ∨ j = 6 := by omega
  rcases k with rfl | rfl | rfl | rfl | rfl | rfl | rfl <;> simp
/-- the reference's row begun anew -/
theorem R_zero {r : Nat → Nat → Int} : ∃ r', f_X12_text_162 100000 0 r = some (r' 758 21, r') ∧ (∀ j, j < 256 → r' 776 j = 0) ∧ r' 758 36 = 0 ∧ r' 758 37 = 0 ∧ FM (fun b j => b = 776 ∨ (b = 758 ∧ (j = 36 ∨ j = 37))) r r' := by
  have st : ∀ (m k : Nat) (v : Int) (s : Nat → Nat → Int), 0 ≤ v → v + m = 256 → m < k → (∀ j : Nat, (j : Int) < v → s 776 j = 0) → ∃ r', f_X12_text_162 k v s = some (r' 758 21, r') ∧ (∀ j, j < 256 → r' 776 j = 0) ∧ r' 758 36 = 0 ∧ r' 758 37 = 0 ∧ FM (fun b j => b = 776 ∨ (b = 758 ∧ (j = 36 ∨ j = 37))) s r' := by
    intro m
    induction m with
    | zero =>
      intro k v s v0 hv hk hs
      obtain ⟨k, rfl⟩ : ∃ j, k = j + 1 := ⟨k - 1, by omega⟩
      refine ⟨u2 (u2 s 758 36 0) 758 37 0, by rw [f_X12_text_162, if_pos (by omega)], fun j hj => ?_, ?_, u2_e, (FM.refl.u (by omega)).u (by omega)⟩
      · rw [u2_c (by omega), u2_c (by omega)]
        exact hs j (by omega)
      · rw [u2_i (by omega), u2_e]
    | succ m ih =>
      intro k v s v0 hv hk hs
      obtain ⟨k, rfl⟩ : ∃ j, k = j + 1 := ⟨k - 1, by omega⟩
      obtain ⟨r', g1, g2, g3, g4, g5⟩ := ih k (v + 1) (u2 s 776 v.toNat 0) (by omega) (by omega) (by omega) (fun j hj => by
        by_cases e : j = v.toNat
        · rw [e, u2_e]
        · rw [u2_i e]
          exact hs j (by omega))
      refine ⟨r', ?_, g2, g3, g4, (FM.refl.u (Or.inl rfl)).trans g5⟩
      rw [f_X12_text_162, if_neg (by omega), if_pos (by omega), zid (x := v + 1) (by omega) (by omega), g1]
  exact st 256 100000 0 r (by omega) (by omega) (by omega) (fun j hj => by omega)
end S_NC
