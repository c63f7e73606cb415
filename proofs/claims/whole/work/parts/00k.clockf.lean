-- what a tick keeps
section S_CF
variable {K : Nat → Nat → Int} {w : Nat → Int} {tr th : Int}
theorem m_left_in (hK : WK K) (hS : WS K w) {t : Int} (h0 : 0 ≤ t) (h1 : t < K 0 1) : 1 ≤ m_left K w t ∧ m_left K w t ≤ K 9 t.toNat ∧ 0 ≤ Int.tmod (w 41) (K 9 t.toNat) ∧ Int.tmod (w 41) (K 9 t.toNat) < K 9 t.toNat := by
  have ht := hK.t h0 h1
  have hn := hS.n
  have a1 := Int.tmod_nonneg (K 9 t.toNat) hn.1
  have a2 := Int.tmod_lt_of_pos (w 41) (b := K 9 t.toNat) (by omega)
  unfold m_left
  omega
theorem iter_snoc {α : Type} {X : Int → α → α} (n : Nat) (v : Int) (a : α) : iter X (n + 1) v a = X (v + n) (iter X n v a) := by
  rw [iter_add]
  rfl
/-- rows from 38 on, and those that no period touches -/
theorem m_relS_o {t : Int} (h0 : 0 ≤ t) (h1 : t < 4) {i : Nat} (h : ¬ (25 ≤ i ∧ i < 29) ∧ ¬ (33 ≤ i ∧ i < 37)) : m_relS K t w i = w i := by
  unfold m_relS
  split
  · rfl
  · rw [u1_i (by omega)]
    split
    · rw [u1_i (by omega)]
    · rfl
theorem m_relS_in (hK : WK K) (hS : WS K w) {t : Int} (h0 : 0 ≤ t) (h1 : t < K 0 1) (hl : w (33 + t).toNat ≤ w 41) : WS K (m_relS K t w) ∧ (∀ s : Int, 0 ≤ s → s < K 0 1 → s ≠ t → m_relS K t w (33 + s).toNat = w (33 + s).toNat) ∧ m_relS K t w (33 + t).toNat ≤ w 41 + 1 := by
  have hn := hS.n
  have ht := hS.t h0 h1
  have hk := hK.t h0 h1
  have hkn := hK.n
  unfold m_relS
  by_cases c : w (37 + t).toNat = 1 ∨ m_left K w t ≠ K 9 t.toNat
  · rw [if_pos c]
    exact ⟨hS, fun _ _ _ _ => rfl, by omega⟩
  · rw [if_neg c]
    by_cases c2 : 0 < w (25 + t).toNat
    · rw [if_pos c2]
      refine ⟨(hS.u_late hK h0 h1 (by omega) (by omega)).u_rest hK h0 h1 (by omega) (by omega), fun s s0 s1 s2 => ?_, ?_⟩
      · rw [u1_i (by omega), u1_i (by omega)]
      · rw [u1_i (by omega), u1_e]
        omega
    · rw [if_neg c2]
      refine ⟨hS.u_rest hK h0 h1 (by omega) (by omega), fun s s0 s1 s2 => ?_, ?_⟩
      · rw [u1_i (by omega)]
      · rw [u1_i (by omega)]
        omega
theorem m_rel_in (hK : WK K) (hS : WS K w) (hL : WL K w) : WS K (m_rel K w) ∧ (∀ s : Int, 0 ≤ s → s < K 0 1 → m_rel K w (33 + s).toNat ≤ w 41 + 1) ∧ (∀ i : Nat, ¬ (25 ≤ i ∧ i < 29) ∧ ¬ (33 ≤ i ∧ i < 37) → m_rel K w i = w i) := by
  have hkn := hK.n
  have h := iter_inv (X := m_relS K) (hi := K 0 1) (fun t w' => 0 ≤ t ∧ WS K w' ∧ (∀ i : Nat, ¬ (25 ≤ i ∧ i < 29) ∧ ¬ (33 ≤ i ∧ i < 37) → w' i = w i) ∧ (∀ s : Int, 0 ≤ s → s < t → s < K 0 1 → w' (33 + s).toNat ≤ w 41 + 1) ∧ (∀ s : Int, t ≤ s → s < K 0 1 → w' (33 + s).toNat = w (33 + s).toNat))
    (fun t w' ht hp => by
      obtain ⟨p0, p1, p2, p3, p4⟩ := hp
      have e41 := p2 41 (by omega)
      have hlt := hL t p0 ht
      obtain ⟨a1, a2, a3⟩ := m_relS_in hK p1 p0 ht (by rw [p4 t (by omega) ht, e41]; exact hlt)
      refine ⟨by omega, a1, fun i hi => ?_, fun s s0 s1 s2 => ?_, fun s s0 s1 => ?_⟩
      · rw [m_relS_o p0 (by omega) hi]
        exact p2 i hi
      · by_cases e : s = t
        · subst e
          rw [e41] at a3
          exact a3
        · rw [a2 s s0 s2 e]
          exact p3 s s0 (by omega) s2
      · rw [a2 s (by omega) s1 (by omega)]
        exact p4 s (by omega) s1) (K 0 1).toNat 0 w (by omega) ⟨by omega, hS, fun _ _ => rfl, fun s s0 s1 => by omega, fun _ _ _ => rfl⟩
  obtain ⟨p0, p1, p2, p3, p4⟩ := h
  exact ⟨p1, fun s s0 s1 => p3 s s0 s1 s1, p2⟩
theorem m_hrL_in {v : Int} : ∀ (n : Nat) (t : Int), (m_hrL w v n t = 1 ↔ ∃ s : Int, t ≤ s ∧ s < t + n ∧ w (21 + s).toNat = v ∧ 0 < w (25 + s).toNat) ∧ (m_hrL w v n t = 0 ∨ m_hrL w v n t = 1) := by
  intro n
  induction n with
  | zero =>
    intro t
    unfold m_hrL
    exact ⟨⟨by omega, fun ⟨s, h⟩ => by omega⟩, Or.inl rfl⟩
  | succ n ih =>
    intro t
    unfold m_hrL
    split
    · rename_i h
      exact ⟨⟨fun _ => ⟨t, by omega, by omega, h.1, h.2⟩, fun _ => rfl⟩, Or.inr rfl⟩
    · rename_i h
      refine ⟨⟨fun q => ?_, fun ⟨s, h1, h2, h3, h4⟩ => ?_⟩, (ih (t + 1)).2⟩
      · obtain ⟨s, h1, h2, h3, h4⟩ := (ih (t + 1)).1.mp q
        exact ⟨s, by omega, by omega, h3, h4⟩
      · by_cases e : s = t
        · subst e
          exact absurd ⟨h3, h4⟩ h
        · exact (ih (t + 1)).1.mpr ⟨s, by omega, by omega, h3, h4⟩
theorem m_hr_in {v : Int} : (m_hr K w v = 1 ↔ ∃ s : Int, 0 ≤ s ∧ s < K 0 1 ∧ w (21 + s).toNat = v ∧ 0 < w (25 + s).toNat) ∧ (m_hr K w v = 0 ∨ m_hr K w v = 1) := by
  have h := m_hrL_in (w := w) (v := v) (K 0 1).toNat 0
  unfold m_hr
  refine ⟨⟨fun q => ?_, fun ⟨s, h1, h2, h3, h4⟩ => h.1.mpr ⟨s, h1, by omega, h3, h4⟩⟩, h.2⟩
  obtain ⟨s, h1, h2, h3, h4⟩ := h.1.mp q
  exact ⟨s, h1, by omega, h3, h4⟩
theorem m_hr_c {w' : Nat → Int} {v : Int} (hK : WK K) (h : ∀ i, 21 ≤ i → i < 29 → w' i = w i) : m_hr K w' v = m_hr K w v := by
  have hkn := hK.n
  have : ∀ (n : Nat) (t : Int), 0 ≤ t → t + n ≤ 4 → m_hrL w' v n t = m_hrL w v n t := by
    intro n
    induction n with
    | zero => intro t _ _; rfl
    | succ n ih =>
      intro t h0 h1
      unfold m_hrL
      rw [h (21 + t).toNat (by omega) (by omega), h (25 + t).toNat (by omega) (by omega), ih (t + 1) (by omega) (by omega)]
  exact this _ 0 (by omega) (by omega)
theorem m_wk_o (hK : WK K) {v : Int} (h0 : 0 ≤ v) (h1 : v < K 0 2) {s : Int × (Nat → Int)} {i : Nat} (h : i < 6 ∨ 15 ≤ i) : (m_wk K v s).2 i = s.2 i := by
  have hkn := hK.n
  have hv := hK.v h0 h1
  unfold m_wk
  split
  · rfl
  · dsimp only
    rw [u1_i (by omega), u1_i (by omega)]
theorem m_wk_in (hK : WK K) {v : Int} (h0 : 0 ≤ v) (h1 : v < K 0 2) {s : Int × (Nat → Int)} (hS : WS K s.2) : WS K (m_wk K v s).2 ∧ s.1 ≤ (m_wk K v s).1 ∧ (m_wk K v s).1 ≤ s.1 + 99 := by
  have hkn := hK.n
  have hv := hK.v h0 h1
  have hc := hK.c hv.1 hv.2.1
  have hr := hK.r
  unfold m_wk
  split
  · exact ⟨hS, by omega, by omega⟩
  · exact ⟨(hS.u_sleep hK h0 h1 (Or.inl rfl)).u_boost hK hv.1 hv.2.1 (by omega) (by omega), by dsimp only; omega, by dsimp only; omega⟩
theorem m_wake_in (hK : WK K) (hS : WS K w) : WS K (m_wake K w).2 ∧ 0 ≤ (m_wake K w).1 ∧ (m_wake K w).1 ≤ 594 ∧ (∀ i : Nat, i < 6 ∨ 15 ≤ i → (m_wake K w).2 i = w i) := by
  have hkn := hK.n
  have h := iter_inv (X := fun v s => if m_hr K w v = 1 then m_wk K v s else s) (hi := K 0 2) (fun v s => 0 ≤ v ∧ WS K s.2 ∧ 0 ≤ s.1 ∧ s.1 ≤ 99 * v ∧ (∀ i : Nat, i < 6 ∨ 15 ≤ i → s.2 i = w i))
    (fun v s hv hp => by
      obtain ⟨p0, p1, p2, p3, p4⟩ := hp
      have a := m_wk_in hK p0 hv p1
      refine ⟨by omega, ?_⟩
      split
      · exact ⟨a.1, by omega, by omega, fun i hi => (m_wk_o hK p0 hv hi).trans (p4 i hi)⟩
      · exact ⟨p1, p2, by omega, p4⟩) (K 0 2).toNat 0 (0, w) (by omega) ⟨by omega, hS, by simp, by simp, fun _ _ => rfl⟩
  obtain ⟨p0, p1, p2, p3, p4⟩ := h
  exact ⟨p1, p2, by unfold m_wake; omega, p4⟩
theorem m_wk_wk (hK : WK K) {v : Int} (h0 : 0 ≤ v) (h1 : v < K 0 2) (s : Int × (Nat → Int)) : m_wk K v (m_wk K v s) = m_wk K v s := by
  have hv := hK.v h0 h1
  have hkn := hK.n
  by_cases e : s.2 (9 + v).toNat = 0
  · rw [show m_wk K v s = s from if_pos e]
    exact if_pos e
  · rw [show m_wk K v s = _ from if_neg e]
    unfold m_wk
    rw [if_pos]
    dsimp only
    rw [u1_i (by omega), u1_e]
theorem u1_comm {i j : Nat} {x y : Int} (h : i ≠ j) : u1 (u1 w i x) j y = u1 (u1 w j y) i x := by
  funext k
  unfold u1
  by_cases h1 : k = i
  · have h2 : k ≠ j := fun q => h (h1.symm.trans q)
    rw [if_neg h2, if_pos h1, if_pos h1]
  · by_cases h2 : k = j
    · rw [if_pos h2, if_neg h1, if_pos h2]
    · rw [if_neg h2, if_neg h1, if_neg h1, if_neg h2]
theorem u1_same {i j : Nat} {x : Int} : u1 (u1 w i x) j x = u1 (u1 w j x) i x := by
  funext k
  unfold u1
  by_cases h1 : k = i <;> by_cases h2 : k = j <;> simp [h1, h2]
theorem m_wk_comm (hK : WK K) {v u : Int} (h0 : 0 ≤ v) (h1 : v < K 0 2) (g0 : 0 ≤ u) (g1 : u < K 0 2) (s : Int × (Nat → Int)) : m_wk K v (m_wk K u s) = m_wk K u (m_wk K v s) := by
  have hkn := hK.n
  by_cases e : v = u
  · rw [e]
  · have hv := hK.v h0 h1
    have hu := hK.v g0 g1
    have key : ∀ x y : Int × (Nat → Int), x = y → x = y := fun _ _ h => h
    by_cases a : s.2 (9 + v).toNat = 0
    · rw [show m_wk K v s = s from if_pos a]
      by_cases b : s.2 (9 + u).toNat = 0
      · rw [show m_wk K u s = s from if_pos b]
        exact if_pos a
      · rw [show m_wk K u s = _ from if_neg b]
        unfold m_wk
        rw [if_pos]
        dsimp only
        rw [u1_i (by omega), u1_i (by omega)]
        exact a
    · by_cases b : s.2 (9 + u).toNat = 0
      · rw [show m_wk K u s = s from if_pos b, show m_wk K v s = _ from if_neg a]
        unfold m_wk
        rw [if_pos]
        dsimp only
        rw [u1_i (by omega), u1_i (by omega)]
        exact b
      · rw [show m_wk K u s = _ from if_neg b, show m_wk K v s = _ from if_neg a]
        unfold m_wk
        dsimp only
        rw [if_neg, if_neg]
        · refine Prod.ext (by dsimp only; omega) ?_
          dsimp only
          rw [u1_comm (i := (6 + K 7 u.toNat).toNat) (j := (9 + v).toNat) (by omega), u1_comm (i := (6 + K 7 v.toNat).toNat) (j := (9 + u).toNat) (by omega), u1_comm (i := (9 + u).toNat) (j := (9 + v).toNat) (by omega), u1_same]
        · rw [u1_i (by omega), u1_i (by omega)]
          exact b
        · rw [u1_i (by omega), u1_i (by omega)]
          exact a
/-- the loop over tasks wakes what the loop over cores wakes -/
theorem m_wk_iter (hK : WK K) {S : Int → Bool} {u : Int} (g0 : 0 ≤ u) (g1 : u < K 0 2) : ∀ (n : Nat) (v : Int) (s : Int × (Nat → Int)), 0 ≤ v → v + n ≤ K 0 2 → m_wk K u (iter (fun v s => if S v then m_wk K v s else s) n v s) = iter (fun v s => if S v then m_wk K v s else s) n v (m_wk K u s) := by
  intro n
  induction n with
  | zero => intro v s _ _; rfl
  | succ n ih =>
    intro v s h0 h1
    show m_wk K u (iter _ n (v + 1) (if S v then m_wk K v s else s)) = iter _ n (v + 1) (if S v then m_wk K v (m_wk K u s) else m_wk K u s)
    rw [ih (v + 1) _ (by omega) (by omega)]
    by_cases e : S v
    · rw [if_pos e, if_pos e, m_wk_comm hK g0 g1 h0 (by omega)]
    · rw [if_neg e, if_neg e]
theorem m_wk_more (hK : WK K) {S S' : Int → Bool} {u : Int} (g0 : 0 ≤ u) (g1 : u < K 0 2) (hu : S' u = true) (hs : ∀ v, v ≠ u → S' v = S v) : ∀ (n : Nat) (v : Int) (s : Int × (Nat → Int)), 0 ≤ v → v + n ≤ K 0 2 → (v ≤ u → u < v + n → m_wk K u (iter (fun v s => if S v then m_wk K v s else s) n v s) = iter (fun v s => if S' v then m_wk K v s else s) n v s) ∧ (u < v → iter (fun v s => if S v then m_wk K v s else s) n v s = iter (fun v s => if S' v then m_wk K v s else s) n v s) := by
  intro n
  induction n with
  | zero => intro v s _ _; exact ⟨fun a b => by omega, fun _ => rfl⟩
  | succ n ih =>
    intro v s h0 h1
    refine ⟨fun a b => ?_, fun a => ?_⟩
    · show m_wk K u (iter _ n (v + 1) (if S v then m_wk K v s else s)) = iter _ n (v + 1) (if S' v then m_wk K v s else s)
      by_cases e : v = u
      · subst e
        rw [if_pos hu, m_wk_iter hK g0 g1 n (v + 1) _ (by omega) (by omega), (ih (v + 1) _ (by omega) (by omega)).2 (by omega)]
        by_cases e2 : S v
        · rw [if_pos e2, m_wk_wk hK g0 g1]
        · rw [if_neg e2]
      · rw [hs v e, (ih (v + 1) _ (by omega) (by omega)).1 (by omega) (by omega)]
    · show iter _ n (v + 1) (if S v then m_wk K v s else s) = iter _ n (v + 1) (if S' v then m_wk K v s else s)
      rw [hs v (by omega), (ih (v + 1) _ (by omega) (by omega)).2 (by omega)]
/-- a task's turn in the class's way to wake -/
def m_wkT (K : Nat → Nat → Int) (w : Nat → Int) (t : Int) (s : Int × (Nat → Int)) : Int × (Nat → Int) := if w (25 + t).toNat ≤ 0 then s else m_wk K (w (21 + t).toNat) s
def m_wS (w : Nat → Int) (n : Nat) (v : Int) : Bool := decide (∃ t : Nat, t < n ∧ w (21 + (t : Int)).toNat = v ∧ 0 < w (25 + (t : Int)).toNat)
theorem m_wake_T (hK : WK K) (hS : WS K w) : iter (m_wkT K w) (K 0 1).toNat 0 (0, w) = m_wake K w := by
  have hkn := hK.n
  have key : ∀ n : Nat, (n : Int) ≤ K 0 1 → iter (m_wkT K w) n 0 (0, w) = iter (fun v s => if m_wS w n v then m_wk K v s else s) (K 0 2).toNat 0 (0, w) := by
    intro n
    induction n with
    | zero =>
      intro _
      show (0, w) = _
      rw [iter_id (hi := K 0 2) (fun v s _ => if_neg (fun q => by
        have := of_decide_eq_true q
        obtain ⟨t, h, _⟩ := this
        omega)) _ 0 _ (by omega)]
    | succ n ih =>
      intro hn
      rw [iter_snoc, ih (by omega), show (0 : Int) + (n : Int) = (n : Int) from by omega]
      have ht := hS.t (t := (n : Int)) (by omega) (by omega)
      unfold m_wkT
      by_cases c : w (25 + (n : Int)).toNat ≤ 0
      · rw [if_pos c]
        refine iter_congr (hi := K 0 2) (fun v s _ => ?_) _ 0 _ (by omega)
        have : m_wS w n v = m_wS w (n + 1) v := by
          unfold m_wS
          refine decide_eq_decide.mpr ⟨fun ⟨t, h1, h2⟩ => ⟨t, by omega, h2⟩, fun ⟨t, h1, h2, h3⟩ => ⟨t, ?_, h2, h3⟩⟩
          by_cases e : t = n
          · subst e
            omega
          · omega
        rw [this]
      · rw [if_neg c]
        refine (m_wk_more hK (S := m_wS w n) (S' := m_wS w (n + 1)) ht.1 ht.2.1 ?_ (fun v hv => ?_) (K 0 2).toNat 0 (0, w) (by omega) (by omega)).1 (by omega) (by omega)
        · unfold m_wS
          exact decide_eq_true ⟨n, by omega, rfl, by omega⟩
        · unfold m_wS
          refine decide_eq_decide.mpr ⟨fun ⟨t, h1, h2, h3⟩ => ⟨t, ?_, h2, h3⟩, fun ⟨t, h1, h2⟩ => ⟨t, by omega, h2⟩⟩
          by_cases e : t = n
          · subst e
            exact absurd h2.symm hv
          · omega
  rw [key _ (by omega)]
  unfold m_wake
  refine iter_congr (hi := K 0 2) (fun v s _ => ?_) _ 0 _ (by omega)
  have : m_wS w (K 0 1).toNat v = true ↔ m_hr K w v = 1 := by
    unfold m_wS
    rw [decide_eq_true_iff, m_hr_in.1]
    exact ⟨fun ⟨t, h1, h2, h3⟩ => ⟨(t : Int), by omega, by omega, h2, h3⟩, fun ⟨s, h1, h2, h3, h4⟩ => ⟨s.toNat, by omega, by rw [Int.toNat_of_nonneg h1]; exact h3, by rw [Int.toNat_of_nonneg h1]; exact h4⟩⟩
  by_cases c : m_hr K w v = 1
  · rw [if_pos c, if_pos (this.mpr c)]
  · rw [if_neg c, if_neg (fun q => c (this.mp q))]
end S_CF
