-- a chip told: the draft becomes the chip, both sides
/-- the chip that the reference's draft tells, beyond its ranges too -/
def m_told (r K : Nat → Nat → Int) : Nat → Nat → Int := fun b => if b = 0 then K 0 else if b = 1 then (fun j => r 762 (4 * j)) else if b = 2 then (fun j => r 762 (4 * j + 1)) else if b = 3 then (fun j => r 762 (4 * j + 2)) else if b = 4 then (fun j => r 762 (4 * j + 3)) else if b = 5 then (fun j => r 764 (2 * j)) else if b = 6 then (fun j => r 764 (2 * j + 1)) else if b = 7 then K 7 else if b = 8 then (fun j => r 766 (2 * j)) else if b = 9 then (fun j => r 766 (2 * j + 1)) else if b = 10 then r 760 else if b = 11 then r 769 else if b = 12 then r 771 else K b
section S_TL
variable {c r σ K : Nat → Nat → Int} {a : Nat} {p q f x i met v : Int}
theorem told_c (hD : DR r K) {w : Int} (w0 : 0 ≤ w) (w1 : w < K 0 0) : m_told r K 1 w.toNat = K 1 w.toNat ∧ m_told r K 2 w.toNat = K 2 w.toNat ∧ m_told r K 3 w.toNat = K 3 w.toNat ∧ m_told r K 4 w.toNat = K 4 w.toNat ∧ m_told r K 11 w.toNat = K 11 w.toNat := by
  obtain ⟨h1, h2, h3, h4, h5⟩ := hD.2.1 w w0 w1
  rw [show (4 * w).toNat = 4 * w.toNat from by omega] at h1
  rw [show (4 * w + 1).toNat = 4 * w.toNat + 1 from by omega] at h2
  rw [show (4 * w + 2).toNat = 4 * w.toNat + 2 from by omega] at h3
  rw [show (4 * w + 3).toNat = 4 * w.toNat + 3 from by omega] at h4
  exact ⟨h1, h2, h3, h4, h5⟩
theorem told_p (hD : DR r K) {w k : Int} (w0 : 0 ≤ w) (w1 : w < K 0 0) (k0 : 0 ≤ k) (k1 : k < K 4 w.toNat) : m_told r K 5 (5 * w + k).toNat = K 5 (5 * w + k).toNat ∧ m_told r K 6 (5 * w + k).toNat = K 6 (5 * w + k).toNat := by
  obtain ⟨h1, h2⟩ := hD.2.2.1 w k w0 w1 k0 k1
  rw [show (2 * (5 * w + k)).toNat = 2 * (5 * w + k).toNat from by omega] at h1
  rw [show (2 * (5 * w + k) + 1).toNat = 2 * (5 * w + k).toNat + 1 from by omega] at h2
  exact ⟨h1, h2⟩
theorem told_t (hD : DR r K) {t : Int} (t0 : 0 ≤ t) (t1 : t < K 0 1) : m_told r K 8 t.toNat = K 8 t.toNat ∧ m_told r K 9 t.toNat = K 9 t.toNat ∧ m_told r K 12 t.toNat = K 12 t.toNat := by
  obtain ⟨h1, h2, h3⟩ := hD.2.2.2.1 t t0 t1
  rw [show (2 * t).toNat = 2 * t.toNat from by omega] at h1
  rw [show (2 * t + 1).toNat = 2 * t.toNat + 1 from by omega] at h2
  exact ⟨h1, h2, h3⟩
theorem told_first (hD : DR r K) (hW : WQ K) {w : Int} (w1 : w ≤ K 0 0) : m_first (m_told r K) w = m_first K w := by
  have hw := hW.1
  have g0 : 1 ≤ K 0 0 → m_told r K 1 0 = K 1 0 := fun q => (told_c (w := 0) hD (by omega) (by omega)).1
  have g1 : 2 ≤ K 0 0 → m_told r K 1 1 = K 1 1 := fun q => (told_c (w := 1) hD (by omega) (by omega)).1
  have g2 : 3 ≤ K 0 0 → m_told r K 1 2 = K 1 2 := fun q => (told_c (w := 2) hD (by omega) (by omega)).1
  unfold m_first
  by_cases d0 : w ≤ 0
  · rw [if_pos d0, if_pos d0]
  rw [if_neg d0, if_neg d0]
  by_cases d1 : w = 1
  · rw [if_pos d1, if_pos d1, g0 (by omega)]
  rw [if_neg d1, if_neg d1]
  by_cases d2 : w = 2
  · rw [if_pos d2, if_pos d2, g0 (by omega), g1 (by omega)]
  rw [if_neg d2, if_neg d2, g0 (by omega), g1 (by omega), g2 (by omega)]
theorem RC.told (hC : RC c a K) (hD : DR r K) : RC c a (m_told r K) := by
  obtain ⟨h1, h2, h3, h4, h5, h6⟩ := hC
  refine ⟨h1, fun w w0 w1 => ?_, fun w k w0 w1 k0 k1 => ?_, h4, fun t t0 t1 => ?_, fun i hi => ?_⟩
  · obtain ⟨g1, g2, g3, g4, g5⟩ := told_c hD w0 w1
    rw [g1, g2, g3, g4, g5]
    exact h2 w w0 w1
  · have k1' : k < K 4 w.toNat := by
      rw [← (told_c hD w0 w1).2.2.2.1]
      exact k1
    obtain ⟨g1, g2⟩ := told_p hD w0 w1 k0 k1'
    rw [g1, g2]
    exact h3 w k w0 w1 k0 k1'
  · obtain ⟨g1, g2, g3⟩ := told_t hD t0 t1
    rw [g1, g2, g3]
    exact h5 t t0 t1
  · show c (a + 18) i = r 760 i
    rw [hD.2.2.2.2 i hi]
    exact h6 i hi
theorem WK.told (hD : DR r K) (hW : WQ K) (hw : WH K) : WK (m_told r K) ∧ KN (m_told r K) := by
  have hW' := hW
  obtain ⟨w0, w1, w2, w3, w4, w5, w6, w7, w8⟩ := hW
  have e0 : m_told r K 0 = K 0 := rfl
  have e7 : m_told r K 7 = K 7 := rfl
  have top1 : 1 ≤ K 0 3 := by
    have h1 := hw.2 0 (by omega) (by have := hw.1; omega)
    have h2 := w3 0 0 (by omega) (by have := hw.1; omega) (by omega) (by omega)
    omega
  have hr := fun i hi => hD.2.2.2.2 i hi
  have e10 : m_told r K 10 = r 760 := rfl
  refine ⟨⟨?_, ?_, fun c c0 c1 => ?_, fun c p c0 c1 p0 p1 => ?_, fun v v0 v1 => ?_, fun t t0 t1 => ?_, ?_⟩, fun c c0 c1 => ?_, fun t t0 t1 => ?_⟩
  · rw [e0]
    have h1 := hw.1
    have h2 := w2 0 (by omega) (by omega)
    have hm : 1 ≤ K 0 2 := by
      have e : ((0 : Int)).toNat = 0 := rfl
      rw [e] at h2
      have hk : K 0 0 = 1 ∨ K 0 0 = 2 ∨ K 0 0 = 3 := by omega
      rcases hk with k | k | k
      · rw [k] at w1
        simp [m_first] at w1
        omega
      · have h3 := w2 1 (by omega) (by omega)
        rw [show ((1 : Int)).toNat = 1 from rfl] at h3
        rw [k] at w1
        simp [m_first] at w1
        omega
      · have h3 := w2 1 (by omega) (by omega)
        have h4 := w2 2 (by omega) (by omega)
        rw [show ((1 : Int)).toNat = 1 from rfl] at h3
        rw [show ((2 : Int)).toNat = 2 from rfl] at h4
        rw [k] at w1
        simp [m_first] at w1
        omega
    omega
  · rw [e0, told_first hD hW' (Int.le_refl _)]
    exact w1
  · obtain ⟨g1, g2, g3, g4, g5⟩ := told_c hD c0 c1
    rw [g1, g2, g3, g4]
    obtain ⟨q1, q2, q3, q4, q5, q6, q7, q8, q9⟩ := w2 c c0 c1
    exact ⟨q1, q2, q3, q4, q5, q6, hw.2 c c0 c1, q8⟩
  · have p1' : p < K 4 c.toNat := by
      rw [← (told_c hD c0 c1).2.2.2.1]
      exact p1
    obtain ⟨g1, g2⟩ := told_p hD c0 c1 p0 p1'
    rw [g1, g2, e0]
    exact w3 c p c0 c1 p0 p1'
  · obtain ⟨q1, q2, q3, q4⟩ := w6 v v0 v1
    rw [e7, e0, told_first hD hW' (by omega), (told_c hD q1 q2).1]
    exact ⟨q1, q2, q3, q4⟩
  · obtain ⟨g1, g2, g3⟩ := told_t hD t0 t1
    rw [g1, g2]
    obtain ⟨q1, q2, q3, q4, q5⟩ := w7 t t0 t1
    exact ⟨q1, q2, q3, q4⟩
  · rw [e10, hr 0 (by omega), hr 1 (by omega), hr 2 (by omega), hr 3 (by omega), hr 4 (by omega), hr 5 (by omega)]
    exact w8
  · obtain ⟨g1, g2, g3, g4, g5⟩ := told_c hD c0 c1
    rw [g5]
    exact (w2 c c0 c1).2.2.2.2.2.2.2.2.nb
  · obtain ⟨g1, g2, g3⟩ := told_t hD t0 t1
    rw [g3]
    exact (w7 t t0 t1).2.2.2.2.nb
theorem R_copyAll {a0 a1 n : Nat} (h : a0 ≠ a1) (hn : n ≤ 100) : ∃ r', f_X12_copyAll a0 n a1 n r = some r' ∧ (∀ j, j < n → r' a1 j = r a0 j) ∧ FM (fun b _ => b = a1) r r' := by
  have st : ∀ (m k : Nat) (v : Int) (s : Nat → Nat → Int), 0 ≤ v → v + m = n → m < k → FM (fun b _ => b = a1) r s → (∀ j : Nat, (j : Int) < v → s a1 j = r a0 j) → ∃ r', f_X12_copyAll_2 k a0 n a1 n v s = some r' ∧ (∀ j, j < n → r' a1 j = r a0 j) ∧ FM (fun b _ => b = a1) r r' := by
    intro m
    induction m with
    | zero =>
      intro k v s v0 hv hk hf hs
      obtain ⟨k, rfl⟩ : ∃ j, k = j + 1 := ⟨k - 1, by omega⟩
      exact ⟨s, by rw [f_X12_copyAll_2, if_pos (by omega)], fun j hj => hs j (by omega), hf⟩
    | succ m ih =>
      intro k v s v0 hv hk hf hs
      obtain ⟨k, rfl⟩ : ∃ j, k = j + 1 := ⟨k - 1, by omega⟩
      rw [f_X12_copyAll_2, if_neg (by omega), if_pos (by omega), if_pos (by omega), zid (x := v + 1) (by omega) (by omega)]
      refine ih k (v + 1) _ (by omega) (by omega) (by omega) (hf.u rfl) (fun j hj => ?_)
      by_cases e : j = v.toNat
      · rw [e, u2_e, hf a0 _ (by omega)]
      · rw [u2_i e]
        exact hs j (by omega)
  exact st n 100000 0 r (by omega) (by omega) (by omega) FM.refl (fun j hj => by omega)
/-- what telling touches -/
def STE : Nat → Nat → Prop := fun b j => b = 761 ∨ b = 763 ∨ b = 765 ∨ b = 767 ∨ b = 770 ∨ b = 772 ∨ (b = 758 ∧ (j = 21 ∨ j = 23 ∨ j = 25 ∨ j = 26))
set_option maxHeartbeats 1000000 in
theorem R_tells (hD : DR r K) (hW : WQ K) (hw : WH K) : ∃ r', f_X12_tells r = some r' ∧ RM r' (m_told r K) ∧ FM STE r r' := by
  have hw0 := hW.1
  have hK := (WK.told hD hW hw).1
  obtain ⟨r1, a1, a2, a3⟩ := R_copyAll (r := r) (a0 := 760) (a1 := 761) (n := 6) (by omega) (by omega)
  obtain ⟨r2, b1, b2, b3⟩ := R_copyAll (r := r1) (a0 := 762) (a1 := 763) (n := 12) (by omega) (by omega)
  obtain ⟨r3, c1, c2, c3⟩ := R_copyAll (r := r2) (a0 := 764) (a1 := 765) (n := 30) (by omega) (by omega)
  obtain ⟨r4, d1, d2, d3⟩ := R_copyAll (r := r3) (a0 := 766) (a1 := 767) (n := 8) (by omega) (by omega)
  -- the names
  have s46 : ∀ (m k : Nat) (v : Int) (s : Nat → Nat → Int), 0 ≤ v → v + m = 3 → m < k → FM (fun b _ => b = 770) r4 s → (∀ j : Nat, (j : Int) < v → s 770 j = r4 769 j) → ∃ r', f_X12_tells_46 k v s = f_X12_tells_71 100000 0 r' ∧ (∀ j, j < 3 → r' 770 j = r4 769 j) ∧ FM (fun b _ => b = 770) r4 r' := by
    intro m
    induction m with
    | zero =>
      intro k v s v0 hv hk hf hs
      obtain ⟨k, rfl⟩ : ∃ j, k = j + 1 := ⟨k - 1, by omega⟩
      exact ⟨s, by rw [f_X12_tells_46, if_pos (by omega)], fun j hj => hs j (by omega), hf⟩
    | succ m ih =>
      intro k v s v0 hv hk hf hs
      obtain ⟨k, rfl⟩ : ∃ j, k = j + 1 := ⟨k - 1, by omega⟩
      rw [f_X12_tells_46, if_neg (by omega), if_pos (by omega), if_pos (by omega), zid (x := v + 1) (by omega) (by omega)]
      refine ih k (v + 1) _ (by omega) (by omega) (by omega) (hf.u rfl) (fun j hj => ?_)
      by_cases e : j = v.toNat
      · rw [e, u2_e, hf 769 _ (by omega)]
      · rw [u2_i e]
        exact hs j (by omega)
  obtain ⟨r5, e1, e2, e3⟩ := s46 3 100000 0 r4 (by omega) (by omega) (by omega) FM.refl (fun j hj => by omega)
  have s71 : ∀ (m k : Nat) (v : Int) (s : Nat → Nat → Int), 0 ≤ v → v + m = 4 → m < k → FM (fun b _ => b = 772) r5 s → (∀ j : Nat, (j : Int) < v → s 772 j = r5 771 j) → ∃ r', f_X12_tells_71 k v s = f_X12_tells_125 100000 0 (u2 (u2 (u2 (u2 r' 758 21 (r 758 20)) 758 23 (r 758 22)) 758 25 (r 758 24)) 758 26 0) ∧ (∀ j, j < 4 → r' 772 j = r5 771 j) ∧ FM (fun b _ => b = 772) r5 r' := by
    intro m
    induction m with
    | zero =>
      intro k v s v0 hv hk hf hs
      obtain ⟨k, rfl⟩ : ∃ j, k = j + 1 := ⟨k - 1, by omega⟩
      have f5 : ∀ j, s 758 j = r 758 j := fun j => by
        rw [hf 758 j (by omega), e3 758 j (by omega), d3 758 j (by omega), c3 758 j (by omega), b3 758 j (by omega), a3 758 j (by omega)]
      refine ⟨s, ?_, fun j hj => hs j (by omega), hf⟩
      rw [f_X12_tells_71, if_pos (by omega), f5 20, u2_i (show (22 : Nat) ≠ 21 by omega), f5 22, u2_i (show (24 : Nat) ≠ 23 by omega), u2_i (show (24 : Nat) ≠ 21 by omega), f5 24]
    | succ m ih =>
      intro k v s v0 hv hk hf hs
      obtain ⟨k, rfl⟩ : ∃ j, k = j + 1 := ⟨k - 1, by omega⟩
      rw [f_X12_tells_71, if_neg (by omega), if_pos (by omega), if_pos (by omega), zid (x := v + 1) (by omega) (by omega)]
      refine ih k (v + 1) _ (by omega) (by omega) (by omega) (hf.u rfl) (fun j hj => ?_)
      by_cases e : j = v.toNat
      · rw [e, u2_e, hf 771 _ (by omega)]
      · rw [u2_i e]
        exact hs j (by omega)
  obtain ⟨r6, g1, g2, g3⟩ := s71 4 100000 0 r5 (by omega) (by omega) (by omega) FM.refl (fun j hj => by omega)
  have mm : FM STE r r6 := (((((a3.mono (fun b j hb => by unfold STE; omega)).trans (b3.mono (fun b j hb => by unfold STE; omega))).trans (c3.mono (fun b j hb => by unfold STE; omega))).trans (d3.mono (fun b j hb => by unfold STE; omega))).trans (e3.mono (fun b j hb => by unfold STE; omega))).trans (g3.mono (fun b j hb => by unfold STE; omega))
  have hDr := hD.1
  -- all but the top
  have hRM : ∀ (s : Nat → Nat → Int), (∀ b, b ≠ 758 → s b = r6 b) → s 758 21 = K 0 0 → s 758 23 = K 0 1 → s 758 25 = K 0 2 → s 758 26 = K 0 3 → RM s (m_told r K) := fun s hs h1 h2 h3 h4 => by
    have t0 : ∀ {b : Nat}, b ≠ 758 → b ≠ 772 → ∀ j, s b j = r5 b j := fun h1 h2 j => by rw [hs _ h1, g3 _ j (by omega)]
    have t1 : ∀ {b : Nat}, b ≠ 758 → b ≠ 772 → b ≠ 770 → ∀ j, s b j = r4 b j := fun h1 h2 h3 j => by rw [t0 h1 h2, e3 _ j (by omega)]
    refine ⟨⟨h1, h2, h3, h4⟩, fun w w0 w1 => ?_, fun w k w0 w1 k0 k1 => ?_, fun t q0 q1 => ?_, fun i hi => ?_, fun w w0 w1 => ?_, fun t q0 q1 => ?_⟩
    · have hh : ∀ j, j < 12 → s 763 j = r 762 j := fun j hj => by
        rw [t1 (by omega) (by omega) (by omega), d3 763 j (by omega), c3 763 j (by omega), b2 j hj, a3 762 j (by omega)]
      rw [hh _ (by omega), hh _ (by omega), hh _ (by omega), hh _ (by omega)]
      show r 762 (4 * w).toNat = r 762 (4 * w.toNat) ∧ r 762 (4 * w + 1).toNat = r 762 (4 * w.toNat + 1) ∧ r 762 (4 * w + 2).toNat = r 762 (4 * w.toNat + 2) ∧ r 762 (4 * w + 3).toNat = r 762 (4 * w.toNat + 3)
      rw [show (4 * w).toNat = 4 * w.toNat from by omega, show (4 * w + 1).toNat = 4 * w.toNat + 1 from by omega, show (4 * w + 2).toNat = 4 * w.toNat + 2 from by omega, show (4 * w + 3).toNat = 4 * w.toNat + 3 from by omega]
      exact ⟨rfl, rfl, rfl, rfl⟩
    · have hh : ∀ j, j < 30 → s 765 j = r 764 j := fun j hj => by
        rw [t1 (by omega) (by omega) (by omega), d3 765 j (by omega), c2 j hj, b3 764 j (by omega), a3 764 j (by omega)]
      rw [hh _ (by omega), hh _ (by omega)]
      show r 764 (2 * (5 * w + k)).toNat = r 764 (2 * (5 * w + k).toNat) ∧ r 764 (2 * (5 * w + k) + 1).toNat = r 764 (2 * (5 * w + k).toNat + 1)
      rw [show (2 * (5 * w + k)).toNat = 2 * (5 * w + k).toNat from by omega, show (2 * (5 * w + k) + 1).toNat = 2 * (5 * w + k).toNat + 1 from by omega]
      exact ⟨rfl, rfl⟩
    · have hh : ∀ j, j < 8 → s 767 j = r 766 j := fun j hj => by
        rw [t1 (by omega) (by omega) (by omega), d2 j hj, c3 766 j (by omega), b3 766 j (by omega), a3 766 j (by omega)]
      rw [hh _ (by omega), hh _ (by omega)]
      show r 766 (2 * t).toNat = r 766 (2 * t.toNat) ∧ r 766 (2 * t + 1).toNat = r 766 (2 * t.toNat + 1)
      rw [show (2 * t).toNat = 2 * t.toNat from by omega, show (2 * t + 1).toNat = 2 * t.toNat + 1 from by omega]
      exact ⟨rfl, rfl⟩
    · show s 761 i = r 760 i
      rw [t1 (by omega) (by omega) (by omega), d3 761 i (by omega), c3 761 i (by omega), b3 761 i (by omega), a2 i hi]
    · show s 770 w.toNat = r 769 w.toNat
      rw [t0 (by omega) (by omega), e2 _ (by omega), d3 769 _ (by omega), c3 769 _ (by omega), b3 769 _ (by omega), a3 769 _ (by omega)]
    · show s 772 t.toNat = r 771 t.toNat
      rw [hs 772 (by omega), g2 _ (by omega), e3 771 _ (by omega), d3 771 _ (by omega), c3 771 _ (by omega), b3 771 _ (by omega), a3 771 _ (by omega)]
  -- the top
  have e763 : ∀ j, j < 12 → r6 763 j = r 762 j := fun j hj => by
    rw [g3 763 j (by omega), e3 763 j (by omega), d3 763 j (by omega), c3 763 j (by omega), b2 j hj, a3 762 j (by omega)]
  have e765 : ∀ j, j < 30 → r6 765 j = r 764 j := fun j hj => by
    rw [g3 765 j (by omega), e3 765 j (by omega), d3 765 j (by omega), c2 j hj, b3 764 j (by omega), a3 764 j (by omega)]
  have s125 : ∀ (m k : Nat) (v : Int) (s : Nat → Nat → Int), 0 ≤ v → v + m = K 0 0 → m < k → (∀ b, b ≠ 758 → s b = r6 b) → s 758 21 = K 0 0 → s 758 23 = K 0 1 → s 758 25 = K 0 2 → 0 ≤ s 758 26 → s 758 26 ≤ K 0 3 → (∀ w : Int, 0 ≤ w → w < v → K 5 (5 * w + (K 4 w.toNat - 1)).toNat ≤ s 758 26) → FM STE r s → ∃ r', f_X12_tells_125 k v s = some r' ∧ RM r' (m_told r K) ∧ FM STE r r' := by
    intro m
    induction m with
    | zero =>
      intro k v s v0 hv hk hs h1 h2 h3 h4 h5 h6 h7
      obtain ⟨k, rfl⟩ : ∃ j, k = j + 1 := ⟨k - 1, by omega⟩
      refine ⟨s, by rw [f_X12_tells_125, if_pos (by omega)], hRM s hs h1 h2 h3 ?_, h7⟩
      rcases hW.2.2.2.2.2.1 with e | ⟨w, w0, w1, w2, w3⟩
      · omega
      · have := h6 w w0 (by omega)
        omega
    | succ m ih =>
      intro k v s v0 hv hk hs h1 h2 h3 h4 h5 h6 h7
      obtain ⟨k, rfl⟩ : ∃ j, k = j + 1 := ⟨k - 1, by omega⟩
      have hvk := hW.2.2.1 v v0 (by omega)
      have hv4 := hw.2 v v0 (by omega)
      have hpl := hW.2.2.2.1 v (K 4 v.toNat - 1) v0 (by omega) (by omega) (by omega)
      have q1 : ∀ s : Nat → Nat → Int, (∀ b, b ≠ 758 → s b = r6 b) → f_X12_lastPoint v s = some (K 4 v.toNat - 1) := fun s hs => by
        unfold f_X12_lastPoint
        rw [zid (x := 4 * v) (by omega) (by omega), zid (x := 4 * v + 3) (by omega) (by omega), if_pos (by omega), hs 763 (by omega), e763 _ (by omega), (hD.2.1 v v0 (by omega)).2.2.2.1, zid (by omega) (by omega)]
      have q2 : ∀ s : Nat → Nat → Int, (∀ b, b ≠ 758 → s b = r6 b) → f_X12_speed v (K 4 v.toNat - 1) s = some (K 5 (5 * v + (K 4 v.toNat - 1)).toNat) := fun s hs => by
        unfold f_X12_speed
        rw [zid (x := 5 * v) (by omega) (by omega), zid (x := 5 * v + (K 4 v.toNat - 1)) (by omega) (by omega), zid (x := 2 * (5 * v + (K 4 v.toNat - 1))) (by omega) (by omega), if_pos (by omega), hs 765 (by omega), e765 _ (by omega), (hD.2.2.1 v (K 4 v.toNat - 1) v0 (by omega) (by omega) (by omega)).1]
      rw [f_X12_tells_125, if_neg (by omega), q1 s hs, Option.bind_some, q2 s hs, Option.bind_some, Option.bind_some, q2 s hs, Option.bind_some, zid (x := v + 1) (by omega) (by omega)]
      by_cases d : K 5 (5 * v + (K 4 v.toNat - 1)).toNat ≤ s 758 26
      · rw [if_pos d]
        refine ih k (v + 1) _ (by omega) (by omega) (by omega) (fun b hb => (u2_ne hb).trans (hs b hb)) ((u2_i (by omega)).trans h1) ((u2_i (by omega)).trans h2) ((u2_i (by omega)).trans h3) (by rw [u2_e]; exact h4) (by rw [u2_e]; exact h5) (fun w w0 w1 => ?_) (h7.u (by unfold STE; omega))
        rw [u2_e]
        by_cases e : w = v
        · rw [e]
          exact d
        · exact h6 w w0 (by omega)
      · rw [if_neg d]
        refine ih k (v + 1) _ (by omega) (by omega) (by omega) (fun b hb => (u2_ne hb).trans (hs b hb)) ((u2_i (by omega)).trans h1) ((u2_i (by omega)).trans h2) ((u2_i (by omega)).trans h3) (by rw [u2_e]; omega) (by rw [u2_e]; exact hpl.2.1) (fun w w0 w1 => ?_) (h7.u (by unfold STE; omega))
        rw [u2_e]
        by_cases e : w = v
        · rw [e]
          exact Int.le_refl _
        · have := h6 w w0 (by omega)
          omega
  obtain ⟨r', k1, k2, k3⟩ := s125 (K 0 0).toNat 100000 0 (u2 (u2 (u2 (u2 r6 758 21 (r 758 20)) 758 23 (r 758 22)) 758 25 (r 758 24)) 758 26 0) (by omega) (by omega) (by omega) (fun b hb => by rw [u2_ne hb, u2_ne hb, u2_ne hb, u2_ne hb]) (by rw [u2_i (by omega), u2_i (by omega), u2_i (by omega), u2_e]; exact hDr.1) (by rw [u2_i (by omega), u2_i (by omega), u2_e]; exact hDr.2.1) (by rw [u2_i (by omega), u2_e]; exact hDr.2.2) (by rw [u2_e]; omega) (by rw [u2_e]; omega) (fun w w0 w1 => by omega) ((((mm.u (by unfold STE; omega)).u (by unfold STE; omega)).u (by unfold STE; omega)).u (by unfold STE; omega))
  refine ⟨r', ?_, k2, k3⟩
  unfold f_X12_tells
  rw [a1, Option.bind_some, b1, Option.bind_some, c1, Option.bind_some, d1, Option.bind_some, e1, g1, k1]
end S_TL
