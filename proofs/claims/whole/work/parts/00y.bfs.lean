-- the fewest moves: what a search by nearness finds
section S_B
variable {P : Int → Int} {pw bp s : Int} {N : Int → Int → Prop} {i e : Int} {D Q : Nat → Int} {S : Int → Prop}
/-- within d moves -/
def b_R (P : Int → Int) (pw s : Int) (N : Int → Int → Prop) : Nat → Int → Prop
  | 0, n => n = s
  | d + 1, n => b_R P pw s N d n ∨ (P n ≠ -1 ∧ 0 ≤ n ∧ n < pw ∧ ∃ m, b_R P pw s N d m ∧ N m n)
def b_Ans (P : Int → Int) (pw bp s : Int) (N : Int → Int → Prop) (x : Int) : Prop := (x = -1 ∧ ∀ d n, b_R P pw s N d n → P n ≠ bp) ∨ (0 ≤ x ∧ (∃ n, b_R P pw s N x.toNat n ∧ P n = bp) ∧ ∀ d : Nat, (d : Int) < x → ∀ n, b_R P pw s N d n → P n ≠ bp)
theorem b_one {x y : Int} (hx : b_Ans P pw bp s N x) (hy : b_Ans P pw bp s N y) : x = y := by
  rcases hx with ⟨x1, x2⟩ | ⟨x1, ⟨n, x2, x3⟩, x4⟩ <;> rcases hy with ⟨y1, y2⟩ | ⟨y1, ⟨m, y2, y3⟩, y4⟩
  · omega
  · exact absurd y3 (x2 _ _ y2)
  · exact absurd x3 (y2 _ _ x2)
  · by_cases h : x < y
    · exact absurd x3 (y4 x.toNat (by omega) n x2)
    · by_cases h2 : y < x
      · exact absurd y3 (x4 y.toNat (by omega) m y2)
      · omega
/-- the search at the i-th of the e found -/
def BB (P : Int → Int) (pw bp s : Int) (N : Int → Int → Prop) (i e : Int) (D Q : Nat → Int) : Prop :=
  (0 ≤ i ∧ i ≤ e ∧ 1 ≤ e) ∧ m_unp D pw.toNat = pw - e ∧
  (∀ j : Int, 0 ≤ j → j < e → 0 ≤ Q j.toNat ∧ Q j.toNat < pw ∧ 0 ≤ D (Q j.toNat).toNat ∧ b_R P pw s N (D (Q j.toNat).toNat).toNat (Q j.toNat) ∧ D (Q j.toNat).toNat ≤ j) ∧
  (∀ n : Int, 0 ≤ n → n < pw → D n.toNat ≠ -1 → ∃ j : Int, 0 ≤ j ∧ j < e ∧ Q j.toNat = n) ∧
  (∀ j k : Int, 0 ≤ j → j ≤ k → k < e → D (Q j.toNat).toNat ≤ D (Q k.toNat).toNat) ∧
  (0 ≤ s ∧ s < pw ∧ D s.toNat = 0) ∧
  (∀ j : Int, 0 ≤ j → j < i → P (Q j.toNat) ≠ bp ∧ ∀ m, N (Q j.toNat) m → 0 ≤ m → m < pw → P m ≠ -1 → D m.toNat ≠ -1 ∧ D m.toNat ≤ D (Q j.toNat).toNat + 1) ∧
  (i < e → ∀ k : Int, 0 ≤ k → k < e → D (Q k.toNat).toNat ≤ D (Q i.toNat).toNat + 1)
/-- those of S are seen to -/
def BP (P : Int → Int) (pw bp s : Int) (N : Int → Int → Prop) (i e : Int) (D Q : Nat → Int) (S : Int → Prop) : Prop :=
  i < e ∧ BB P pw bp s N i e D Q ∧ ∀ m, S m → 0 ≤ m → m < pw → P m ≠ -1 → D m.toNat ≠ -1 ∧ D m.toNat ≤ D (Q i.toNat).toNat + 1
theorem BB.start {D0 : Nat → Int} (hp : 1 ≤ pw) (h0 : 0 ≤ s) (h1 : s < pw) (hD : ∀ n : Nat, (n : Int) < pw → D0 n = -1) : BB P pw bp s N 0 1 (u1 D0 s.toNat 0) (u1 Q 0 s) := by
  have hu : ∀ n : Nat, (n : Int) ≤ pw → m_unp D0 n = n := by
    intro n
    induction n with
    | zero => intro _; rfl
    | succ n ih =>
      intro hn
      unfold m_unp
      rw [ih (by omega), if_pos (hD n (by omega))]
      omega
  refine ⟨⟨by omega, by omega, by omega⟩, ?_, fun j j0 j1 => ?_, fun n n0 n1 hn => ?_, fun j k j0 j1 k1 => ?_, ⟨h0, h1, u1_e⟩, fun j j0 j1 => by omega, fun _ k k0 k1 => ?_⟩
  · rw [m_unp_less (hD s.toNat (by omega)) (by omega), hu _ (by omega), if_pos (by omega)]
    omega
  · have e : j.toNat = 0 := by omega
    rw [e, u1_e, u1_e]
    exact ⟨h0, h1, Int.le_refl _, rfl, j0⟩
  · refine ⟨0, by omega, by omega, ?_⟩
    by_cases e : n.toNat = s.toNat
    · show u1 Q 0 s 0 = n
      rw [u1_e]
      omega
    · rw [u1_i e, hD n.toNat (by omega)] at hn
      exact absurd rfl hn
  · rw [show j.toNat = k.toNat from by omega]
    exact Int.le_refl _
  · rw [show k.toNat = (0 : Int).toNat from by omega]
    omega
theorem BP.of (h : BB P pw bp s N i e D Q) (hi : i < e) : BP P pw bp s N i e D Q (fun _ => False) := ⟨hi, h, fun _ hm => hm.elim⟩
theorem BP.known (h : BP P pw bp s N i e D Q S) {m : Int} (hm : D m.toNat ≠ -1 ∨ P m = -1) : BP P pw bp s N i e D Q (fun x => S x ∨ x = m) := by
  obtain ⟨hi, hb, hs⟩ := h
  refine ⟨hi, hb, fun x hx x0 x1 xp => ?_⟩
  rcases hx with hx | rfl
  · exact hs x hx x0 x1 xp
  · rcases hm with hm | hm
    · obtain ⟨⟨i0, _, _⟩, _, _, b3, _, _, _, b7⟩ := hb
      obtain ⟨j, j0, j1, j2⟩ := b3 x x0 x1 hm
      have := b7 hi j j0 j1
      rw [j2] at this
      exact ⟨hm, this⟩
    · exact absurd hm xp
theorem BB.room (h : BB P pw bp s N i e D Q) {m : Int} (m0 : 0 ≤ m) (m1 : m < pw) (hm : D m.toNat = -1) : e < pw := by
  obtain ⟨_, hu, _⟩ := h
  have := m_unp_in (pt := D) pw.toNat
  by_cases c : m_unp D pw.toNat = 0
  · exact absurd hm (this.2.2 c m.toNat (by omega))
  · omega
theorem BP.push (h : BP P pw bp s N i e D Q S) {m : Int} (m0 : 0 ≤ m) (m1 : m < pw) (hm : D m.toNat = -1) (hp : P m ≠ -1) (hn : N (Q i.toNat) m) : BP P pw bp s N i (e + 1) (u1 D m.toNat (D (Q i.toNat).toNat + 1)) (u1 Q e.toNat m) (fun x => S x ∨ x = m) := by
  obtain ⟨hi, hb, hs⟩ := h
  obtain ⟨⟨i0, i1, e1⟩, b1, b2, b3, b4, b5, b6, b7⟩ := hb
  have q : ∀ j : Int, 0 ≤ j → j < e → u1 Q e.toNat m j.toNat = Q j.toNat := fun j j0 j1 => u1_i (by omega)
  have d : ∀ j : Int, 0 ≤ j → j < e → u1 D m.toNat (D (Q i.toNat).toNat + 1) (Q j.toNat).toNat = D (Q j.toNat).toNat := fun j j0 j1 => u1_i (fun z => by
    have := (b2 j j0 j1).2.2.1
    rw [z, hm] at this
    omega)
  have di := b2 i i0 hi
  have hR : b_R P pw s N (D (Q i.toNat).toNat + 1).toNat m := by
    rw [show (D (Q i.toNat).toNat + 1).toNat = (D (Q i.toNat).toNat).toNat + 1 from by omega]
    exact Or.inr ⟨hp, m0, m1, Q i.toNat, di.2.2.2.1, hn⟩
  refine ⟨by omega, ⟨⟨i0, by omega, by omega⟩, ?_, fun j j0 j1 => ?_, fun n n0 n1 hn => ?_, fun j k j0 j1 k1 => ?_, ⟨b5.1, b5.2.1, ?_⟩, fun j j0 j1 => ?_, fun _ k k0 k1 => ?_⟩, fun x hx x0 x1 xp => ?_⟩
  · rw [m_unp_less hm (by omega), b1, if_pos (by omega)]
    omega
  · by_cases c : j = e
    · rw [c, u1_e, u1_e]
      exact ⟨m0, m1, by omega, hR, by have := di.2.2.2.2; omega⟩
    · rw [q j j0 (by omega), d j j0 (by omega)]
      exact b2 j j0 (by omega)
  · by_cases c : n = m
    · exact ⟨e, by omega, by omega, by rw [u1_e, c]⟩
    · rw [u1_i (by omega)] at hn
      obtain ⟨j, j0, j1, j2⟩ := b3 n n0 n1 hn
      exact ⟨j, j0, by omega, by rw [q j j0 j1, j2]⟩
  · by_cases c : k = e
    · by_cases c2 : j = e
      · rw [c, c2]
        exact Int.le_refl _
      · rw [c, u1_e, u1_e, q j j0 (by omega), d j j0 (by omega)]
        exact b7 hi j j0 (by omega)
    · rw [q j j0 (by omega), d j j0 (by omega), q k (by omega) (by omega), d k (by omega) (by omega)]
      exact b4 j k j0 j1 (by omega)
  · rw [u1_i]
    · exact b5.2.2
    · intro z
      have := b5.2.2
      rw [z, hm] at this
      omega
  · rw [q j j0 (by omega)]
    refine ⟨(b6 j j0 j1).1, fun x hx x0 x1 xp => ?_⟩
    have := (b6 j j0 j1).2 x hx x0 x1 xp
    rw [d j j0 (by omega)]
    rw [u1_i (fun z => by rw [z, hm] at this; omega)]
    exact this
  · rw [q i i0 hi, d i i0 hi]
    by_cases c : k = e
    · rw [c, u1_e, u1_e]
      exact Int.le_refl _
    · rw [q k k0 (by omega), d k k0 (by omega)]
      exact b7 hi k k0 (by omega)
  · rw [q i i0 hi, d i i0 hi]
    by_cases c : x = m
    · rw [c, u1_e]
      exact ⟨by omega, Int.le_refl _⟩
    · rw [u1_i (by omega)]
      rcases hx with hx | hx
      · exact hs x hx x0 x1 xp
      · exact absurd hx c
theorem BP.next (h : BP P pw bp s N i e D Q S) (hp : P (Q i.toNat) ≠ bp) (hS : ∀ m, N (Q i.toNat) m → S m) : BB P pw bp s N (i + 1) e D Q := by
  obtain ⟨hi, hb, hs⟩ := h
  obtain ⟨⟨i0, i1, e1⟩, b1, b2, b3, b4, b5, b6, b7⟩ := hb
  refine ⟨⟨by omega, by omega, e1⟩, b1, b2, b3, b4, b5, fun j j0 j1 => ?_, fun hi2 k k0 k1 => ?_⟩
  · by_cases c : j = i
    · rw [c]
      exact ⟨hp, fun m hm => hs m (hS m hm)⟩
    · exact b6 j j0 (by omega)
  · have h1 := b7 hi k k0 k1
    have h2 := b4 i (i + 1) i0 (by omega) hi2
    omega
theorem BP.mono {S' : Int → Prop} (h : BP P pw bp s N i e D Q S) (hs : ∀ m, S' m → S m) : BP P pw bp s N i e D Q S' := ⟨h.1, h.2.1, fun m hm => h.2.2 m (hs m hm)⟩
/-- whoever is near is known -/
theorem BB.near (h : BB P pw bp s N i e D Q) : ∀ (d : Nat) (n : Int), b_R P pw s N d n → (i < e → (d : Int) ≤ D (Q i.toNat).toNat) → 0 ≤ n ∧ n < pw ∧ D n.toNat ≠ -1 ∧ D n.toNat ≤ d := by
  obtain ⟨⟨i0, i1, e1⟩, b1, b2, b3, b4, b5, b6, b7⟩ := h
  intro d
  induction d with
  | zero =>
    intro n hn _
    have : n = s := hn
    rw [this, b5.2.2]
    exact ⟨b5.1, b5.2.1, by omega, by omega⟩
  | succ d ih =>
    intro n hn hd
    rcases hn with hn | ⟨hp, n0, n1, m, hm, hmn⟩
    · have := ih n hn (fun z => by have := hd z; omega)
      exact ⟨this.1, this.2.1, this.2.2.1, by omega⟩
    · obtain ⟨m0, m1, m2, m3⟩ := ih m hm (fun z => by have := hd z; omega)
      obtain ⟨j, j0, j1, j2⟩ := b3 m m0 m1 m2
      have hj : j < i := by
        by_cases c : j < i
        · exact c
        · have h1 := hd (by omega)
          have h2 := b4 i j i0 (by omega) j1
          rw [j2] at h2
          omega
      have := (b6 j j0 hj).2 n (by rw [j2]; exact hmn) n0 n1 hp
      rw [j2] at this
      exact ⟨n0, n1, this.1, by omega⟩
theorem BB.found (h : BB P pw bp s N i e D Q) (hi : i < e) (hp : P (Q i.toNat) = bp) : b_Ans P pw bp s N (D (Q i.toNat).toNat) := by
  have hn := h.near
  obtain ⟨⟨i0, i1, e1⟩, b1, b2, b3, b4, b5, b6, b7⟩ := h
  have hq := b2 i i0 hi
  refine Or.inr ⟨hq.2.2.1, ⟨Q i.toNat, hq.2.2.2.1, hp⟩, fun d hd n hR hb => ?_⟩
  obtain ⟨n0, n1, n2, n3⟩ := hn d n hR (fun _ => by omega)
  obtain ⟨j, j0, j1, j2⟩ := b3 n n0 n1 n2
  by_cases c : j < i
  · have := (b6 j j0 c).1
    rw [j2] at this
    exact this hb
  · have h2 := b4 i j i0 (by omega) j1
    rw [j2] at h2
    omega
theorem BB.none (h : BB P pw bp s N i e D Q) (hi : i = e) : b_Ans P pw bp s N (-1) := by
  have hn := h.near
  obtain ⟨⟨i0, i1, e1⟩, b1, b2, b3, b4, b5, b6, b7⟩ := h
  refine Or.inl ⟨rfl, fun d n hR hb => ?_⟩
  obtain ⟨n0, n1, n2, n3⟩ := hn d n hR (fun z => by omega)
  obtain ⟨j, j0, j1, j2⟩ := b3 n n0 n1 n2
  have := (b6 j j0 (by omega)).1
  rw [j2] at this
  exact this hb
theorem BB.le (h : BB P pw bp s N i e D Q) : e ≤ pw := by
  have := m_unp_in (pt := D) pw.toNat
  have h2 := h.2.1
  omega
end S_B
/-- the way n with the task t on the core v -/
def m_nb (K : Nat → Nat → Int) (n t v : Int) : Int := n + (v - m_core K n t) * K 0 2 ^ (K 0 1 - 1 - t).toNat
def m_N (K : Nat → Nat → Int) (n m : Int) : Prop := ∃ t v : Int, 0 ≤ t ∧ t < K 0 1 ∧ 0 ≤ v ∧ v < K 0 2 ∧ m = m_nb K n t v
theorem m_nb_in {K : Nat → Nat → Int} (hK : WK K) {n t v : Int} (n0 : 0 ≤ n) (n1 : n < m_pow K) (t0 : 0 ≤ t) (t1 : t < K 0 1) (v0 : 0 ≤ v) (v1 : v < K 0 2) : 0 ≤ m_nb K n t v ∧ m_nb K n t v < m_pow K ∧ -10000 ≤ (v - m_core K n t) * K 0 2 ^ (K 0 1 - 1 - t).toNat ∧ (v - m_core K n t) * K 0 2 ^ (K 0 1 - 1 - t).toNat ≤ 10000 := by
  have hkn := hK.n
  have hpw := m_pow_in hK
  have hb := pow_lt hK (n := (K 0 1 - 1 - t).toNat) (by omega)
  have hc := m_core_in hK (n := n) (t := t)
  unfold m_nb
  have e1 : m_core K n t = n / K 0 2 ^ (K 0 1 - 1 - t).toNat % K 0 2 := rfl
  have e2 : m_pow K = K 0 2 ^ (K 0 1 - 1 - t).toNat * K 0 2 * K 0 2 ^ t.toNat := by
    unfold m_pow
    rw [← Int.pow_succ, ← Int.pow_add]
    congr 1
    omega
  generalize hP : K 0 2 ^ (K 0 1 - 1 - t).toNat = p at *
  have h1 := Int.mul_ediv_add_emod n p
  have h2 := Int.mul_ediv_add_emod (n / p) (K 0 2)
  have h3 := Int.emod_nonneg n (show p ≠ 0 by omega)
  have h4 := Int.emod_lt_of_pos n (show 0 < p by omega)
  rw [← e1] at h2
  generalize m_core K n t = d at *
  generalize hq : n / p = q at *
  generalize hh : q / K 0 2 = h at *
  generalize n % p = lo at *
  -- n = p * (c * h + d) + lo
  have hh0 : 0 ≤ h := by
    rw [← hh, ← hq]
    exact Int.ediv_nonneg (Int.ediv_nonneg n0 (by omega)) (by omega)
  have hh1 : h < K 0 2 ^ t.toNat := by
    rw [← hh, ← hq, Int.ediv_ediv_of_nonneg (by omega)]
    exact Int.ediv_lt_of_lt_mul (by have := Int.mul_le_mul hb.1 hkn.2.2.2.2.1 (by omega) (by omega); omega) (by rw [Int.mul_comm, ← e2]; exact n1)
  have e3 : n + (v - d) * p = p * (K 0 2 * h) + v * p + lo := by
    rw [← h1, ← h2, Int.mul_add, Int.sub_mul, Int.mul_comm d p]
    omega
  have a1 : 0 ≤ p * (K 0 2 * h) := Int.mul_nonneg (by omega) (Int.mul_nonneg (by omega) hh0)
  have a2 : 0 ≤ v * p := Int.mul_nonneg v0 (by omega)
  have a3 : v * p ≤ (K 0 2 - 1) * p := Int.mul_le_mul_of_nonneg_right (by omega) (by omega)
  have a4 : p * K 0 2 * (h + 1) ≤ p * K 0 2 * K 0 2 ^ t.toNat := Int.mul_le_mul_of_nonneg_left (by omega) (Int.mul_nonneg (by omega) (by omega))
  have a5 : p * K 0 2 * (h + 1) = p * (K 0 2 * h) + p * K 0 2 := by rw [Int.mul_add, Int.mul_one, Int.mul_assoc]
  have a6 : (K 0 2 - 1) * p = p * K 0 2 - p := by rw [Int.sub_mul, Int.one_mul, Int.mul_comm]
  have b1 : (v - d) * p ≤ 6 * 1296 := by
    by_cases c : 0 ≤ v - d
    · exact Int.mul_le_mul (by omega) hb.2 (by omega) (by omega)
    · have : (v - d) * p ≤ 0 * p := Int.mul_le_mul_of_nonneg_right (by omega) (by omega)
      omega
  have b2 : -6 * 1296 ≤ (v - d) * p := by
    have z1 : (-6) * p ≤ (v - d) * p := Int.mul_le_mul_of_nonneg_right (by omega) (by omega)
    have z2 : (-6) * p ≥ -6 * 1296 := by omega
    omega
  refine ⟨by omega, by omega, by omega, by omega⟩
