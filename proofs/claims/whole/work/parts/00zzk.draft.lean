-- the chip that is being read: what it is for both sides; names, bounded numbers
def NK (x : Int) : Prop := ∃ k, 1 ≤ k ∧ k ≤ 7 ∧ PK k x
theorem NK.ne {x : Int} (h : NK x) : x ≠ 0 := by
  obtain ⟨k, h1, h2, h3⟩ := h
  have := h3.in.2.2 h1
  omega
theorem NK.nb {x : Int} (h : NK x) : NB x := by
  obtain ⟨k, h1, h2, h3⟩ := h
  exact h3.nb h2
def WQ (K : Nat → Nat → Int) : Prop :=
  (0 ≤ K 0 0 ∧ K 0 0 ≤ 3 ∧ 0 ≤ K 0 1 ∧ K 0 1 ≤ 4 ∧ 0 ≤ K 0 2 ∧ K 0 2 ≤ 6 ∧ 0 ≤ K 0 3 ∧ K 0 3 ≤ 99) ∧
  K 0 2 = m_first K (K 0 0) ∧
  (∀ c : Int, 0 ≤ c → c < K 0 0 → 1 ≤ K 1 c.toNat ∧ K 1 c.toNat ≤ 3 ∧ 0 ≤ K 2 c.toNat ∧ K 2 c.toNat ≤ 99 ∧ 0 ≤ K 3 c.toNat ∧ K 3 c.toNat ≤ 99 ∧ 0 ≤ K 4 c.toNat ∧ K 4 c.toNat ≤ 5 ∧ NK (K 11 c.toNat)) ∧
  (∀ c p : Int, 0 ≤ c → c < K 0 0 → 0 ≤ p → p < K 4 c.toNat → 1 ≤ K 5 (5 * c + p).toNat ∧ K 5 (5 * c + p).toNat ≤ K 0 3 ∧ 1 ≤ K 6 (5 * c + p).toNat ∧ K 6 (5 * c + p).toNat ≤ 99) ∧
  (∀ c p : Int, 0 ≤ c → c < K 0 0 → 0 ≤ p → p < K 4 c.toNat → K 5 (5 * c + p).toNat ≤ K 5 (5 * c + (K 4 c.toNat - 1)).toNat) ∧
  (K 0 3 = 0 ∨ ∃ c : Int, 0 ≤ c ∧ c < K 0 0 ∧ 1 ≤ K 4 c.toNat ∧ K 5 (5 * c + (K 4 c.toNat - 1)).toNat = K 0 3) ∧
  (∀ v : Int, 0 ≤ v → v < K 0 2 → 0 ≤ K 7 v.toNat ∧ K 7 v.toNat < K 0 0 ∧ m_first K (K 7 v.toNat) ≤ v ∧ v < m_first K (K 7 v.toNat) + K 1 (K 7 v.toNat).toNat) ∧
  (∀ t : Int, 0 ≤ t → t < K 0 1 → 1 ≤ K 8 t.toNat ∧ K 8 t.toNat ≤ 999 ∧ 1 ≤ K 9 t.toNat ∧ K 9 t.toNat ≤ 20 ∧ NK (K 12 t.toNat)) ∧
  (0 ≤ K 10 0 ∧ K 10 0 ≤ 100 ∧ 0 ≤ K 10 1 ∧ K 10 1 ≤ 20 ∧ 1 ≤ K 10 2 ∧ K 10 2 ≤ 20 ∧ 0 ≤ K 10 3 ∧ K 10 3 ≤ 9 ∧ 1 ≤ K 10 4 ∧ K 10 4 ≤ 9999 ∧ 2 ≤ K 10 5 ∧ K 10 5 ≤ 16)
/-- the reference's draft -/
def DR (r K : Nat → Nat → Int) : Prop :=
  (r 758 20 = K 0 0 ∧ r 758 22 = K 0 1 ∧ r 758 24 = K 0 2) ∧
  (∀ c : Int, 0 ≤ c → c < K 0 0 → r 762 (4 * c).toNat = K 1 c.toNat ∧ r 762 (4 * c + 1).toNat = K 2 c.toNat ∧ r 762 (4 * c + 2).toNat = K 3 c.toNat ∧ r 762 (4 * c + 3).toNat = K 4 c.toNat ∧ r 769 c.toNat = K 11 c.toNat) ∧
  (∀ c p : Int, 0 ≤ c → c < K 0 0 → 0 ≤ p → p < K 4 c.toNat → r 764 (2 * (5 * c + p)).toNat = K 5 (5 * c + p).toNat ∧ r 764 (2 * (5 * c + p) + 1).toNat = K 6 (5 * c + p).toNat) ∧
  (∀ t : Int, 0 ≤ t → t < K 0 1 → r 766 (2 * t).toNat = K 8 t.toNat ∧ r 766 (2 * t + 1).toNat = K 9 t.toNat ∧ r 771 t.toNat = K 12 t.toNat) ∧
  (∀ i, i < 6 → r 760 i = K 10 i)
def m_spotL (f : Nat → Int) (x : Int) : Nat → Int → Int
  | 0, _ => -1
  | n + 1, c => if f c.toNat = x then c else m_spotL f x n (c + 1)
def m_spot (f : Nat → Int) (n x : Int) : Int := m_spotL f x n.toNat 0
theorem m_spotL_in {f : Nat → Int} {x : Int} : ∀ (n : Nat) (c : Int), 0 ≤ c → m_spotL f x n c = -1 ∨ (c ≤ m_spotL f x n c ∧ m_spotL f x n c < c + n ∧ f (m_spotL f x n c).toNat = x) := by
  intro n
  induction n with
  | zero => intro c _; exact Or.inl rfl
  | succ n ih =>
    intro c c0
    unfold m_spotL
    by_cases d : f c.toNat = x
    · rw [if_pos d]
      exact Or.inr ⟨Int.le_refl _, by omega, d⟩
    · rw [if_neg d]
      rcases ih (c + 1) (by omega) with h | ⟨h1, h2, h3⟩
      · exact Or.inl h
      · exact Or.inr ⟨by omega, by omega, h3⟩
theorem m_spot_in {f : Nat → Int} {n x : Int} : m_spot f n x = -1 ∨ (0 ≤ m_spot f n x ∧ m_spot f n x < n ∧ f (m_spot f n x).toNat = x) := by
  rcases m_spotL_in (f := f) (x := x) n.toNat 0 (Int.le_refl 0) with h | ⟨h1, h2, h3⟩
  · exact Or.inl h
  · exact Or.inr ⟨h1, by unfold m_spot; omega, h3⟩
section S_DF
variable {c r K : Nat → Nat → Int} {a : Nat} {p q f x lo hi hi' : Int}
theorem C_clusterNamed (hC : RC c a K) (hn : 0 ≤ K 0 0 ∧ K 0 0 ≤ 3) : f_X1_clusterNamed a x c = some (m_spot (K 11) (K 0 0) x) := by
  have st : ∀ (m k : Nat) (v : Int), 0 ≤ v → v + m = K 0 0 → m < k → f_X1_clusterNamed_2 k a x v c = some (m_spotL (K 11) x m v) := by
    intro m
    induction m with
    | zero =>
      intro k v h0 hv hk
      obtain ⟨k, rfl⟩ : ∃ j, k = j + 1 := ⟨k - 1, by omega⟩
      rw [f_X1_clusterNamed_2, hC.n0, if_pos (by omega)]
      rfl
    | succ m ih =>
      intro k v h0 hv hk
      obtain ⟨k, rfl⟩ : ∃ j, k = j + 1 := ⟨k - 1, by omega⟩
      rw [f_X1_clusterNamed_2, hC.n0, if_neg (by omega), if_pos (by omega), hC.c1 h0 (by omega), zid (x := v + 1) (by omega) (by omega), ih k (v + 1) (by omega) (by omega) (by omega), m_spotL]
      by_cases d : K 11 v.toNat = x
      · rw [if_pos (z_cmp_0.mpr d), if_pos d]
      · rw [if_neg (fun q => d (z_cmp_0.mp q)), if_neg d]
  exact st (K 0 0).toNat 100000 0 (by omega) (by omega) (by omega)
theorem C_hasName (hC : RC c a K) (hn : 0 ≤ K 0 0 ∧ K 0 0 ≤ 3) (ht : 0 ≤ K 0 1 ∧ K 0 1 ≤ 4) : f_X1_hasName a x c = some (if m_spot (K 12) (K 0 1) x = -1 ∧ m_spot (K 11) (K 0 0) x = -1 then 0 else 1) := by
  have st : ∀ (m k : Nat) (v : Int), 0 ≤ v → v + m = K 0 1 → m < k → f_X1_hasName_2 k a x v c = some (if m_spotL (K 12) x m v = -1 ∧ m_spot (K 11) (K 0 0) x = -1 then 0 else 1) := by
    intro m
    induction m with
    | zero =>
      intro k v h0 hv hk
      obtain ⟨k, rfl⟩ : ∃ j, k = j + 1 := ⟨k - 1, by omega⟩
      rw [f_X1_hasName_2, hC.n1, if_pos (by omega), C_clusterNamed hC hn, Option.bind_some]
      have e : m_spotL (K 12) x 0 v = -1 := rfl
      by_cases d : m_spot (K 11) (K 0 0) x = -1
      · rw [if_pos d, if_pos ⟨e, d⟩]
      · rw [if_neg d, if_neg (fun q => d q.2)]
    | succ m ih =>
      intro k v h0 hv hk
      obtain ⟨k, rfl⟩ : ∃ j, k = j + 1 := ⟨k - 1, by omega⟩
      rw [f_X1_hasName_2, hC.n1, if_neg (by omega), if_pos (by omega), hC.t15 h0 (by omega), zid (x := v + 1) (by omega) (by omega), ih k (v + 1) (by omega) (by omega) (by omega), m_spotL]
      by_cases d : K 12 v.toNat = x
      · rw [if_pos (z_cmp_0.mpr d), if_pos d, if_neg (by omega)]
      · rw [if_neg (fun q => d (z_cmp_0.mp q)), if_neg d]
  exact st (K 0 1).toNat 100000 0 (by omega) (by omega) (by omega)
theorem R_spotOf {b N : Nat} {g : Nat → Int} {n : Int} (h0 : 0 ≤ n) (h1 : n ≤ N) (hN : N ≤ 4) (hg : ∀ v : Int, 0 ≤ v → v < n → r b v.toNat = g v.toNat) : f_X12_spotOf b N n x r = some (m_spot g n x) := by
  have st : ∀ (m k : Nat) (v : Int), 0 ≤ v → v + m = n → m < k → f_X12_spotOf_3 k b N n x v r = some (m_spotL g x m v) := by
    intro m
    induction m with
    | zero =>
      intro k v h0 hv hk
      obtain ⟨k, rfl⟩ : ∃ j, k = j + 1 := ⟨k - 1, by omega⟩
      rw [f_X12_spotOf_3, if_pos (by omega)]
      rfl
    | succ m ih =>
      intro k v h0 hv hk
      obtain ⟨k, rfl⟩ : ∃ j, k = j + 1 := ⟨k - 1, by omega⟩
      rw [f_X12_spotOf_3, if_neg (by omega), if_pos (by omega), hg v h0 (by omega), zid (x := v + 1) (by omega) (by omega), ih k (v + 1) (by omega) (by omega) (by omega), m_spotL]
      by_cases d : g v.toNat = x
      · rw [if_pos (z_cmp_0.mpr d), if_pos d]
      · rw [if_neg (fun q => d (z_cmp_0.mp q)), if_neg d]
  exact st n.toNat 100000 0 (by omega) (by omega) (by omega)
theorem DR.fm {r' : Nat → Nat → Int} (h : DR r K) (hf : FM SRE r r') : DR r' K := by
  have e : ∀ b, b ≠ 758 → r' b = r b := fun b hb => funext fun j => hf b j (by unfold SRE; omega)
  unfold DR
  rw [hf 758 20 (by unfold SRE; omega), hf 758 22 (by unfold SRE; omega), hf 758 24 (by unfold SRE; omega), e 762 (by omega), e 764 (by omega), e 766 (by omega), e 760 (by omega), e 769 (by omega), e 771 (by omega)]
  exact h
theorem RC.fd {c' : Nat → Nat → Int} (h : RC c a K) (hK : K 0 0 ≤ 3) (ha : 3 < a) (hf : FM SRD c c') : RC c' a K := h.frame hK (fun b b0 b1 => funext fun j => hf b j (by unfold SRD; omega))
/-- a new name read: sound before -/
theorem T_newName (h : TA c r p) (hC : RC c a K) (hD : DR r K) (hW : WQ K) (ha : 3 < a) : ∃ x c' r', f_X10_readNewName a c = some (x, c') ∧ f_X12_freshName r = some r' ∧ FM SRD c c' ∧ FM SRE r r' ∧ ((∃ s, TA c' r' s ∧ p ≤ s ∧ r' 758 6 = x ∧ NK x) ∨ (∃ f, TX c' r' f)) := by
  obtain ⟨x, c1, r1, s, q, g1, g2, g3, g4, g5, g6⟩ := T_word h
  have hn := hW.1
  have hC1 := hC.fd (by omega) ha g3
  have hD1 := hD.fm g4
  have hcn := C_hasName (x := x) hC1 (by omega) (by omega)
  have hcl : f_X10_readNewName a c = if z_wno x 16 = -1 then (if (if m_spot (K 12) (K 0 1) x = -1 ∧ m_spot (K 11) (K 0 0) x = -1 then (0 : Int) else 1) = 0 then some (x, c1) else f_X10_readNewName_24 x c1) else f_X10_readNewName_24 x c1 := by
    unfold f_X10_readNewName f_X10_wordNumber
    rw [g1, Option.bind_some, Option.bind_some]
    dsimp only
    rw [hcn, Option.bind_some]
  rcases g6 with ⟨a1, a2, a3, a4, a5, a6⟩ | ⟨a1, a2⟩
  · have hr : f_X12_freshName r = if z_wno x 16 = -1 then (if m_spot (K 11) (K 0 0) x = -1 then (if m_spot (K 12) (K 0 1) x = -1 then some r1 else f_X12_freshName_61 r1) else f_X12_freshName_61 r1) else f_X12_freshName_61 r1 := by
      unfold f_X12_freshName f_X12_known
      rw [g2, Option.bind_some, if_pos a1.2.2.2.2.2.2, Option.bind_some, a2, hD1.1.1, hD1.1.2.1, R_spotOf (g := K 11) (by omega) (by omega) (by omega) (fun v v0 v1 => (hD1.2.1 v v0 v1).2.2.2.2), R_spotOf (g := K 12) (by omega) (by omega) (by omega) (fun v v0 v1 => (hD1.2.2.2.1 v v0 v1).2.2), Option.bind_some]
      rfl
    have h24 : f_X10_readNewName_24 x c1 = some (x, u2 c1 2 4 q) := by
      unfold f_X10_readNewName_24
      rw [C_refusePart a1.2.2.2.2.2.1, Option.bind_some, a3]
    have h61 : f_X12_freshName_61 r1 = some (u2 r1 758 4 q) := by
      unfold f_X12_freshName_61
      rw [R_fails a1.2.2.2.2.2.2, Option.bind_some, a4]
    have bad : f_X10_readNewName a c = some (x, u2 c1 2 4 q) → f_X12_freshName r = some (u2 r1 758 4 q) → ∃ x c' r', f_X10_readNewName a c = some (x, c') ∧ f_X12_freshName r = some r' ∧ FM SRD c c' ∧ FM SRE r r' ∧ ((∃ s, TA c' r' s ∧ p ≤ s ∧ r' 758 6 = x ∧ NK x) ∨ (∃ f, TX c' r' f)) := fun e1 e2 =>
      ⟨x, _, _, e1, e2, g3.u (by unfold SRD; omega), g4.u (by unfold SRE; omega), Or.inr ⟨q, a1.fails (c' := c1) (r' := r1) (by have := h.2.2.2.1; omega)⟩⟩
    by_cases d1 : z_wno x 16 = -1
    · rw [if_pos d1] at hcl hr
      by_cases d2 : m_spot (K 11) (K 0 0) x = -1
      · rw [if_pos d2] at hr
        by_cases d3 : m_spot (K 12) (K 0 1) x = -1
        · rw [if_pos d3] at hr
          rw [if_pos (show m_spot (K 12) (K 0 1) x = -1 ∧ m_spot (K 11) (K 0 0) x = -1 from ⟨d3, d2⟩), if_pos rfl] at hcl
          exact ⟨x, c1, r1, hcl, hr, g3, g4, Or.inl ⟨s, a1, a5, a2, a6⟩⟩
        · rw [if_neg d3, h61] at hr
          rw [if_neg (show ¬ (m_spot (K 12) (K 0 1) x = -1 ∧ m_spot (K 11) (K 0 0) x = -1) from fun q => d3 q.1), if_neg (show ¬ (1 : Int) = 0 by omega), h24] at hcl
          exact bad hcl hr
      · rw [if_neg d2, h61] at hr
        rw [if_neg (show ¬ (m_spot (K 12) (K 0 1) x = -1 ∧ m_spot (K 11) (K 0 0) x = -1) from fun q => d2 q.2), if_neg (show ¬ (1 : Int) = 0 by omega), h24] at hcl
        exact bad hcl hr
    · rw [if_neg d1, h61] at hr
      rw [if_neg d1, h24] at hcl
      exact bad hcl hr
  · have h24 : f_X10_readNewName_24 x c1 = some (x, c1) := by
      unfold f_X10_readNewName_24
      rw [C_refusePartX (by have := a1.2.2.2; omega), Option.bind_some]
    have hr : f_X12_freshName r = some r1 := by
      unfold f_X12_freshName
      rw [g2, Option.bind_some, if_neg (by have := a1.2.2.2; omega)]
    refine ⟨x, c1, r1, ?_, hr, g3, g4, Or.inr ⟨q, a1⟩⟩
    rw [hcl, h24]
    repeat' split
    all_goals rfl
/-- what a number is does not hang on its bounds -/
theorem C_number_any : ∀ (k : Nat) (x : Int) (c : Nat → Nat → Int), (∃ x1 c1, (∀ lo hi, f_X9_readNumber_6 k lo hi x c = f_X9_readNumber_81 lo hi x1 c1) ∧ c1 2 4 = c 2 4 ∧ c1 2 3 = c 2 3) ∨ (∀ lo hi, f_X9_readNumber_6 k lo hi x c = none) := by
  intro k
  induction k with
  | zero => intro x c; exact Or.inr (fun _ _ => rfl)
  | succ k ih =>
    intro x c
    by_cases d1 : c 2 1 ≤ c 2 2
    · exact Or.inl ⟨x, c, fun lo hi => by rw [f_X9_readNumber_6, if_pos d1], rfl, rfl⟩
    by_cases d2 : 0 ≤ c 2 2 ∧ c 2 2 < 320
    · by_cases d3 : c 3 (c 2 2).toNat < 48
      · exact Or.inl ⟨x, c, fun lo hi => by rw [f_X9_readNumber_6, if_neg d1, if_pos d2, if_pos d3], rfl, rfl⟩
      by_cases d4 : 57 < c 3 (c 2 2).toNat
      · exact Or.inl ⟨x, c, fun lo hi => by rw [f_X9_readNumber_6, if_neg d1, if_pos d2, if_neg d3, if_pos d2, if_pos d4], rfl, rfl⟩
      rcases ih (min (z_w (z_w (z_w (x * 10) + c 3 (c 2 2).toNat) - 48)) 1000000) (u2 c 2 2 (z_w (c 2 2 + 1))) with ⟨x1, c1, h, h2, h3⟩ | h
      · exact Or.inl ⟨x1, c1, fun lo hi => by rw [f_X9_readNumber_6, if_neg d1, if_pos d2, if_neg d3, if_pos d2, if_neg d4, if_pos d2, h], h2.trans (u2_i (by omega)), h3.trans (u2_i (by omega))⟩
      · exact Or.inr (fun lo hi => by rw [f_X9_readNumber_6, if_neg d1, if_pos d2, if_neg d3, if_pos d2, if_neg d4, if_pos d2, h])
    · exact Or.inr (fun lo hi => by rw [f_X9_readNumber_6, if_neg d1, if_neg d2])
/-- a number bounded more closely by the class -/
theorem T_number2 (h : TA c r p) (l0 : 0 ≤ lo) (hh : hi' ≤ hi) (hi0 : hi ≤ 9999) : ∃ x y c' r' s q, f_X9_readNumber lo hi' c = some (x, c') ∧ f_X12_number lo hi r = some (y, r') ∧ FM SRD c c' ∧ FM SRE r r' ∧ ((TA c' r' s ∧ p ≤ s ∧ c' 2 3 = q ∧ r' 758 5 = q ∧ y = x ∧ lo ≤ x ∧ x ≤ hi') ∨ (r' 758 5 = q ∧ r' 758 4 = -1 ∧ hi' < y ∧ lo ≤ y ∧ y ≤ hi ∧ TX c' (u2 r' 758 4 q) q) ∨ (TX c' r' q ∧ y = lo)) := by
  obtain ⟨x, y, c', r', s, q, g1, g2, g3, g4, g5⟩ := T_number (lo := lo) (hi := hi) h l0 hi0
  have hp0 := h.2.2.2.1
  have hfix : ∃ x1 c1, (∀ lo hi, f_X9_readNumber lo hi c = f_X9_readNumber_81 lo hi x1 c1) ∧ c1 2 4 = -1 ∧ 0 ≤ c1 2 3 := by
    obtain ⟨c0, e0, e4, e3⟩ : ∃ c0, f_X9_goToNextPart c = some c0 ∧ c0 2 4 = -1 ∧ 0 ≤ c0 2 3 := by
      obtain ⟨q, c1, r1, w1, w2, w3, w4, w5, w6, w7⟩ := T_go h
      exact ⟨c1, w1, w5.2.2.2.2.2.1, by omega⟩
    rcases C_number_any 100000 0 c0 with ⟨x1, c1, w, w4, w3⟩ | w
    · exact ⟨x1, c1, fun lo hi => by unfold f_X9_readNumber; rw [e0, Option.bind_some, w], w4.trans e4, by rw [w3]; exact e3⟩
    · unfold f_X9_readNumber at g1
      rw [e0, Option.bind_some, w] at g1
      cases g1
  obtain ⟨x1, c1, hfx, hf4, hf3⟩ := hfix
  rw [hfx] at g1 ⊢
  unfold f_X9_readNumber_81 f_X9_readNumber_102 at g1 ⊢
  have hrp : ∃ c2, f_X9_refusePart c1 = some c2 := by
    by_cases e : c1 2 4 = -1
    · exact ⟨_, C_refusePart e⟩
    · exact ⟨_, C_refusePartX e⟩
  obtain ⟨c2, hc2⟩ := hrp
  rw [hc2, Option.bind_some] at g1 ⊢
  have bad : ∀ {x' : Int}, some (x1, c2) = some (x', c') → x1 = x' ∧ c2 = c' := fun e => Prod.mk.inj (Option.some.inj e)
  rcases g5 with ⟨a1, a2, a3, a4, a5, a6, a7⟩ | ⟨a1, a2, a3, a4⟩
  · -- sound with the wider bound
    by_cases d1 : c1 2 2 = c1 2 3
    · rw [if_pos d1] at g1
      obtain ⟨e1, e2⟩ := bad g1
      have hv' : c' 2 4 = -1 := a1.2.2.2.2.2.1
      rw [C_refusePart hf4] at hc2
      have e3 := Option.some.inj hc2
      rw [← e2, ← e3, u2_e] at hv'
      omega
    · rw [if_neg d1] at g1 ⊢
      by_cases d2 : x1 < lo
      · exfalso
        rw [if_pos d2] at g1
        have := (bad g1).1
        omega
      · rw [if_neg d2] at g1 ⊢
        by_cases d3 : x1 ≤ hi
        · rw [if_pos d3] at g1
          obtain ⟨e1, e2⟩ : x1 = x ∧ c1 = c' := Prod.mk.inj (Option.some.inj g1)
          by_cases d4 : x1 ≤ hi'
          · rw [if_pos d4]
            exact ⟨x1, y, c1, r', s, q, rfl, g2, by rw [e2]; exact g3, g4, Or.inl ⟨by rw [e2]; exact a1, a2, by rw [e2]; exact a3, a4, by omega, by omega, d4⟩⟩
          · rw [if_neg d4]
            have e4 : c1 2 4 = -1 := by
              rw [e2]
              exact a1.2.2.2.2.2.1
            rw [C_refusePart e4] at hc2
            have e3 := Option.some.inj hc2
            have ep : c1 2 3 = q := by
              rw [e2]
              exact a3
            rw [ep, e2] at e3
            have hq0 : 0 ≤ q := by
              rw [← ep]
              exact hf3
            refine ⟨x1, y, c2, r', s, q, rfl, g2, by rw [← e3]; exact g3.u (by unfold SRD; omega), g4, Or.inr (Or.inl ⟨a4, a1.2.2.2.2.2.2, by omega, by omega, by omega, ?_⟩)⟩
            rw [← e3]
            exact a1.fails (c' := c') (r' := r') hq0
        · exfalso
          rw [if_neg d3] at g1
          have := (bad g1).1
          omega
  · -- a fault already
    have hX : TX c' r' q := a1
    have good : f_X9_readNumber_81 lo hi' x1 c1 = some (x1, c') := by
      unfold f_X9_readNumber_81 f_X9_readNumber_102
      rw [hc2, Option.bind_some]
      by_cases d1 : c1 2 2 = c1 2 3
      · rw [if_pos d1] at g1 ⊢
        rw [(bad g1).2]
      · rw [if_neg d1] at g1 ⊢
        by_cases d2 : x1 < lo
        · rw [if_pos d2] at g1 ⊢
          rw [(bad g1).2]
        · rw [if_neg d2] at g1 ⊢
          by_cases d3 : x1 ≤ hi
          · exfalso
            rw [if_pos d3] at g1
            obtain ⟨e1, e2⟩ : x1 = x ∧ c1 = c' := Prod.mk.inj (Option.some.inj g1)
            rw [e2] at hf4
            have := a1.2.2.2
            omega
          · rw [if_neg d3] at g1
            rw [if_neg (by omega), (bad g1).2]
    unfold f_X9_readNumber_81 f_X9_readNumber_102 at good
    rw [hc2, Option.bind_some] at good
    exact ⟨x1, y, c', r', s, q, good, g2, g3, g4, Or.inr (Or.inr ⟨a1, a2⟩)⟩
end S_DF
