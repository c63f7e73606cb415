-- a cluster's line read, both sides
def SLC (a : Nat) : Nat → Nat → Prop := fun b j => SRD b j ∨ (a ≤ b ∧ b < a + 19)
def SLR : Nat → Nat → Prop := fun b j => SRE b j ∨ b = 760 ∨ b = 762 ∨ b = 764 ∨ b = 766 ∨ b = 769 ∨ b = 771 ∨ (b = 758 ∧ (j = 20 ∨ j = 22 ∨ j = 24))
/-- what a line leaves -/
def LN (c r : Nat → Nat → Int) (a : Nat) (p : Int) (t : Int → Prop) : Prop := (∃ s K, TA c r s ∧ p ≤ s ∧ RC c a K ∧ DR r K ∧ WQ K ∧ t (c a 4)) ∨ ∃ f, TX c r f ∧ 0 ≤ c a 0 ∧ c a 0 ≤ 3 ∧ 0 ≤ r 758 20 ∧ r 758 20 ≤ 3
def m_addC (K : Nat → Nat → Int) (x n1 n2 n3 : Int) : Nat → Nat → Int := fun b => if b = 0 then u1 (u1 (K 0) 0 (K 0 0 + 1)) 2 (K 0 2 + n1) else if b = 1 then u1 (K 1) (K 0 0).toNat n1 else if b = 2 then u1 (K 2) (K 0 0).toNat n2 else if b = 3 then u1 (K 3) (K 0 0).toNat n3 else if b = 4 then u1 (K 4) (K 0 0).toNat 0 else if b = 7 then (fun j => if K 0 2 ≤ (j : Int) ∧ (j : Int) < K 0 2 + n1 then K 0 0 else K 7 j) else if b = 11 then u1 (K 11) (K 0 0).toNat x else K b
section S_LI
variable {c r K : Nat → Nat → Int} {a : Nat} {p q f x lo hi n1 n2 n3 : Int}
theorem TPR.other {r' : Nat → Nat → Int} (h : TPR c r) (h2 : r' 758 = r 758) (h9 : r' 759 = r 759) : TPR c r' := h.frame rfl rfl (by rw [h2]) h9
theorem TA.other {r' : Nat → Nat → Int} (h : TA c r p) (h2 : r' 758 = r 758) (h9 : r' 759 = r 759) : TA c r' p := by
  obtain ⟨h1, h3, h4, h5, h6, h7, h8⟩ := h
  exact ⟨h1.other h2 h9, h3, by rw [h2]; exact h4, h5, by rw [h2]; exact h6, h7, by rw [h2]; exact h8⟩
theorem TX.other {r' : Nat → Nat → Int} (h : TX c r f) (h2 : r' 758 = r 758) (h9 : r' 759 = r 759) : TX c r' f := by
  obtain ⟨h1, h3, h4, h5, h6, h7⟩ := h
  exact ⟨h1.other h2 h9, h3, h4, h5, by rw [h2]; exact h6, h7⟩
/-- a number, sound or not before -/
theorem T_numE (h : (∃ p, TA c r p ∧ q ≤ p) ∨ ∃ f, TX c r f) (l0 : 0 ≤ lo) (h0 : hi ≤ 9999) : ∃ x y c' r', f_X9_readNumber lo hi c = some (x, c') ∧ f_X12_number lo hi r = some (y, r') ∧ FM SRD c c' ∧ FM SRE r r' ∧ (((∃ p, TA c r p ∧ q ≤ p) ∧ (∃ s, TA c' r' s ∧ q ≤ s) ∧ y = x ∧ lo ≤ x ∧ x ≤ hi) ∨ ∃ f, TX c' r' f) := by
  rcases h with ⟨p, h, hp⟩ | ⟨f, h⟩
  · obtain ⟨x, y, c', r', s, q', g1, g2, g3, g4, g5⟩ := T_number (lo := lo) (hi := hi) h l0 h0
    refine ⟨x, y, c', r', g1, g2, g3, g4, ?_⟩
    rcases g5 with ⟨a1, a2, a3, a4, a5, a6, a7⟩ | ⟨a1, a2⟩
    · exact Or.inl ⟨⟨p, h, hp⟩, ⟨s, a1, by omega⟩, a5, a6, a7⟩
    · exact Or.inr ⟨q', a1⟩
  · obtain ⟨x, c', g1, g2, g3, g4⟩ := h.number (lo := lo) (hi := hi)
    exact ⟨x, lo, c', r, g1, g2, g4, FM.refl, Or.inr ⟨f, g3⟩⟩
theorem m_first_addC (hn : 0 ≤ K 0 0 ∧ K 0 0 < 3) {v : Int} (hv : v ≤ K 0 0) : m_first (m_addC K x n1 n2 n3) v = m_first K v := by
  have e1 : m_addC K x n1 n2 n3 1 = u1 (K 1) (K 0 0).toNat n1 := rfl
  unfold m_first
  rw [e1]
  have k : K 0 0 = 0 ∨ K 0 0 = 1 ∨ K 0 0 = 2 := by omega
  by_cases d0 : v ≤ 0
  · rw [if_pos d0, if_pos d0]
  rw [if_neg d0, if_neg d0]
  by_cases d1 : v = 1
  · rw [if_pos d1, if_pos d1, u1_i (by omega)]
  rw [if_neg d1, if_neg d1]
  by_cases d2 : v = 2
  · rw [if_pos d2, if_pos d2, u1_i (by omega), u1_i (by omega)]
  · omega
theorem WQ.addC (h : WQ K) (hn : K 0 0 < 3) (hx : NK x) (h1 : 1 ≤ n1) (h1' : n1 ≤ 3) (h1s : K 0 2 + n1 ≤ 6) (h2 : 0 ≤ n2 ∧ n2 ≤ 99) (h3 : 0 ≤ n3 ∧ n3 ≤ 99) : WQ (m_addC K x n1 n2 n3) := by
  obtain ⟨w0, w1, w2, w3, w4, w5, w6, w7, w8⟩ := h
  have e00 : m_addC K x n1 n2 n3 0 0 = K 0 0 + 1 := rfl
  have e01 : m_addC K x n1 n2 n3 0 1 = K 0 1 := rfl
  have e02 : m_addC K x n1 n2 n3 0 2 = K 0 2 + n1 := rfl
  have e03 : m_addC K x n1 n2 n3 0 3 = K 0 3 := rfl
  have e1 : m_addC K x n1 n2 n3 1 = u1 (K 1) (K 0 0).toNat n1 := rfl
  have e2 : m_addC K x n1 n2 n3 2 = u1 (K 2) (K 0 0).toNat n2 := rfl
  have e3 : m_addC K x n1 n2 n3 3 = u1 (K 3) (K 0 0).toNat n3 := rfl
  have e4 : m_addC K x n1 n2 n3 4 = u1 (K 4) (K 0 0).toNat 0 := rfl
  have e5 : m_addC K x n1 n2 n3 5 = K 5 := rfl
  have e6 : m_addC K x n1 n2 n3 6 = K 6 := rfl
  have e7 : ∀ j, m_addC K x n1 n2 n3 7 j = if K 0 2 ≤ (j : Int) ∧ (j : Int) < K 0 2 + n1 then K 0 0 else K 7 j := fun _ => rfl
  have e8 : m_addC K x n1 n2 n3 8 = K 8 := rfl
  have e9 : m_addC K x n1 n2 n3 9 = K 9 := rfl
  have e10 : m_addC K x n1 n2 n3 10 = K 10 := rfl
  have e11 : m_addC K x n1 n2 n3 11 = u1 (K 11) (K 0 0).toNat x := rfl
  have e12 : m_addC K x n1 n2 n3 12 = K 12 := rfl
  have mf := fun v => m_first_addC (K := K) (x := x) (n1 := n1) (n2 := n2) (n3 := n3) (v := v) (by omega)
  unfold WQ
  rw [e00, e01, e02, e03, e1, e2, e3, e4, e5, e6, e8, e9, e10, e11, e12]
  refine ⟨by omega, ?_, fun c c0 c1 => ?_, fun c p c0 c1 p0 p1 => ?_, fun c p c0 c1 p0 p1 => ?_, ?_, fun v v0 v1 => ?_, w7, w8⟩
  · rw [m_first_s (by omega) (by omega), mf _ (Int.le_refl _), ← w1, e1, u1_e]
  · by_cases d : c = K 0 0
    · rw [d, u1_e, u1_e, u1_e, u1_e, u1_e]
      exact ⟨h1, h1', h2.1, h2.2, h3.1, h3.2, by omega, by omega, hx⟩
    · rw [u1_i (by omega), u1_i (by omega), u1_i (by omega), u1_i (by omega), u1_i (by omega)]
      exact w2 c c0 (by omega)
  · by_cases d : c = K 0 0
    · rw [d, u1_e] at p1
      omega
    · rw [u1_i (by omega)] at p1
      exact w3 c p c0 (by omega) p0 p1
  · by_cases d : c = K 0 0
    · rw [d, u1_e] at p1
      omega
    · rw [u1_i (by omega)] at p1 ⊢
      exact w4 c p c0 (by omega) p0 p1
  · rcases w5 with e | ⟨c, c0, c1, c2, c3⟩
    · exact Or.inl e
    · exact Or.inr ⟨c, c0, by omega, by rw [u1_i (by omega)]; exact c2, by rw [u1_i (by omega)]; exact c3⟩
  · rw [e7]
    by_cases d : K 0 2 ≤ (v.toNat : Int) ∧ (v.toNat : Int) < K 0 2 + n1
    · rw [if_pos d, mf _ (Int.le_refl _), u1_e, ← w1]
      omega
    · rw [if_neg d]
      have hv := w6 v v0 (by omega)
      rw [mf _ (by omega), u1_i (by omega)]
      omega
theorem C_addCluster (hC : RC c a K) (hW : WQ K) (hn : K 0 0 < 3) (h1 : 1 ≤ n1) (h1' : n1 ≤ 3) (h1s : K 0 2 + n1 ≤ 6) : ∃ c', f_X1_addCluster a x n1 n2 n3 c = some c' ∧ RC c' a (m_addC K x n1 n2 n3) ∧ c' a 4 = c a 4 ∧ FM (fun b _ => a ≤ b ∧ b < a + 19) c c' := by
  have hw := hW.1
  have st : ∀ (m k : Nat) (v : Int) (d : Nat → Nat → Int), 0 ≤ v → v + m = n1 → m < k → d a 0 = K 0 0 → d a 2 = K 0 2 → ∃ d', f_X1_addCluster_75 k a n1 v d = some d' ∧ d' a 0 = K 0 0 + 1 ∧ d' a 2 = K 0 2 + n1 ∧ (∀ j : Nat, d' (a + 14) j = if K 0 2 + v ≤ (j : Int) ∧ (j : Int) < K 0 2 + n1 then K 0 0 else d (a + 14) j) ∧ FM (fun b j => b = a + 14 ∨ (b = a ∧ (j = 0 ∨ j = 2))) d d' := by
    intro m
    induction m with
    | zero =>
      intro k v d v0 hv hk d0 d2
      obtain ⟨k, rfl⟩ : ∃ j, k = j + 1 := ⟨k - 1, by omega⟩
      refine ⟨u2 (u2 d a 2 (K 0 2 + n1)) a 0 (K 0 0 + 1), ?_, u2_e, by rw [u2_i (by omega), u2_e], fun j => ?_, (FM.refl.u (by omega)).u (by omega)⟩
      · rw [f_X1_addCluster_75, if_pos (by omega), d2, zid (x := K 0 2 + n1) (by omega) (by omega), u2_i (show (0 : Nat) ≠ 2 by omega), d0, zid (x := K 0 0 + 1) (by omega) (by omega)]
      · rw [u2_c (by omega), u2_c (by omega), if_neg (by omega)]
    | succ m ih =>
      intro k v d v0 hv hk d0 d2
      obtain ⟨k, rfl⟩ : ∃ j, k = j + 1 := ⟨k - 1, by omega⟩
      obtain ⟨d', g1, g2, g3, g4, g5⟩ := ih k (v + 1) (u2 d (a + 14) (K 0 2 + v).toNat (K 0 0)) (by omega) (by omega) (by omega) ((u2_c (by omega)).trans d0) ((u2_c (by omega)).trans d2)
      refine ⟨d', ?_, g2, g3, fun j => ?_, (FM.refl.u (Or.inl rfl)).trans g5⟩
      · rw [f_X1_addCluster_75, if_neg (by omega), d2, zid (x := K 0 2 + v) (by omega) (by omega), if_pos (by omega), d0, zid (x := v + 1) (by omega) (by omega)]
        exact g1
      · rw [g4]
        by_cases e : j = (K 0 2 + v).toNat
        · rw [if_pos (show K 0 2 + v ≤ (j : Int) ∧ (j : Int) < K 0 2 + n1 by omega)]
          by_cases e2 : K 0 2 + (v + 1) ≤ (j : Int) ∧ (j : Int) < K 0 2 + n1
          · rw [if_pos e2]
          · rw [if_neg e2, e, u2_e]
        · rw [u2_i e]
          by_cases e2 : K 0 2 + v ≤ (j : Int) ∧ (j : Int) < K 0 2 + n1
          · rw [if_pos e2, if_pos (by omega)]
          · rw [if_neg e2, if_neg (by omega)]
  have h0 := hC.n0
  have h2 := hC.n2
  obtain ⟨c', g1, g2, g3, g4, g5⟩ := st n1.toNat 100000 0 (u2 (u2 (u2 (u2 (u2 c (a + 1) (K 0 0).toNat x) (a + 2) (K 0 0).toNat n1) (a + 3) (K 0 0).toNat n2) (a + 4) (K 0 0).toNat n3) (a + 5) (K 0 0).toNat 0) (Int.le_refl 0) (by omega) (by omega) (by simp (disch := first | assumption | omega) only [if_true, if_false, zid, zlid, if_pos, if_neg, u2_e, u2_c, u2_i, u1_e, u1_i, Option.bind_some]; exact h0) (by simp (disch := first | assumption | omega) only [if_true, if_false, zid, zlid, if_pos, if_neg, u2_e, u2_c, u2_i, u1_e, u1_i, Option.bind_some]; exact h2)
  refine ⟨c', ?_, ?_, ?_, ?_⟩
  · unfold f_X1_addCluster
    have z6 : z_w (K 0 2 + n1) = K 0 2 + n1 := zid (by omega) (by omega)
    have b3 : 0 ≤ K 0 0 ∧ K 0 0 < 3 := by omega
    rw [h0, if_neg (show ¬ 3 ≤ K 0 0 by omega), h2, z6, if_pos h1s]
    simp (disch := omega) only [u2_c, h0, if_pos b3]
    exact g1
  · have gf : ∀ b, a < b → b ≠ a + 14 → c' b = (u2 (u2 (u2 (u2 (u2 c (a + 1) (K 0 0).toNat x) (a + 2) (K 0 0).toNat n1) (a + 3) (K 0 0).toNat n2) (a + 4) (K 0 0).toNat n3) (a + 5) (K 0 0).toNat 0) b := fun b b0 b1 => funext fun j => g5 b j (by omega)
    have f1 : c' (a + 1) = u1 (c (a + 1)) (K 0 0).toNat x := by
      rw [gf (a + 1) (by omega) (by omega), u2_ne (by omega), u2_ne (by omega), u2_ne (by omega), u2_ne (by omega), u2_row]
    have f2 : c' (a + 2) = u1 (c (a + 2)) (K 0 0).toNat n1 := by
      rw [gf (a + 2) (by omega) (by omega), u2_ne (by omega), u2_ne (by omega), u2_ne (by omega), u2_row, u2_ne (by omega)]
    have f3 : c' (a + 3) = u1 (c (a + 3)) (K 0 0).toNat n2 := by
      rw [gf (a + 3) (by omega) (by omega), u2_ne (by omega), u2_ne (by omega), u2_row, u2_ne (by omega), u2_ne (by omega)]
    have f4 : c' (a + 4) = u1 (c (a + 4)) (K 0 0).toNat n3 := by
      rw [gf (a + 4) (by omega) (by omega), u2_ne (by omega), u2_row, u2_ne (by omega), u2_ne (by omega), u2_ne (by omega)]
    have f5 : c' (a + 5) = u1 (c (a + 5)) (K 0 0).toNat 0 := by
      rw [gf (a + 5) (by omega) (by omega), u2_row, u2_ne (by omega), u2_ne (by omega), u2_ne (by omega), u2_ne (by omega)]
    have fo : ∀ b, a + 5 < b → b ≠ a + 14 → c' b = c b := fun b b0 b1 => by
      rw [gf b (by omega) b1, u2_ne (by omega), u2_ne (by omega), u2_ne (by omega), u2_ne (by omega), u2_ne (by omega)]
    obtain ⟨⟨r0, r1, r2, r3⟩, r4, r5, r6, r7, r8⟩ := hC
    have e1 : c' a 1 = c a 1 := by rw [g5 a 1 (by omega), u2_ne (by omega), u2_ne (by omega), u2_ne (by omega), u2_ne (by omega), u2_ne (by omega)]
    have e3 : c' a 3 = c a 3 := by rw [g5 a 3 (by omega), u2_ne (by omega), u2_ne (by omega), u2_ne (by omega), u2_ne (by omega), u2_ne (by omega)]
    refine ⟨⟨g2, e1.trans r1, g3, e3.trans r3⟩, fun v v0 v1 => ?_, fun v p v0 v1 p0 p1 => ?_, fun v v0 v1 => ?_, fun t t0 t1 => ?_, fun i hi => ?_⟩
    · show c' (a + 1) v.toNat = u1 (K 11) (K 0 0).toNat x v.toNat ∧ c' (a + 2) v.toNat = u1 (K 1) (K 0 0).toNat n1 v.toNat ∧ c' (a + 3) v.toNat = u1 (K 2) (K 0 0).toNat n2 v.toNat ∧ c' (a + 4) v.toNat = u1 (K 3) (K 0 0).toNat n3 v.toNat ∧ c' (a + 5) v.toNat = u1 (K 4) (K 0 0).toNat 0 v.toNat
      have v1' : v < K 0 0 + 1 := v1
      rw [f1, f2, f3, f4, f5]
      by_cases d : v = K 0 0
      · rw [d, u1_e, u1_e, u1_e, u1_e, u1_e, u1_e, u1_e, u1_e, u1_e, u1_e]
        exact ⟨rfl, rfl, rfl, rfl, rfl⟩
      · have hv : v.toNat ≠ (K 0 0).toNat := by omega
        rw [u1_i hv, u1_i hv, u1_i hv, u1_i hv, u1_i hv, u1_i hv, u1_i hv, u1_i hv, u1_i hv, u1_i hv]
        exact r4 v v0 (by omega)
    · have v1' : v < K 0 0 + 1 := v1
      have p1' : p < u1 (K 4) (K 0 0).toNat 0 v.toNat := p1
      show c' (a + 7 + v.toNat) p.toNat = K 5 (5 * v + p).toNat ∧ c' (a + 11 + v.toNat) p.toNat = K 6 (5 * v + p).toNat
      by_cases d : v = K 0 0
      · rw [d, u1_e] at p1'
        omega
      · rw [u1_i (by omega)] at p1'
        rw [fo _ (by omega) (by omega), fo _ (by omega) (by omega)]
        exact r5 v p v0 (by omega) p0 p1'
    · have v1' : v < K 0 2 + n1 := v1
      show c' (a + 14) v.toNat = if K 0 2 ≤ (v.toNat : Int) ∧ (v.toNat : Int) < K 0 2 + n1 then K 0 0 else K 7 v.toNat
      rw [g4, Int.add_zero]
      by_cases d : K 0 2 ≤ (v.toNat : Int) ∧ (v.toNat : Int) < K 0 2 + n1
      · rw [if_pos d, if_pos d]
      · rw [if_neg d, if_neg d, u2_ne (by omega), u2_ne (by omega), u2_ne (by omega), u2_ne (by omega), u2_ne (by omega)]
        exact r6 v v0 (by omega)
    · rw [fo _ (by omega) (by omega), fo _ (by omega) (by omega), fo _ (by omega) (by omega)]
      exact r7 t t0 t1
    · rw [fo _ (by omega) (by omega)]
      exact r8 i hi
  · rw [g5 a 4 (by omega), u2_ne (by omega), u2_ne (by omega), u2_ne (by omega), u2_ne (by omega), u2_ne (by omega)]
  · exact (((((FM.refl.u (by omega)).u (by omega)).u (by omega)).u (by omega)).u (by omega)).trans (g5.mono (fun b j hb => by omega))
end S_LI
