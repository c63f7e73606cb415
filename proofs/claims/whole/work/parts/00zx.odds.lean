-- by what odds all tasks fit, both sides
def bn (S t : Nat) : Nat := S / 2 ^ t % 2
theorem bn_c : ∀ S : Fin 16, ∀ t : Fin 4, z_and (z_ushr ((S.val : Nat) : Int) ((t.val : Nat) : Int)) 1 = ((bn S.val t.val : Nat) : Int) := by decide +kernel
theorem bn_r : ∀ S : Fin 16, ∀ t : Fin 4, z_and (z_shr ((S.val : Nat) : Int) ((t.val : Nat) : Int)) 1 = ((bn S.val t.val : Nat) : Int) := by decide +kernel
theorem bn_b : ∀ S : Fin 16, ∀ t : Fin 4, ((S.val : Nat) : Int) / 2 ^ t.val % 2 = ((bn S.val t.val : Nat) : Int) := by decide +kernel
theorem bn_01 {S t : Nat} : bn S t = 0 ∨ bn S t = 1 := by unfold bn; omega
theorem o_shl : ∀ n : Fin 5, z_shl 1 ((n.val : Nat) : Int) = ((2 ^ n.val : Nat) : Int) := by decide +kernel
def oB (n D S : Nat) : Bool := (List.range n).all fun t => bn D t == 0 || bn S t == 1
def oD (n D S : Nat) : Bool := (List.range n).all fun t => bn D t == 0 || bn S t == 0
theorem o_list {n D : Nat} (h4 : n < 5) (hD : D < 2 ^ n) : (List.range (2 ^ n)).filter (oB n D) = ((List.range (2 ^ n)).filter (oD n D)).map (fun S => S + D) := by
  rcases (show n = 0 ∨ n = 1 ∨ n = 2 ∨ n = 3 ∨ n = 4 by omega) with rfl | rfl | rfl | rfl | rfl
  · rcases (show D = 0 by omega) with rfl
    all_goals decide +kernel
  · rcases (show D = 0 ∨ D = 1 by omega) with rfl | rfl
    all_goals decide +kernel
  · rcases (show D = 0 ∨ D = 1 ∨ D = 2 ∨ D = 3 by omega) with rfl | rfl | rfl | rfl
    all_goals decide +kernel
  · rcases (show D = 0 ∨ D = 1 ∨ D = 2 ∨ D = 3 ∨ D = 4 ∨ D = 5 ∨ D = 6 ∨ D = 7 by omega) with rfl | rfl | rfl | rfl | rfl | rfl | rfl | rfl
    all_goals decide +kernel
  · rcases (show D = 0 ∨ D = 1 ∨ D = 2 ∨ D = 3 ∨ D = 4 ∨ D = 5 ∨ D = 6 ∨ D = 7 ∨ D = 8 ∨ D = 9 ∨ D = 10 ∨ D = 11 ∨ D = 12 ∨ D = 13 ∨ D = 14 ∨ D = 15 by omega) with rfl | rfl | rfl | rfl | rfl | rfl | rfl | rfl | rfl | rfl | rfl | rfl | rfl | rfl | rfl | rfl
    all_goals decide +kernel
theorem o_bit : ∀ n : Fin 5, ∀ D S : Fin 16, D.val < 2 ^ n.val → S.val < 2 ^ n.val → oD n.val D.val S.val = true → S.val + D.val < 2 ^ n.val ∧ ∀ t : Fin 4, t.val < n.val → bn (S.val + D.val) t.val = if bn D.val t.val = 1 then 1 else bn S.val t.val := by decide +kernel
theorem o_pow : ∀ n : Fin 5, 1 ≤ 2 ^ n.val ∧ 2 ^ n.val ≤ 16 := by decide
theorem oB_s {n D S : Nat} : oB (n + 1) D S = (oB n D S && (bn D n == 0 || bn S n == 1)) := by
  unfold oB
  rw [List.range_succ, List.all_append]
  simp
theorem oD_s {n D S : Nat} : oD (n + 1) D S = (oD n D S && (bn D n == 0 || bn S n == 0)) := by
  unfold oD
  rw [List.range_succ, List.all_append]
  simp
theorem oB_at {n D S t : Nat} (h : oB n D S = true) (ht : t < n) (hd : bn D t = 1) : bn S t = 1 := by
  unfold oB at h
  rw [List.all_eq_true] at h
  have := h t (List.mem_range.mpr ht)
  rw [hd] at this
  simpa using this
theorem iter_filter {p : Nat → Bool} {g : Nat → Int → Int} {X : Int → Int → Int} (hX : ∀ (m : Nat) (a : Int), X (m : Int) a = if p m = true then g m a else a) : ∀ (n : Nat) (a : Int), iter X n 0 a = ((List.range n).filter p).foldl (fun a m => g m a) a := by
  intro n
  induction n with
  | zero => intro a; rfl
  | succ n ih =>
    intro a
    rw [iter_snoc, ih, List.range_succ, List.filter_append, List.foldl_append, show (0 : Int) + (n : Int) = (n : Int) from by omega, hX]
    by_cases h : p n = true
    · simp [h]
    · simp [h]
theorem iter_congr0 {α : Type} {X Y : Int → α → α} {hi : Int} (h : ∀ v a, 0 ≤ v → v < hi → X v a = Y v a) : ∀ (n : Nat) (v : Int) (a : α), 0 ≤ v → v + n ≤ hi → iter X n v a = iter Y n v a := by
  intro n
  induction n with
  | zero => intro v a _ _; rfl
  | succ n ih =>
    intro v a h0 hv
    show iter X n (v + 1) (X v a) = iter Y n (v + 1) (Y v a)
    rw [h v a h0 (by omega), ih (v + 1) (Y v a) (by omega) (by omega)]
def m_ptS (w : Nat → Int) (ch : Int) (S : Nat) (t v : Int) : Int := if w (37 + t).toNat = 1 then v else if bn S t.toNat = 1 then Int.tdiv (v * ch) 100 else v - Int.tdiv (v * ch) 100
def m_pt (K : Nat → Nat → Int) (w : Nat → Int) (ch : Int) (S : Nat) : Int := iter (m_ptS w ch S) (K 0 1).toNat 0 1000000000
def m_shO (K : Nat → Nat → Int) (w : Nat → Int) (S : Nat) : Nat → Int := fun t => if w (37 + t) = 1 ∨ bn S t = 1 then 0 else m_shr K t
def m_oddS (K : Nat → Nat → Int) (w : Nat → Int) (ch : Int) (S : Nat) (acc : Int) : Int := z_w (acc + (if (m_best K w (m_shO K w S)).1 = -1 then 0 else m_pt K w ch S))
def m_oddC (K : Nat → Nat → Int) (w : Nat → Int) (ch : Int) (D : Nat) (S acc : Int) : Int := if oB (K 0 1).toNat D S.toNat = true then m_oddS K w ch S.toNat acc else acc
def m_oddR (K : Nat → Nat → Int) (w : Nat → Int) (ch : Int) (D : Nat) (S acc : Int) : Int := if oD (K 0 1).toNat D S.toNat = true then m_oddS K w ch (S.toNat + D) acc else acc
theorem o_div {g ch : Int} (g0 : 0 ≤ g) (c0 : 0 ≤ ch) (c1 : ch ≤ 100) : 0 ≤ g * ch ∧ g * ch ≤ 100 * g ∧ 0 ≤ Int.tdiv (g * ch) 100 ∧ Int.tdiv (g * ch) 100 ≤ g := by
  have h1 : 0 ≤ g * ch := Int.mul_nonneg g0 c0
  have h2 : g * ch ≤ g * 100 := Int.mul_le_mul_of_nonneg_left c1 g0
  rw [Int.tdiv_eq_ediv_of_nonneg h1]
  omega
section S_OD
variable {σ K : Nat → Nat → Int} {a a1 : Nat} {w : Nat → Int} {ch : Int} {D S n : Nat}
theorem m_odds_eq (hn : K 0 1 = n) (h4 : n < 5) (hD : D < 2 ^ n) : iter (m_oddC K w ch D) (2 ^ n) 0 0 = iter (m_oddR K w ch D) (2 ^ n) 0 0 := by
  have hp := o_pow ⟨n, h4⟩
  have e : (K 0 1).toNat = n := by omega
  rw [iter_filter (p := oB n D) (g := fun m a => m_oddS K w ch m a) (X := m_oddC K w ch D) (fun m a => by unfold m_oddC; rw [e, Int.toNat_natCast]), iter_filter (p := oD n D) (g := fun m a => m_oddS K w ch (m + D) a) (X := m_oddR K w ch D) (fun m a => by unfold m_oddR; rw [e, Int.toNat_natCast])]
  rw [o_list h4 hD, List.foldl_map]
theorem m_shO_in (hK : WK K) : SH0 K (m_shO K w S) := fun t h0 h1 => by
  have := m_shr_in hK h0 h1
  unfold m_shO
  split
  · omega
  · rw [show ((t.toNat : Nat) : Int) = t from by omega]
    omega
theorem m_ptS_in {t v : Int} (h : 0 ≤ v ∧ v ≤ 1000000000) (hc : 0 ≤ ch ∧ ch ≤ 100) : 0 ≤ m_ptS w ch S t v ∧ m_ptS w ch S t v ≤ 1000000000 := by
  have := o_div h.1 hc.1 hc.2
  unfold m_ptS
  split
  · exact h
  · split <;> omega
theorem m_pt_in (hc : 0 ≤ ch ∧ ch ≤ 100) : 0 ≤ m_pt K w ch S ∧ m_pt K w ch S ≤ 1000000000 :=
  iter_inv (X := m_ptS w ch S) (hi := ((K 0 1).toNat : Int)) (fun _ v => 0 ≤ v ∧ v ≤ 1000000000) (fun t v _ hp => m_ptS_in hp hc) (K 0 1).toNat 0 1000000000 (by omega) (by omega)
/-- the bits D tell who is stopped -/
def DW (K : Nat → Nat → Int) (w : Nat → Int) (D n : Nat) : Prop := K 0 1 = n ∧ n < 5 ∧ D < 2 ^ n ∧ ∀ t, t < n → w (37 + t) = ((bn D t : Nat) : Int)
theorem DW.of (hR : RS σ a K w (-1) 0) (hK : WK K) : DW K w (σ a 5).toNat (K 0 1).toNat := by
  have hkn := hK.n
  obtain ⟨b0, b1, b2⟩ := hR.b5
  have h4 : (K 0 1).toNat < 5 := by omega
  have hp := o_pow ⟨(K 0 1).toNat, h4⟩
  dsimp only at hp
  have ep : ((2 ^ (K 0 1).toNat : Nat) : Int) = 2 ^ (K 0 1).toNat := by rw [Int.natCast_pow]; rfl
  have hlt : (σ a 5).toNat < 2 ^ (K 0 1).toNat := by omega
  refine ⟨by omega, h4, hlt, fun t ht => ?_⟩
  have h := b2 (t : Int) (by omega) (by omega)
  dsimp only at h
  rw [Int.toNat_natCast] at h
  have h2 := bn_b ⟨(σ a 5).toNat, by omega⟩ ⟨t, by omega⟩
  dsimp only at h2
  rw [Int.toNat_of_nonneg b0] at h2
  rw [h, h2]
theorem C_bitS (hS : S < 16) {t : Nat} (ht : t < 4) : f_X11_bitOf (S : Int) (t : Int) σ = some ((bn S t : Nat) : Int) := by
  unfold f_X11_bitOf
  rw [if_neg (by omega), if_pos (by omega), bn_c ⟨S, hS⟩ ⟨t, ht⟩]
theorem C_partOf (hR : RS σ a K w (-1) 0) (hC : RC σ a1 K) (hK : WK K) (hS : WS K w) (hW : DW K w D n) (hs : S < 16) (hc : 0 ≤ ch ∧ ch ≤ 100) : f_X5_partOf a1 a (S : Int) ch σ = some (if oB n D S = true then m_pt K w ch S else 0) := by
  obtain ⟨e1, h4, hD, hb⟩ := hW
  have h := sim_loop (F := fun k t (q : Int) => f_X5_partOf_8 k a1 a (S : Int) ch q t σ) (X := m_ptS w ch S) (hi := (n : Int))
    (fun t q g => 0 ≤ t ∧ q = (if oB t.toNat D S = true then g else 0) ∧ 0 ≤ g ∧ g ≤ 1000000000)
    (fun g r => r = some (if oB n D S = true then g else 0))
    (fun k t q g ht hq => by
      obtain ⟨t0, q0, g0, g1⟩ := hq
      obtain ⟨t, rfl⟩ : ∃ m : Nat, t = (m : Int) := ⟨t.toNat, by omega⟩
      rw [Int.toNat_natCast] at q0
      have hx : w (37 + t) = ((bn D t : Nat) : Int) := hb t (by omega)
      have hg := o_div g0 hc.1 hc.2
      have hst := C_isStopped (t := (t : Int)) hR hK hS (by omega) (by omega)
      rw [show (37 + (t : Int)).toNat = 37 + t from by omega] at hst
      have e3 : ((t : Int) + 1).toNat = t + 1 := by omega
      have key : f_X5_partOf_8 (k + 1) a1 a (S : Int) ch q (t : Int) σ = f_X5_partOf_8 k a1 a (S : Int) ch (if bn S t = 1 then (if w (37 + t) = 0 then Int.tdiv (q * ch) 100 else q) else q - (if w (37 + t) = 0 then Int.tdiv (q * ch) 100 else q)) ((t : Int) + 1) σ := by
        have hq0 : 0 ≤ q ∧ q ≤ 1000000000 := by
          rw [q0]
          split <;> omega
        have hqd := o_div hq0.1 hc.1 hc.2
        rw [f_X5_partOf_8, hC.n1, if_neg (by omega), hst, Option.bind_some]
        unfold f_X5_partOf_41
        rw [C_bitS hs (by omega), Option.bind_some, zid (x := (t : Int) + 1) (by omega) (by omega), zlid (x := q * ch) (by omega) (by omega), zlid (x := Int.tdiv (q * ch) 100) (by omega) (by omega)]
        by_cases c : bn S t = 1
        · rw [if_pos (by omega), if_pos c]
        · rw [if_neg (by omega), if_neg c]
          by_cases c2 : w (37 + t) = 0
          · rw [if_pos c2, zlid (by omega) (by omega)]
          · rw [if_neg c2, zlid (by omega) (by omega)]
      refine ⟨_, key, by omega, ?_, m_ptS_in ⟨g0, g1⟩ hc⟩
      rw [e3, oB_s, q0]
      unfold m_ptS
      rw [show (37 + (t : Int)).toNat = 37 + t from by omega, Int.toNat_natCast, hx]
      rcases bn_01 (S := D) (t := t) with c | c <;> rcases bn_01 (S := S) (t := t) with d | d <;> cases hob : oB t D S <;> simp [c, d])
    (fun k q g hq => by
      obtain ⟨t0, q0, g0, g1⟩ := hq
      rw [Int.toNat_natCast] at q0
      rw [f_X5_partOf_8, hC.n1, if_pos (by omega), zid (x := q) (by rw [q0]; split <;> omega) (by rw [q0]; split <;> omega), q0])
    n 100000 0 1000000000 1000000000 (by omega) (by omega) ⟨by omega, rfl, by omega, by omega⟩
  unfold f_X5_partOf m_pt
  rw [h, show (K 0 1).toNat = n from by omega]
theorem m_best_fit (hK : WK K) (hS : WS K w) {sh : Nat → Int} (h : SH0 K sh) : ((m_best K w sh).1 = -1 ↔ ∀ i : Int, 0 ≤ i → i < m_pow K → m_pr K w sh i = -1) := by
  have hpw := m_pow_in hK
  have hb := m_best_in hK hS h (m_pow K).toNat
  have e : m_best K w sh = iter (m_bestS K w sh) (m_pow K).toNat 0 (-1, -1) := rfl
  rw [e]
  generalize iter (m_bestS K w sh) (m_pow K).toNat 0 (-1, -1) = b at *
  constructor
  · intro q i i0 i1
    rcases hb with hb | hb
    · exact hb.2.2 i i0 (by omega)
    · omega
  · intro q
    rcases hb with hb | hb
    · exact hb.1
    · have := q b.1 hb.1 (by omega)
      omega
theorem C_fits61 (hK : WK K) (hS : WS K w) (ha1 : a1 + 19 ≤ 42) {sh : Nat → Int} (hh : SH0 K sh) : ∀ (m k : Nat) (v : Int) (σ : Nat → Nat → Int), RC σ a1 K → RPL σ K w sh → 0 ≤ v → v + m = m_pow K → m < k → (∀ i : Int, 0 ≤ i → i < v → m_pr K w sh i = -1) →
    ∃ σ', f_X5_someWayFits_61 k a1 (m_pow K) v σ = some (if (m_best K w sh).1 = -1 then 0 else 1, σ') ∧ FM SF σ σ' := by
  have hkn := hK.n
  have hpw := m_pow_in hK
  intro m
  induction m with
  | zero =>
    intro k v σ hC hL h0 hv hk hi
    obtain ⟨k, rfl⟩ : ∃ j, k = j + 1 := ⟨k - 1, by omega⟩
    refine ⟨σ, ?_, FM.refl⟩
    rw [f_X5_someWayFits_61, if_pos (by omega), if_pos ((m_best_fit hK hS hh).mpr (fun i i0 i1 => hi i i0 (by omega)))]
  | succ m ih =>
    intro k v σ hC hL h0 hv hk hi
    obtain ⟨k, rfl⟩ : ∃ j, k = j + 1 := ⟨k - 1, by omega⟩
    obtain ⟨q1, g1, g2, g3⟩ := C_spread hC hK ha1 h0 (n := v) (by omega)
    have hCq1 := hC.frame (σ' := q1) (by omega) (fun c _ _ => g3 c (by omega))
    have hLq1 := hL.fr (g3 748 (by omega)) (g3 749 (by omega)) (g3 750 (by omega))
    obtain ⟨q2, k1, k2⟩ := C_priceOf hCq1 hK hS ha1 hh hLq1 (pt := m_ptw K v) (fun t t0 t1 => by
      rw [g2 t t0 t1]
      unfold m_ptw
      rw [Int.toNat_of_nonneg t0])
    rw [show m_price K w sh (m_ptw K v) = m_pr K w sh v from rfl] at k1
    have hf2 : FM SF σ q2 := (g3.fm (fun c j hc => by unfold SF; omega)).trans (k2.fm (fun c j hc => by unfold SF; omega))
    rw [f_X5_someWayFits_61, if_neg (by omega), g1, Option.bind_some, k1, Option.bind_some]
    dsimp only
    by_cases d : m_pr K w sh v = -1
    · rw [if_pos d, zid (by omega) (by omega)]
      obtain ⟨σ', l1, l2⟩ := ih k (v + 1) q2 (hCq1.frame (by omega) (fun c _ _ => k2 c (by omega))) (hLq1.fr (k2 748 (by omega)) (k2 749 (by omega)) (k2 750 (by omega))) (by omega) (by omega) (by omega) (fun i i0 i1 => by
        by_cases e : i = v
        · rw [e]; exact d
        · exact hi i i0 (by omega))
      exact ⟨σ', l1, hf2.trans l2⟩
    · rw [if_neg d, if_neg (fun q => d ((m_best_fit hK hS hh).mp q v h0 (by omega)))]
      exact ⟨q2, rfl, hf2⟩
theorem C_fits (hR : RS σ a K w (-1) 0) (hC : RC σ a1 K) (hK : WK K) (hS : WS K w) (ha1 : a1 + 19 ≤ 42) (ha : 173 ≤ a) (ha2 : a + 13 ≤ 743) (hW : DW K w D n) (hs : S < 16) (hB : oB n D S = true) :
    ∃ σ', f_X5_someWayFits a1 a (S : Int) σ = some (if (m_best K w (m_shO K w S)).1 = -1 then 0 else 1, σ') ∧ FM SF σ σ' := by
  have hkn := hK.n
  have hpw := m_pow_in hK
  obtain ⟨e1, h4, hD, hb⟩ := hW
  obtain ⟨σ1, l1, l2, l3⟩ := C_look hR hC hK hS ha1 ha ha2
  have hf1 : FM SF σ σ1 := l3.fm (fun c j hc => by unfold SF; omega)
  have h := hoare_loop (F := fun k t (q : Nat → Nat → Int) => f_X5_someWayFits_9 k a1 (S : Int) t q) (hi := (n : Int))
    (fun t q => 0 ≤ t ∧ FM (fun c _ => c = 748) σ1 q ∧ ∀ i : Nat, (i : Int) < t → q 748 i = m_shO K w S i)
    (fun r => r.1 = (if (m_best K w (m_shO K w S)).1 = -1 then 0 else 1) ∧ FM SF σ r.2)
    (fun k t q ht hp => by
      obtain ⟨t0, p1, p2⟩ := hp
      obtain ⟨t, rfl⟩ : ∃ m : Nat, t = (m : Int) := ⟨t.toNat, by omega⟩
      have hCq := hC.frame (σ' := q) (by omega) (fun c _ _ => (funext fun j => p1 c j (by omega) : q c = σ1 c).trans (l3 c (by omega)))
      have hx := hb t (by omega)
      refine ⟨u2 q 748 t (m_shO K w S t), ?_, by omega, p1.u rfl, fun i hi => ?_⟩
      · rw [f_X5_someWayFits_9, hCq.n1, if_neg (by omega), C_bitS hs (by omega), Option.bind_some, zid (x := (t : Int) + 1) (by omega) (by omega)]
        unfold m_shO
        by_cases c : bn S t = 1
        · rw [if_pos (by omega), if_pos (by omega), if_pos (Or.inr c), Int.toNat_natCast]
        · have hd : bn D t = 0 := by
            rcases bn_01 (S := D) (t := t) with q | q
            · exact q
            · exact absurd (oB_at hB (by omega) q) c
          rw [if_neg (by omega), C_chipShareOf hCq hK (t := (t : Int)) (by omega) (by omega), Option.bind_some, if_pos (by omega), if_neg (by rw [hx, hd]; omega), Int.toNat_natCast]
      · by_cases e : i = t
        · rw [e, u2_e]
        · rw [u2_i e]
          exact p2 i (by omega))
    (fun k q hp => by
      obtain ⟨t0, p1, p2⟩ := hp
      have gq : ∀ c, c ≠ 748 → q c = σ1 c := fun c hc => funext fun j => p1 c j hc
      have hCq := hC.frame (σ' := q) (by omega) (fun c _ _ => (gq c (by omega)).trans (l3 c (by omega)))
      have hLq : RPL q K w (m_shO K w S) := ⟨fun t t0 t1 => p2 t.toNat (by omega), fun c c0 c1 => by
        rw [gq 749 (by omega), gq 750 (by omega)]
        exact l2.2 c c0 c1⟩
      obtain ⟨σ', k1, k2⟩ := C_fits61 hK hS ha1 (m_shO_in (w := w) (S := S) hK) (m_pow K).toNat 100000 0 q hCq hLq (by omega) (by omega) (by omega) (fun i i0 i1 => by omega)
      refine ⟨(if (m_best K w (m_shO K w S)).1 = -1 then 0 else 1, σ'), ?_, rfl, (hf1.trans (p1.mono (fun c j hc => by unfold SF; omega))).trans k2⟩
      rw [f_X5_someWayFits_9, hCq.n1, if_pos (by omega), C_waysOf hCq hK, Option.bind_some, k1])
    n 100000 0 σ1 (by omega) (by omega) ⟨by omega, FM.refl, fun i hi => by omega⟩
  obtain ⟨b, g1, g2, g3⟩ := h
  refine ⟨b.2, ?_, g3⟩
  unfold f_X5_someWayFits
  rw [l1, Option.bind_some, g1, ← g2]
theorem C_oddsBy (hR : RS σ a K w (-1) 0) (hC : RC σ a1 K) (hK : WK K) (hS : WS K w) (ha1 : a1 + 19 ≤ 42) (ha : 173 ≤ a) (ha2 : a + 13 ≤ 743) (hW : DW K w D n) (hc : 0 ≤ ch ∧ ch ≤ 100) :
    ∃ σ', f_X5_oddsBy a1 a ch σ = some (iter (m_oddC K w ch D) (2 ^ n) 0 0, σ') ∧ FM SF σ σ' := by
  have hkn := hK.n
  have hW' := hW
  obtain ⟨e1, h4, hD, hb⟩ := hW
  have hp2 := o_pow ⟨n, h4⟩
  dsimp only at hp2
  have en : (K 0 1).toNat = n := by omega
  have h := sim_loop (F := fun k t (q : Int × (Nat → Nat → Int)) => f_X5_oddsBy_6 k a1 a ch q.1 t q.2) (X := m_oddC K w ch D) (hi := ((2 ^ n : Nat) : Int))
    (fun t q g => 0 ≤ t ∧ q.1 = g ∧ Z_I g ∧ FM SF σ q.2)
    (fun g r => ∃ σ', r = some (g, σ') ∧ FM SF σ σ')
    (fun k t q g ht hq => by
      obtain ⟨t0, q0, gI, p1⟩ := hq
      obtain ⟨t, rfl⟩ : ∃ m : Nat, t = (m : Int) := ⟨t.toNat, by omega⟩
      have hCq := hC.frame (σ' := q.2) (by omega) (fun c _ _ => SF.fr p1 (by omega))
      have hRq := hR.frame (σ' := q.2) (fun c _ _ => SF.fr p1 (by omega))
      have hpi := m_pt_in (K := K) (w := w) (S := t) hc
      have hz : z_w (g + 0) = g := by rw [Int.add_zero]; exact z_w_id gI
      unfold m_oddC
      rw [Int.toNat_natCast, en]
      have hr : f_X5_oddsBy_6 (k + 1) a1 a ch q.1 (t : Int) q.2 = if (if oB n D t = true then m_pt K w ch t else 0) ≤ 0 then f_X5_oddsBy_6 k a1 a ch g ((t : Int) + 1) q.2 else (f_X5_someWayFits a1 a (t : Int) q.2).bind fun q7 => f_X5_oddsBy_6 k a1 a ch (if q7.1 = 0 then g else z_w (g + (if oB n D t = true then m_pt K w ch t else 0))) ((t : Int) + 1) q7.2 := by
        rw [f_X5_oddsBy_6, hCq.n1, e1, o_shl ⟨n, h4⟩, if_neg (by dsimp only; omega), C_partOf hRq hCq hK hS hW' (by omega) hc, Option.bind_some, zid (x := (t : Int) + 1) (by omega) (by omega), q0]
      by_cases c : oB n D t = true
      · rw [if_pos c] at hr
        rw [if_pos c]
        unfold m_oddS
        by_cases d : m_pt K w ch t ≤ 0
        · rw [if_pos d] at hr
          have e0 : m_pt K w ch t = 0 := by omega
          refine ⟨(g, q.2), hr, by omega, ?_, z_w_in _, p1⟩
          rw [e0]
          show g = _
          split <;> exact hz.symm
        · obtain ⟨σ', k1, k2⟩ := C_fits hRq hCq hK hS ha1 ha ha2 hW' (by omega) c
          rw [if_neg d, k1, Option.bind_some] at hr
          dsimp only at hr
          have e1 : (if (if (m_best K w (m_shO K w t)).1 = -1 then (0 : Int) else 1) = 0 then g else z_w (g + m_pt K w ch t)) = z_w (g + (if (m_best K w (m_shO K w t)).1 = -1 then 0 else m_pt K w ch t)) := by
            by_cases e : (m_best K w (m_shO K w t)).1 = -1
            · rw [if_pos e, if_pos rfl, if_pos e, hz]
            · rw [if_neg e, if_neg (by omega), if_neg e]
          rw [e1] at hr
          exact ⟨(_, σ'), hr, by omega, rfl, z_w_in _, p1.trans k2⟩
      · rw [if_neg c, if_pos (Int.le_refl 0)] at hr
        rw [if_neg c]
        exact ⟨(g, q.2), hr, by omega, rfl, gI, p1⟩)
    (fun k q g hq => by
      obtain ⟨t0, q0, gI, p1⟩ := hq
      have hCq := hC.frame (σ' := q.2) (by omega) (fun c _ _ => SF.fr p1 (by omega))
      refine ⟨q.2, ?_, p1⟩
      rw [f_X5_oddsBy_6, hCq.n1, e1, o_shl ⟨n, h4⟩, if_pos (by dsimp only; omega), q0])
    (2 ^ n) 100000 0 (0, σ) 0 (by omega) (by omega) ⟨by omega, rfl, Z_I0, FM.refl⟩
  exact h
theorem R_hasS (hS : S < 16) {t : Nat} (ht : t < 4) : f_X12_has (S : Int) (t : Int) σ = some ((bn S t : Nat) : Int) := by
  unfold f_X12_has
  rw [bn_r ⟨S, hS⟩ ⟨t, ht⟩]
  rcases bn_01 (S := S) (t := t) with c | c
  · rw [c, if_neg (by omega)]
    rfl
  · rw [c, if_pos (by omega)]
    rfl
section S_ODK
variable {K30 : Int → Int → Int → (Nat → Nat → Int) → Option (Int × (Nat → Nat → Int))} {K51 : Int → Int → Int → Int → Int → Int → (Nat → Nat → Int) → Option (Int × (Nat → Nat → Int))} {t : Nat} {acc is v5 x rs : Int}
theorem R_o169 (hM : RM σ K) (hK : WK K) (h1 : K 0 1 = n) (ht : t < n) (hx : x = 0 ∨ x = 1) : f_X12_odds_169 K30 K51 ch acc (S : Int) is v5 (t : Int) x (t : Int) 782 σ = K51 ch acc (S : Int) is v5 ((t : Int) + 1) (u2 (u2 σ 782 t x) 781 t (if x = 0 then m_shr K (t : Int) else 0)) := by
  have hkn := hK.n
  have b4 : 0 ≤ (t : Int) ∧ (t : Int) < 4 := by omega
  unfold f_X12_odds_169
  rw [if_pos b4, if_pos hx, if_pos b4, Int.toNat_natCast, u2_e, zid (x := (t : Int) + 1) (by omega) (by omega), zid (x := 2 * (t : Int)) (by omega) (by omega), zid (x := 2 * (t : Int) + 1) (by omega) (by omega)]
  by_cases c : x = 0
  · rw [if_pos c, if_pos c, if_pos (by omega), if_pos (by omega), u2_c (by omega), u2_c (by omega), hM.t0 (by omega) (by omega), hM.t1 (by omega) (by omega), R_up hK (by omega) (by omega), Option.bind_some, if_pos b4]
  · rw [if_neg c, if_neg c, if_pos b4]
theorem R_o144 (hM : RM σ K) (hK : WK K) (h1 : K 0 1 = n) (hn : n < 5) (ht : t < n) (hs : S < 16) (hr : rs = 0 ∨ rs = 1) : f_X12_odds_144 K30 K51 ch acc (S : Int) is v5 (t : Int) rs σ = K51 ch acc (S : Int) is v5 ((t : Int) + 1) (u2 (u2 σ 782 t (if rs = 1 ∨ bn S t = 1 then 1 else 0)) 781 t (if rs = 1 ∨ bn S t = 1 then 0 else m_shr K (t : Int))) := by
  unfold f_X12_odds_144
  by_cases c : rs = 0
  · rw [if_pos c, R_hasS hs (by omega), Option.bind_some]
    rcases bn_01 (S := S) (t := t) with b | b
    · rw [b, if_pos (show ((0 : Nat) : Int) = 0 from rfl), R_o169 hM hK h1 ht (Or.inl rfl), if_pos rfl, if_neg (show ¬ (rs = 1 ∨ (0 : Nat) = 1) by omega), if_neg (show ¬ (rs = 1 ∨ (0 : Nat) = 1) by omega)]
    · rw [b, if_neg (show ¬ ((1 : Nat) : Int) = 0 by omega), R_o169 hM hK h1 ht (Or.inr rfl), if_neg (show ¬ (1 : Int) = 0 by omega), if_pos (show rs = 1 ∨ (1 : Nat) = 1 from Or.inr rfl), if_pos (show rs = 1 ∨ (1 : Nat) = 1 from Or.inr rfl)]
  · have c1 : rs = 1 := by omega
    rw [if_neg c, R_o169 hM hK h1 ht (Or.inr rfl), if_neg (show ¬ (1 : Int) = 0 by omega), if_pos (show rs = 1 ∨ bn S t = 1 from Or.inl c1), if_pos (show rs = 1 ∨ bn S t = 1 from Or.inl c1)]
theorem R_o105 (hM : RM σ K) (hK : WK K) (h1 : K 0 1 = n) (hn : n < 5) (ht : t < n) (hs : S < 16) (hr : rs = 0 ∨ rs = 1) (hv : 0 ≤ v5 ∧ v5 ≤ 1000000000) (hc : 0 ≤ ch ∧ ch ≤ 100) : f_X12_odds_105 K30 K51 ch acc (S : Int) v5 (t : Int) rs is σ = K51 ch acc (S : Int) is (if rs = 1 then v5 else if bn S t = 1 then Int.tdiv (v5 * ch) 100 else v5 - Int.tdiv (v5 * ch) 100) ((t : Int) + 1) (u2 (u2 σ 782 t (if rs = 1 ∨ bn S t = 1 then 1 else 0)) 781 t (if rs = 1 ∨ bn S t = 1 then 0 else m_shr K (t : Int))) := by
  have hd := o_div hv.1 hc.1 hc.2
  unfold f_X12_odds_105
  by_cases c : rs = 0
  · rw [if_pos c, R_hasS hs (by omega), Option.bind_some, zlid (x := v5 * ch) (by omega) (by omega), zlid (x := Int.tdiv (v5 * ch) 100) (by omega) (by omega), zlid (x := v5 - Int.tdiv (v5 * ch) 100) (by omega) (by omega), R_o144 hM hK h1 hn ht hs hr, if_neg (show ¬ rs = 1 by omega)]
    rcases bn_01 (S := S) (t := t) with b | b
    · rw [b, if_pos (show ((0 : Nat) : Int) = 0 from rfl), if_neg (show ¬ (0 : Nat) = 1 by omega)]
    · rw [b, if_neg (show ¬ ((1 : Nat) : Int) = 0 by omega), if_pos (show (1 : Nat) = 1 from rfl)]
  · rw [if_neg c, R_o144 hM hK h1 hn ht hs hr, if_pos (show rs = 1 by omega)]
theorem R_o79 (hM : RM σ K) (hK : WK K) (h1 : K 0 1 = n) (hn : n < 5) (ht : t < n) (hs : S < 16) (hi : is = 0 ∨ is = 1) (hr : rs = 0 ∨ rs = 1) (hv : 0 ≤ v5 ∧ v5 ≤ 1000000000) (hc : 0 ≤ ch ∧ ch ≤ 100) : f_X12_odds_79 K30 K51 ch acc (S : Int) is v5 (t : Int) rs σ = K51 ch acc (S : Int) (if is = 0 then 0 else if rs = 1 ∧ bn S t = 1 then 0 else 1) (if rs = 1 then v5 else if bn S t = 1 then Int.tdiv (v5 * ch) 100 else v5 - Int.tdiv (v5 * ch) 100) ((t : Int) + 1) (u2 (u2 σ 782 t (if rs = 1 ∨ bn S t = 1 then 1 else 0)) 781 t (if rs = 1 ∨ bn S t = 1 then 0 else m_shr K (t : Int))) := by
  unfold f_X12_odds_79
  by_cases c : is = 0
  · rw [if_pos c, if_pos c, R_o105 hM hK h1 hn ht hs hr hv hc]
  · rw [if_neg c, if_neg c]
    by_cases d : rs = 0
    · rw [if_pos d, if_neg (show ¬ (rs = 1 ∧ bn S t = 1) by omega), R_o105 hM hK h1 hn ht hs hr hv hc]
    · rw [if_neg d, R_hasS hs (by omega), Option.bind_some, R_o105 hM hK h1 hn ht hs hr hv hc]
      rcases bn_01 (S := S) (t := t) with b | b
      · rw [b, if_pos (show ((0 : Nat) : Int) = 0 from rfl), if_neg (show ¬ (rs = 1 ∧ (0 : Nat) = 1) by omega)]
      · rw [b, if_neg (show ¬ ((1 : Nat) : Int) = 0 by omega), if_pos (show rs = 1 ∧ (1 : Nat) = 1 by omega)]
end S_ODK
theorem R_o51s {K30 : Int → Int → Int → (Nat → Nat → Int) → Option (Int × (Nat → Nat → Int))} {k t : Nat} {acc is v5 : Int} (hM : RM σ K) (hK : WK K) (hS : WS K (σ 776)) (h1 : K 0 1 = n) (hn : n < 5) (ht : t < n) (hs : S < 16) (his : is = 0 ∨ is = 1) (hv : 0 ≤ v5 ∧ v5 ≤ 1000000000) (hc : 0 ≤ ch ∧ ch ≤ 100) :
    f_X12_odds_51 K30 (k + 1) ch acc (S : Int) is v5 (t : Int) σ = f_X12_odds_51 K30 k ch acc (S : Int) (if is = 0 then 0 else if σ 776 (37 + t) = 1 ∧ bn S t = 1 then 0 else 1) (m_ptS (σ 776) ch S (t : Int) v5) ((t : Int) + 1) (u2 (u2 σ 782 t (if σ 776 (37 + t) = 1 ∨ bn S t = 1 then 1 else 0)) 781 t (m_shO K (σ 776) S t)) := by
  have hw := (hS.t (t := (t : Int)) (by omega) (by omega)).2.2.2.2.2.2.2.2
  have e37 : (37 + (t : Int)).toNat = 37 + t := by omega
  rw [e37] at hw
  have er : (if σ 776 (37 + t) = 1 then (1 : Int) else 0) = σ 776 (37 + t) := by
    rcases hw with q | q
    · rw [q, if_neg (by omega)]
    · rw [q, if_pos rfl]
  rw [f_X12_odds_51, hM.n1, if_neg (by omega), zid (x := 37 + (t : Int)) (by omega) (by omega), if_pos (by omega), e37, er, R_o79 hM hK h1 hn ht hs his hw hv hc]
  unfold m_ptS m_shO
  rw [e37, Int.toNat_natCast]
theorem R_o51 {K30 : Int → Int → Int → (Nat → Nat → Int) → Option (Int × (Nat → Nat → Int))} {acc : Int} (hK : WK K) (hW : DW K w D n) (hS : WS K w) (hs : S < 2 ^ n) (hc : 0 ≤ ch ∧ ch ≤ 100) (hacc : Z_I acc) : ∀ (m k t : Nat) (σ : Nat → Nat → Int), t + m = n → m < k → RM σ K → σ 776 = w → σ 758 38 = -1 → (∀ i, i < t → σ 781 i = m_shO K w S i ∧ σ 782 i = if w (37 + i) = 1 ∨ bn S i = 1 then 1 else 0) →
    ∃ σ', f_X12_odds_51 K30 k ch acc (S : Int) (if oD t D S = true then 1 else 0) (iter (m_ptS w ch S) t 0 1000000000) (t : Int) σ = K30 ch (m_oddR K w ch D (S : Int) acc) ((S : Int) + 1) σ' ∧ FM (fun c j => (781 ≤ c ∧ c ≤ 783) ∨ (c = 758 ∧ j = 47)) σ σ' := by
  have hkn := hK.n
  have hW' := hW
  obtain ⟨e1, h4, hD, hb⟩ := hW
  have hp2 := o_pow ⟨n, h4⟩
  dsimp only at hp2
  have en : (K 0 1).toNat = n := by omega
  have nm : NM (fun c j => (781 ≤ c ∧ c ≤ 783) ∨ (c = 758 ∧ j = 47)) := fun c j h => by omega
  have hz : z_w (acc + 0) = acc := by rw [Int.add_zero]; exact z_w_id hacc
  intro m
  induction m with
  | zero =>
    intro k t σ ht hk hM h776 h38 hi
    obtain ⟨k, rfl⟩ : ∃ j, k = j + 1 := ⟨k - 1, by omega⟩
    have et : t = n := by omega
    subst et
    rw [f_X12_odds_51, hM.n1, if_pos (by omega), zid (x := (S : Int) + 1) (by omega) (by omega)]
    unfold m_oddR
    rw [Int.toNat_natCast, en]
    by_cases d : oD t D S = true
    · rw [if_pos d, if_pos d, if_neg (show ¬ (1 : Int) = 0 by omega)]
      obtain ⟨ob1, ob2⟩ := o_bit ⟨t, h4⟩ ⟨D, by omega⟩ ⟨S, by omega⟩ hD hs d
      dsimp only at ob1 ob2
      have hbi : ∀ i, i < t → bn (S + D) i = if bn D i = 1 then 1 else bn S i := fun i hi2 => ob2 ⟨i, by omega⟩ hi2
      have hidle : ∀ i, i < t → (w (37 + i) = 1 ∨ bn (S + D) i = 1 ↔ w (37 + i) = 1 ∨ bn S i = 1) := fun i hi2 => by
        rw [hbi i hi2, hb i hi2]
        rcases bn_01 (S := D) (t := i) with c | c
        · rw [c]
          simp
        · rw [c]
          simp
      have esh : ∀ i, i < t → m_shO K w (S + D) i = m_shO K w S i := fun i hi2 => by
        unfold m_shO
        by_cases c : w (37 + i) = 1 ∨ bn S i = 1
        · rw [if_pos c, if_pos ((hidle i hi2).mpr c)]
        · rw [if_neg c, if_neg (fun q => c ((hidle i hi2).mp q))]
      have ept : m_pt K w ch (S + D) = iter (m_ptS w ch S) t 0 1000000000 := by
        unfold m_pt
        rw [en]
        refine iter_congr0 (hi := (t : Int)) (fun v x v0 v1 => ?_) t 0 _ (by omega) (by omega)
        obtain ⟨v, rfl⟩ : ∃ m : Nat, v = (m : Int) := ⟨v.toNat, by omega⟩
        unfold m_ptS
        rw [show (37 + (v : Int)).toNat = 37 + v from by omega, Int.toNat_natCast, hbi v (by omega), hb v (by omega)]
        rcases bn_01 (S := D) (t := v) with c | c
        · rw [c]
          simp
        · rw [c]
          simp
      have hRSH : RSH σ K (m_shO K w (S + D)) := fun i i0 i1 => by
        obtain ⟨i, rfl⟩ : ∃ m : Nat, i = (m : Int) := ⟨i.toNat, by omega⟩
        rw [Int.toNat_natCast, esh i (by omega)]
        obtain ⟨p, q⟩ := hi i (by omega)
        have hr := m_shr_in hK (t := (i : Int)) (by omega) (by omega)
        rw [p, q]
        unfold m_shO
        by_cases c : w (37 + i) = 1 ∨ bn S i = 1
        · rw [if_pos c, if_pos c]
          omega
        · rw [if_neg c, if_neg c]
          omega
      obtain ⟨σ', k1, k2, k3⟩ := R_bestWay (b := 776) hM hK (by rw [h776]; exact hS) (by omega) (by omega) h38 hRSH
      rw [h776] at k1 k2
      rw [k1, Option.bind_some]
      dsimp only
      have hpi := m_pt_in (K := K) (w := w) (S := S + D) hc
      refine ⟨σ', ?_, k3.mono (fun c j h => by omega)⟩
      unfold m_oddS
      by_cases e : (m_best K w (m_shO K w (S + D))).1 = -1
      · rw [if_pos e, if_pos e, hz]
      · rw [if_neg e, if_neg e, ← ept, zid (x := m_pt K w ch (S + D)) (by omega) (by omega)]
    · rw [if_neg d, if_neg d, if_pos rfl]
      exact ⟨σ, rfl, FM.refl⟩
  | succ m ih =>
    intro k t σ ht hk hM h776 h38 hi
    obtain ⟨k, rfl⟩ : ∃ j, k = j + 1 := ⟨k - 1, by omega⟩
    have hpt : 0 ≤ iter (m_ptS w ch S) t 0 1000000000 ∧ iter (m_ptS w ch S) t 0 1000000000 ≤ 1000000000 := iter_inv (X := m_ptS w ch S) (hi := (t : Int)) (fun _ v => 0 ≤ v ∧ v ≤ 1000000000) (fun t v _ hp => m_ptS_in hp hc) t 0 1000000000 (by omega) (by omega)
    rw [R_o51s hM hK (by rw [h776]; exact hS) e1 h4 (by omega) (by omega) (by split <;> omega) hpt hc, h776]
    generalize hq : u2 (u2 σ 782 t (if w (37 + t) = 1 ∨ bn S t = 1 then 1 else 0)) 781 t (m_shO K w S t) = q
    have hf : FM (fun c j => (781 ≤ c ∧ c ≤ 783) ∨ (c = 758 ∧ j = 47)) σ q := by
      rw [← hq]
      exact (FM.refl.u (by omega)).u (by omega)
    have hI := ih k (t + 1) q (by omega) (by omega) (hM.fm hf nm) ((funext fun j => hf 776 j (by omega) : q 776 = σ 776).trans h776) ((hf 758 38 (by omega)).trans h38) (fun i hi2 => by
      rw [← hq]
      by_cases e : i = t
      · rw [e, u2_e, u2_c (by omega), u2_e]
        exact ⟨rfl, rfl⟩
      · rw [u2_i e, u2_c (by omega), u2_c (by omega), u2_i e]
        exact hi i (by omega))
    have e2 : (if (if oD t D S = true then (1 : Int) else 0) = 0 then 0 else if w (37 + t) = 1 ∧ bn S t = 1 then 0 else 1) = (if oD (t + 1) D S = true then (1 : Int) else 0) := by
      rw [oD_s, hb t (by omega)]
      rcases bn_01 (S := D) (t := t) with c | c <;> rcases bn_01 (S := S) (t := t) with d | d <;> cases hob : oD t D S <;> simp [c, d]
    rw [e2, show m_ptS w ch S (t : Int) (iter (m_ptS w ch S) t 0 1000000000) = iter (m_ptS w ch S) (t + 1) 0 1000000000 from by rw [iter_snoc, Int.zero_add], show (t : Int) + 1 = ((t + 1 : Nat) : Int) from by omega]
    obtain ⟨σ', l1, l2⟩ := hI
    exact ⟨σ', l1, hf.trans l2⟩
theorem R_odds30 (hM : RM σ K) (hK : WK K) (hS : WS K (σ 776)) (h38 : σ 758 38 = -1) (hW : DW K (σ 776) D n) (hc : 0 ≤ ch ∧ ch ≤ 100) :
    ∃ σ', f_X12_odds_30 100000 ch 0 0 σ = some (iter (m_oddR K (σ 776) ch D) (2 ^ n) 0 0, σ') ∧ FM (fun c j => (781 ≤ c ∧ c ≤ 783) ∨ (c = 758 ∧ j = 47)) σ σ' := by
  have hkn := hK.n
  have hW' := hW
  obtain ⟨e1, h4, hD, hb⟩ := hW
  have hp2 := o_pow ⟨n, h4⟩
  dsimp only at hp2
  have nm : NM (fun c j => (781 ≤ c ∧ c ≤ 783) ∨ (c = 758 ∧ j = 47)) := fun c j h => by omega
  have h := sim_loop (F := fun k t (q : Int × (Nat → Nat → Int)) => f_X12_odds_30 k ch q.1 t q.2) (X := m_oddR K (σ 776) ch D) (hi := ((2 ^ n : Nat) : Int))
    (fun t q g => 0 ≤ t ∧ q.1 = g ∧ Z_I g ∧ FM (fun c j => (781 ≤ c ∧ c ≤ 783) ∨ (c = 758 ∧ j = 47)) σ q.2)
    (fun g r => ∃ σ', r = some (g, σ') ∧ FM (fun c j => (781 ≤ c ∧ c ≤ 783) ∨ (c = 758 ∧ j = 47)) σ σ')
    (fun k t q g ht hq => by
      obtain ⟨t0, q0, gI, p1⟩ := hq
      obtain ⟨t, rfl⟩ : ∃ m : Nat, t = (m : Int) := ⟨t.toNat, by omega⟩
      have hMq := hM.fm p1 nm
      obtain ⟨σ', k1, k2⟩ := R_o51 (K30 := f_X12_odds_30 k) (acc := g) (S := t) hK hW' hS (by omega) hc gI n 100000 0 q.2 (by omega) (by omega) hMq (funext fun j => p1 776 j (by omega)) ((p1 758 38 (by omega)).trans h38) (fun i hi => by omega)
      refine ⟨(m_oddR K (σ 776) ch D (t : Int) g, σ'), ?_, by omega, rfl, ?_, p1.trans k2⟩
      · rw [f_X12_odds_30, hMq.n1, e1, o_shl ⟨n, h4⟩, if_neg (by dsimp only; omega), q0]
        exact k1
      · unfold m_oddR m_oddS
        split
        · exact z_w_in _
        · exact gI)
    (fun k q g hq => by
      obtain ⟨t0, q0, gI, p1⟩ := hq
      refine ⟨q.2, ?_, p1⟩
      rw [f_X12_odds_30, (hM.fm p1 nm).n1, e1, o_shl ⟨n, h4⟩, if_pos (by dsimp only; omega), q0])
    (2 ^ n) 100000 0 (0, σ) 0 (by omega) (by omega) ⟨by omega, rfl, Z_I0, FM.refl⟩
  exact h
theorem Q_odds {v1 : Int} (h : PQ σ K) : ∃ r σ1 σ2, f_X11_odds v1 σ = some (r, σ1) ∧ f_X12_odds v1 σ1 = some (r, σ2) ∧ FM SQ1 σ σ1 ∧ FM SQ2 σ1 σ2 := by
  have h' := h
  obtain ⟨h0, hC, hR, hM, hK, hS, hL, h38, h39⟩ := h
  have ha := ax_a h0
  have hkn := hK.n
  by_cases d : 0 ≤ v1 ∧ v1 ≤ 100
  · have hW := DW.of hR hK
    obtain ⟨σ1, g1, g2⟩ := C_oddsBy hR hC hK hS (by omega) (by omega) (by omega) hW d
    obtain ⟨a1, a2, a3, a4⟩ := h'.ref (τ := σ1) (fun c hc => SF.fr g2 (by omega))
    obtain ⟨σ2, k1, k2⟩ := R_odds30 a1 hK (by rw [a2]; exact hS) a3 (by rw [a2]; exact hW) d
    rw [a2] at k1
    refine ⟨?_, σ1, σ2, ?_, ?_, SF.q1 g2, (FM.refl.u (by unfold SQ2; omega)).trans (k2.mono (fun c j hc => by unfold SQ2; omega))⟩
    rotate_left 2
    · unfold f_X12_odds
      rw [a4, if_neg (by omega), R_isIn_y d.1 d.2, Option.bind_some, if_neg (show ¬ (1 : Int) = 0 by omega), k1]
    · unfold f_X11_odds
      rw [if_pos h0, C_isTold_y hC (by omega), Option.bind_some, if_neg (show ¬ (1 : Int) = 0 by omega), if_neg (by omega), if_neg (by omega), if_pos h0, g1, Option.bind_some, m_odds_eq hW.1 hW.2.1 hW.2.2.1]
  · obtain ⟨a1, a2, a3, a4⟩ := h'.ref (τ := σ) (fun c hc => rfl)
    refine ⟨-1, σ, u2 σ 758 0 0, ?_, ?_, FM.refl, FM.refl.u (by unfold SQ2; omega)⟩
    · unfold f_X11_odds
      rw [if_pos h0, C_isTold_y hC (by omega), Option.bind_some, if_neg (show ¬ (1 : Int) = 0 by omega)]
      by_cases e : v1 < 0
      · rw [if_pos e]
      · rw [if_neg e, if_pos (by omega)]
    · unfold f_X12_odds
      rw [a4, if_neg (by omega), R_isIn_n d, Option.bind_some, if_pos rfl]
end S_OD
