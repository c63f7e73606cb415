-- the log, the states kept, the image
theorem zc_n {σ : Nat → Nat → Int} {a0 a n c j : Nat} (h : c ≠ a) : z_cpy σ a0 a 0 0 n c j = σ c j := if_neg (fun q => h q.1)
theorem zc_e {σ : Nat → Nat → Int} {a0 a n j : Nat} (h : j < n) : z_cpy σ a0 a 0 0 n a j = σ a0 j := by
  unfold z_cpy
  rw [if_pos ⟨rfl, by omega, by omega⟩, show 0 + (j - 0) = j from by omega]
/-- the chip, and how many acts were logged -/
def KL (K : Nat → Nat → Int) (L : Int) : Nat → Nat → Int := setR K 20 (fun _ => L)
theorem KL_n {K : Nat → Nat → Int} {L : Int} {c : Nat} (h : c ≠ 20) : KL K L c = K c := setR_n h
theorem KL_s {K : Nat → Nat → Int} {L : Int} : KL K L 20 0 = L := setR_si
section S_KL
variable {σ K : Nat → Nat → Int} {a : Nat} {w : Nat → Int} {L tr th : Int}
theorem WK.kl (h : WK K) : WK (KL K L) := by
  have e0 : KL K L 0 = K 0 := KL_n (by omega)
  have e1 : KL K L 1 = K 1 := KL_n (by omega)
  have e2 : KL K L 2 = K 2 := KL_n (by omega)
  have e3 : KL K L 3 = K 3 := KL_n (by omega)
  have e4 : KL K L 4 = K 4 := KL_n (by omega)
  have e5 : KL K L 5 = K 5 := KL_n (by omega)
  have e6 : KL K L 6 = K 6 := KL_n (by omega)
  have e7 : KL K L 7 = K 7 := KL_n (by omega)
  have e8 : KL K L 8 = K 8 := KL_n (by omega)
  have e9 : KL K L 9 = K 9 := KL_n (by omega)
  have e10 : KL K L 10 = K 10 := KL_n (by omega)
  have ef : ∀ c, m_first (KL K L) c = m_first K c := fun c => by
    unfold m_first
    rw [e1]
  unfold WK
  simp only [e0, e1, e2, e3, e4, e5, e6, e7, e8, e9, e10, ef]
  exact h
theorem RM.kl (h : RM σ K) : RM σ (KL K L) := by
  have e0 : KL K L 0 = K 0 := KL_n (by omega)
  have e1 : KL K L 1 = K 1 := KL_n (by omega)
  have e2 : KL K L 2 = K 2 := KL_n (by omega)
  have e3 : KL K L 3 = K 3 := KL_n (by omega)
  have e4 : KL K L 4 = K 4 := KL_n (by omega)
  have e5 : KL K L 5 = K 5 := KL_n (by omega)
  have e6 : KL K L 6 = K 6 := KL_n (by omega)
  have e8 : KL K L 8 = K 8 := KL_n (by omega)
  have e9 : KL K L 9 = K 9 := KL_n (by omega)
  have e10 : KL K L 10 = K 10 := KL_n (by omega)
  have e11 : KL K L 11 = K 11 := KL_n (by omega)
  have e12 : KL K L 12 = K 12 := KL_n (by omega)
  unfold RM
  simp only [e0, e1, e2, e3, e4, e5, e6, e8, e9, e10, e11, e12]
  exact h
theorem RC.kl (h : RC σ a K) : RC σ a (KL K L) := by
  have e0 : KL K L 0 = K 0 := KL_n (by omega)
  have e1 : KL K L 1 = K 1 := KL_n (by omega)
  have e2 : KL K L 2 = K 2 := KL_n (by omega)
  have e3 : KL K L 3 = K 3 := KL_n (by omega)
  have e4 : KL K L 4 = K 4 := KL_n (by omega)
  have e5 : KL K L 5 = K 5 := KL_n (by omega)
  have e6 : KL K L 6 = K 6 := KL_n (by omega)
  have e7 : KL K L 7 = K 7 := KL_n (by omega)
  have e8 : KL K L 8 = K 8 := KL_n (by omega)
  have e9 : KL K L 9 = K 9 := KL_n (by omega)
  have e10 : KL K L 10 = K 10 := KL_n (by omega)
  have e11 : KL K L 11 = K 11 := KL_n (by omega)
  have e12 : KL K L 12 = K 12 := KL_n (by omega)
  unfold RC
  simp only [e0, e1, e2, e3, e4, e5, e6, e7, e8, e9, e10, e11, e12]
  exact h
theorem WS.kl : WS (KL K L) w ↔ WS K w := by
  have e0 : KL K L 0 = K 0 := KL_n (by omega)
  have e4 : KL K L 4 = K 4 := KL_n (by omega)
  unfold WS
  simp only [e0, e4]
theorem WL.kl : WL (KL K L) w ↔ WL K w := by
  have e0 : KL K L 0 = K 0 := KL_n (by omega)
  unfold WL
  simp only [e0]
theorem RS.kl {L' : Int} (h : RS σ a (KL K L) w tr th) (h3 : σ a 3 = L') : RS σ a (KL K L') w tr th := by
  have e0 : KL K L 0 = K 0 := KL_n (by omega)
  have e0' : KL K L' 0 = K 0 := KL_n (by omega)
  unfold RS at h ⊢
  simp only [e0, KL_s] at h
  simp only [e0', KL_s]
  exact ⟨⟨h.1.1, h.1.2.1, h.1.2.2.1, h.1.2.2.2.1, h3⟩, h.2⟩
end S_KL
section S_LG
variable {σ K : Nat → Nat → Int} {a a1 g d s : Nat} {w : Nat → Int} {L tr th : Int}
set_option maxHeartbeats 4000000 in
theorem C_copyFrom (hK : WK K) (hR : RS σ s K w tr th) (hS : WS K w) (hd : d + 13 ≤ s ∨ s + 13 ≤ d) : ∃ σ', f_X7_copyFrom d s σ = some σ' ∧ RS σ' d K w tr th ∧ FR (fun c => d ≤ c ∧ c < d + 13) σ σ' := by
  have hkn := hK.n
  have hn := hS.n
  unfold f_X7_copyFrom
  refine ⟨_, rfl, ?_, fun c hc => ?_⟩
  · obtain ⟨⟨n0, n1, n2, n4, n3⟩, b5, b6, ht, hc, hv, hk, hx⟩ := hR
    have b5' := b5
    have b6' := b6
    refine ⟨⟨?_, ?_, ?_, ?_, ?_⟩, ?_, ?_, fun t h0 h1 => ?_, fun c' h0 h1 => ?_, fun v h0 h1 => ?_, fun k h0 h1 => ?_, fun h0 => ?_⟩
    · simp (disch := first | assumption | omega) only [if_true, if_false, zid, zlid, if_pos, if_neg, u2_e, u2_c, u2_i, u1_e, u1_i, Option.bind_some, zc_n, zc_e]
      exact n0
    · simp (disch := first | assumption | omega) only [if_true, if_false, zid, zlid, if_pos, if_neg, u2_e, u2_c, u2_i, u1_e, u1_i, Option.bind_some, zc_n, zc_e]
      exact n1
    · simp (disch := first | assumption | omega) only [if_true, if_false, zid, zlid, if_pos, if_neg, u2_e, u2_c, u2_i, u1_e, u1_i, Option.bind_some, zc_n, zc_e]
      exact n2
    · simp (disch := first | assumption | omega) only [if_true, if_false, zid, zlid, if_pos, if_neg, u2_e, u2_c, u2_i, u1_e, u1_i, Option.bind_some, zc_n, zc_e]
      exact n4
    · simp (disch := first | assumption | omega) only [if_true, if_false, zid, zlid, if_pos, if_neg, u2_e, u2_c, u2_i, u1_e, u1_i, Option.bind_some, zc_n, zc_e]
      exact n3
    · simp (disch := first | assumption | omega) only [if_true, if_false, zid, zlid, if_pos, if_neg, u2_e, u2_c, u2_i, u1_e, u1_i, Option.bind_some, zc_n, zc_e]
      exact b5
    · simp (disch := first | assumption | omega) only [if_true, if_false, zid, zlid, if_pos, if_neg, u2_e, u2_c, u2_i, u1_e, u1_i, Option.bind_some, zc_n, zc_e]
      exact b6
    · simp (disch := first | assumption | omega) only [if_true, if_false, zid, zlid, if_pos, if_neg, u2_e, u2_c, u2_i, u1_e, u1_i, Option.bind_some, zc_n, zc_e]
      exact ht t h0 h1
    · simp (disch := first | assumption | omega) only [if_true, if_false, zid, zlid, if_pos, if_neg, u2_e, u2_c, u2_i, u1_e, u1_i, Option.bind_some, zc_n, zc_e]
      exact hc c' h0 h1
    · simp (disch := first | assumption | omega) only [if_true, if_false, zid, zlid, if_pos, if_neg, u2_e, u2_c, u2_i, u1_e, u1_i, Option.bind_some, zc_n, zc_e]
      exact hv v h0 h1
    · simp (disch := first | assumption | omega) only [if_true, if_false, zid, zlid, if_pos, if_neg, u2_e, u2_c, u2_i, u1_e, u1_i, Option.bind_some, zc_n, zc_e]
      exact hk k h0 h1
    · simp (disch := first | assumption | omega) only [if_true, if_false, zid, zlid, if_pos, if_neg, u2_e, u2_c, u2_i, u1_e, u1_i, Option.bind_some, zc_n, zc_e]
      exact hx h0
  · funext j
    simp (disch := first | assumption | omega) only [if_true, if_false, zid, zlid, if_pos, if_neg, u2_e, u2_c, u2_i, u1_e, u1_i, Option.bind_some, zc_n, zc_e]
/-- the log at g, L acts long, shows what the row says -/
def RL (σ : Nat → Nat → Int) (g : Nat) (L : Int) (w : Nat → Int) : Prop := 0 ≤ L ∧ w 75 = min L 60 ∧ ∀ i f : Int, 0 ≤ i → i < w 75 → 0 ≤ f → f < 3 → w (76 + 3 * i + f).toNat = σ (g + 1 + f.toNat) ((L - w 75 + i) % 100).toNat
theorem RL.cg {w' : Nat → Int} (h : RL σ g L w) (hw : ∀ j, 75 ≤ j → j < 256 → w' j = w j) : RL σ g L w' := by
  obtain ⟨h0, h1, h2⟩ := h
  have e := hw 75 (by omega) (by omega)
  refine ⟨h0, by rw [e]; exact h1, fun i f i0 i1 f0 f1 => ?_⟩
  rw [e] at i1 ⊢
  rw [hw _ (by omega) (by omega)]
  exact h2 i f i0 i1 f0 f1
theorem RL.frame {σ' : Nat → Nat → Int} (h : RL σ g L w) (hf : ∀ c, g < c → c < g + 4 → σ' c = σ c) : RL σ' g L w := by
  obtain ⟨h0, h1, h2⟩ := h
  refine ⟨h0, h1, fun i f i0 i1 f0 f1 => ?_⟩
  rw [hf _ (by omega) (by omega)]
  exact h2 i f i0 i1 f0 f1
/-- a row of the log more -/
def m_noteS (w : Nat → Int) : Nat → Int := fun j => if 76 ≤ j ∧ j < 253 then w (j + 3) else if j = 75 then 59 else w j
def m_note (w : Nat → Int) (sort num : Int) : Nat → Int :=
  let v := if w 75 = 60 then m_noteS w else w
  u1 (u1 (u1 (u1 v (76 + 3 * v 75).toNat sort) (76 + 3 * v 75 + 1).toNat num) (76 + 3 * v 75 + 2).toNat (w 41)) 75 (v 75 + 1)
theorem m_note_o {sort num : Int} {j : Nat} (hj : j < 75) (h0 : 0 ≤ w 75) : m_note w sort num j = w j := by
  unfold m_note
  by_cases c : w 75 = 60
  · rw [if_pos c]
    have e : m_noteS w 75 = 59 := by
      unfold m_noteS
      rw [if_neg (by omega), if_pos rfl]
    rw [e, u1_i (by omega), u1_i (by omega), u1_i (by omega), u1_i (by omega)]
    unfold m_noteS
    rw [if_neg (by omega), if_neg (by omega)]
  · rw [if_neg c, u1_i (by omega), u1_i (by omega), u1_i (by omega), u1_i (by omega)]
theorem R_notes {sort num : Int} (h0 : 0 ≤ σ 776 75) (h1 : σ 776 75 ≤ 60) : f_X12_notes sort num σ = some (setR σ 776 (m_note (σ 776) sort num)) := by
  have k58 : ∀ v : Nat → Int, 0 ≤ v 75 → v 75 ≤ 59 → v 41 = σ 776 41 → f_X12_notes_58 sort num (setR σ 776 v) = some (setR σ 776 (u1 (u1 (u1 (u1 v (76 + 3 * v 75).toNat sort) (76 + 3 * v 75 + 1).toNat num) (76 + 3 * v 75 + 2).toNat (σ 776 41)) 75 (v 75 + 1))) := fun v v0 v1 v2 => by
    unfold f_X12_notes_58
    simp (disch := first | assumption | omega) only [if_true, if_false, zid, zlid, if_pos, if_neg, u2_e, u2_c, u2_i, u1_e, u1_i, Option.bind_some, setR_s, setR_u, v2]
  unfold f_X12_notes m_note
  dsimp only
  by_cases c : σ 776 75 = 60
  · rw [if_pos c, if_pos c]
    have hl := hoare_loop (F := fun k v (q : Nat → Int) => f_X12_notes_14 k sort num v (setR σ 776 q)) (hi := 178) (fun v q => 1 ≤ v ∧ q = fun (j : Nat) => if 76 ≤ j ∧ (j : Int) < 75 + v then σ 776 (j + 3) else σ 776 j)
      (fun r => r = setR σ 776 (u1 (u1 (u1 (u1 (m_noteS (σ 776)) (76 + 3 * m_noteS (σ 776) 75).toNat sort) (76 + 3 * m_noteS (σ 776) 75 + 1).toNat num) (76 + 3 * m_noteS (σ 776) 75 + 2).toNat (σ 776 41)) 75 (m_noteS (σ 776) 75 + 1)))
      (fun k v q hv hq => by
        obtain ⟨p0, rfl⟩ := hq
        refine ⟨fun (j : Nat) => if 76 ≤ j ∧ (j : Int) < 75 + (v + 1) then σ 776 (j + 3) else σ 776 j, ?_, by omega, rfl⟩
        have e2 : (if 76 ≤ (75 + v + 3).toNat ∧ ((75 + v + 3).toNat : Int) < 75 + v then σ 776 ((75 + v + 3).toNat + 3) else σ 776 (75 + v + 3).toNat) = σ 776 (75 + v + 3).toNat := if_neg (by omega)
        have e1 : u1 (fun (j : Nat) => if 76 ≤ j ∧ (j : Int) < 75 + v then σ 776 (j + 3) else σ 776 j) (75 + v).toNat (σ 776 (75 + v + 3).toNat) = fun (j : Nat) => if 76 ≤ j ∧ (j : Int) < 75 + (v + 1) then σ 776 (j + 3) else σ 776 j := by
          funext j
          unfold u1
          by_cases e : j = (75 + v).toNat
          · rw [if_pos e, if_pos (by omega), show j + 3 = (75 + v + 3).toNat from by omega]
          · rw [if_neg e]
            dsimp only
            by_cases e' : 76 ≤ j ∧ (j : Int) < 75 + v
            · rw [if_pos e', if_pos (by omega)]
            · rw [if_neg e', if_neg (by omega)]
        rw [f_X12_notes_14, if_neg (by omega), zid (x := 75 + v) (by omega) (by omega), zid (by omega) (by omega), if_pos (by omega), if_pos (by omega), zid (by omega) (by omega), setR_si, e2, setR_u, e1])
      (fun k q hq => by
        obtain ⟨p0, rfl⟩ := hq
        refine ⟨_, ?_, rfl⟩
        have e2 : (if 76 ≤ 75 ∧ ((75 : Nat) : Int) < 75 + 178 then σ 776 (75 + 3) else σ 776 75) = 60 := (if_neg (by omega)).trans c
        have e1 : u1 (fun (j : Nat) => if 76 ≤ j ∧ (j : Int) < 75 + 178 then σ 776 (j + 3) else σ 776 j) 75 59 = m_noteS (σ 776) := by
          funext j
          unfold u1 m_noteS
          by_cases e : j = 75
          · rw [if_pos e, if_neg (by omega), if_pos e]
          · rw [if_neg e]
            dsimp only
            by_cases e' : 76 ≤ j ∧ (j : Int) < 75 + 178
            · rw [if_pos e', if_pos (by omega)]
            · rw [if_neg e', if_neg (by omega), if_neg e]
        have e3 : m_noteS (σ 776) 75 = 59 := by
          unfold m_noteS
          rw [if_neg (by omega), if_pos rfl]
        have e4 : m_noteS (σ 776) 41 = σ 776 41 := by
          unfold m_noteS
          rw [if_neg (by omega), if_neg (by omega)]
        rw [f_X12_notes_14, if_pos (by omega), setR_si, e2, zid (by omega) (by omega), setR_u, show (60 : Int) - 1 = 59 from rfl, e1]
        exact k58 _ (by omega) (by omega) e4) 177 100000 1 (σ 776) (by omega) (by omega) ⟨by omega, by
        funext j
        rw [if_neg (by omega)]⟩
    obtain ⟨r, g1, g2⟩ := hl
    rw [setR_id] at g1
    rw [g1, g2]
  · rw [if_neg c, if_neg c]
    have := k58 (σ 776) h0 (by omega) rfl
    rw [setR_id] at this
    exact this
theorem z_xor_nn {a : Int} (h0 : 0 ≤ a) (h1 : a < 2147483648) : 0 ≤ z_xor a 100 := by
  unfold z_xor
  rw [zNi h0, zNi (by omega)]
  have e : nI a.toNat ^^^ nI (100 : Int).toNat = nI (a.toNat ^^^ 100) := by
    apply Int32.toBitVec_inj.mp
    rw [Int32.toBitVec_xor]
    apply BitVec.eq_of_toNat_eq
    rw [BitVec.toNat_xor]
    show (BitVec.ofNat 32 a.toNat).toNat ^^^ (BitVec.ofNat 32 100).toNat = (BitVec.ofNat 32 (a.toNat ^^^ 100)).toNat
    rw [BitVec.toNat_ofNat, BitVec.toNat_ofNat, BitVec.toNat_ofNat, Nat.mod_eq_of_lt (by omega), Nat.mod_eq_of_lt (by omega), Nat.mod_eq_of_lt]
    exact Nat.xor_lt_two_pow (n := 32) (by omega) (by omega)
  have hb : a.toNat ^^^ 100 < 2 ^ 31 := Nat.xor_lt_two_pow (by omega) (by omega)
  rw [e]
  show 0 ≤ (Int32.ofNat _).toInt
  rw [← Int32.ofInt_eq_ofNat, z_t (by unfold Z_I; omega)]
  omega
theorem C_fmod {L : Int} (h0 : 0 ≤ L) (h1 : L < 2147483648) : z_fmod L 100 = L % 100 := by
  have e : Int.tmod L 100 = L % 100 := Int.tmod_eq_emod_of_nonneg h0
  unfold z_fmod
  rw [e, zid (by omega) (by omega), if_pos (z_xor_nn h0 h1)]
end S_LG
