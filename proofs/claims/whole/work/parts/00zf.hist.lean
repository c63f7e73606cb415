-- the states kept and the image, on both sides
def m_push (w : Nat → Int) (H : Int → Nat → Int) : Int → Nat → Int := fun j => if j = 1 then w else H (j - 1)
def slot (p j : Int) : Nat := 222 + 13 * ((p - j) % 40).toNat
/-- the class keeps n states, the log then j shorter -/
def HC (σ K : Nat → Nat → Int) (n L : Int) (H : Int → Nat → Int) : Prop := σ 220 2 = n ∧ 0 ≤ n ∧ n ≤ 40 ∧ (0 ≤ σ 220 1 ∧ σ 220 1 < 40) ∧ ∀ j : Int, 1 ≤ j → j ≤ n → RS σ (slot (σ 220 1) j) (KL K (L - j)) (H j) (-1) 0 ∧ RL σ 212 (L - j) (H j)
/-- the reference keeps n states -/
def HR (σ : Nat → Nat → Int) (n : Int) (H : Int → Nat → Int) : Prop := σ 758 36 = n ∧ 0 ≤ n ∧ n ≤ 40 ∧ (0 ≤ σ 758 35 ∧ σ 758 35 < 40) ∧ ∀ j : Int, ∀ i : Nat, 1 ≤ j → j ≤ n → i < 256 → H j i = σ 779 (256 * ((σ 758 35 + n - j) % 40).toNat + i)
section S_HI
variable {σ K : Nat → Nat → Int} {g : Nat} {w : Nat → Int} {L n : Int} {H : Int → Nat → Int}
theorem m_push_1 : m_push w H 1 = w := if_pos rfl
theorem m_push_n {j : Int} (h : j ≠ 1) : m_push w H j = H (j - 1) := if_neg h
theorem slot_in (p : Int) (j : Int) : 222 ≤ slot p j ∧ slot p j + 13 ≤ 742 := by
  unfold slot
  omega
/-- a row written into the log where the next one goes -/
theorem RL.keep {L' x y z : Int} (h : RL σ g L' w) (h1 : L' ≤ L) (h2 : L < L' + 40) : RL (u2 (u2 (u2 σ (g + 1) (L % 100).toNat x) (g + 2) (L % 100).toNat y) (g + 3) (L % 100).toNat z) g L' w := by
  obtain ⟨p0, p1, p2⟩ := h
  refine ⟨p0, p1, fun i f i0 i1 f0 f1 => ?_⟩
  rw [p2 i f i0 i1 f0 f1, u2_i (by omega), u2_i (by omega), u2_i (by omega)]
theorem RL.note {x y : Int} (h : RL σ g L w) : RL (u2 (u2 (u2 σ (g + 1) (L % 100).toNat x) (g + 2) (L % 100).toNat y) (g + 3) (L % 100).toNat (w 41)) g (L + 1) (m_note w x y) := by
  obtain ⟨p0, p1, p2⟩ := h
  unfold m_note
  have hf : ∀ f : Int, 0 ≤ f → f < 3 → f = 0 ∨ f = 1 ∨ f = 2 := fun f f0 f1 => by omega
  by_cases c : w 75 = 60
  · rw [if_pos c]
    have e : m_noteS w 75 = 59 := by
      unfold m_noteS
      rw [if_neg (by omega), if_pos rfl]
    dsimp only
    rw [e]
    refine ⟨by omega, ?_, fun i f i0 i1 f0 f1 => ?_⟩
    · rw [u1_e]
      omega
    · rw [u1_e] at i1 ⊢
      by_cases d : i = 59
      · subst d
        have e1 : ((L + 1 - (59 + 1) + 59) % 100).toNat = (L % 100).toNat := by omega
        rw [e1]
        rcases hf f f0 f1 with rfl | rfl | rfl
        · rw [u1_i (by omega), u1_i (by omega), u1_i (by omega), show (76 + 3 * 59 + 0 : Int).toNat = (76 + 3 * 59 : Int).toNat from by omega, u1_e, u2_c (by omega), u2_c (by omega), show g + 1 + (0 : Int).toNat = g + 1 from rfl, u2_e]
        · rw [u1_i (by omega), u1_i (by omega), u1_e, u2_c (by omega), show g + 1 + (1 : Int).toNat = g + 2 from rfl, u2_e]
        · rw [u1_i (by omega), u1_e, show g + 1 + (2 : Int).toNat = g + 3 from rfl, u2_e]
      · rw [u1_i (by omega), u1_i (by omega), u1_i (by omega), u1_i (by omega), u2_i (by omega), u2_i (by omega), u2_i (by omega)]
        unfold m_noteS
        rw [if_pos (by omega), show (76 + 3 * i + f).toNat + 3 = (76 + 3 * (i + 1) + f).toNat from by omega, p2 (i + 1) f (by omega) (by omega) f0 f1]
        congr 1
        omega
  · rw [if_neg c]
    have e : w 75 = L := by omega
    dsimp only
    rw [e]
    refine ⟨by omega, ?_, fun i f i0 i1 f0 f1 => ?_⟩
    · rw [u1_e]
      omega
    · rw [u1_e] at i1 ⊢
      by_cases d : i = L
      · subst d
        have e1 : ((i + 1 - (i + 1) + i) % 100).toNat = (i % 100).toNat := by omega
        rw [e1]
        rcases hf f f0 f1 with rfl | rfl | rfl
        · rw [u1_i (by omega), u1_i (by omega), u1_i (by omega), show (76 + 3 * i + 0 : Int).toNat = (76 + 3 * i : Int).toNat from by omega, u1_e, u2_c (by omega), u2_c (by omega), show g + 1 + (0 : Int).toNat = g + 1 from rfl, u2_e]
        · rw [u1_i (by omega), u1_i (by omega), u1_e, u2_c (by omega), show g + 1 + (1 : Int).toNat = g + 2 from rfl, u2_e]
        · rw [u1_i (by omega), u1_e, show g + 1 + (2 : Int).toNat = g + 3 from rfl, u2_e]
      · rw [u1_i (by omega), u1_i (by omega), u1_i (by omega), u1_i (by omega), u2_i (by omega), u2_i (by omega), u2_i (by omega), p2 i f i0 (by omega) f0 f1]
        congr 1
        omega
theorem HC.frame {σ' : Nat → Nat → Int} (h : HC σ K n L H) (h2 : ∀ j, j = 1 ∨ j = 2 → σ' 220 j = σ 220 j) (hf : ∀ c, 222 ≤ c → c < 742 → σ' c = σ c) (hg : ∀ c, 212 < c → c < 216 → σ' c = σ c) : HC σ' K n L H := by
  obtain ⟨p0, p1, p2, p3, p4⟩ := h
  unfold HC
  rw [h2 2 (Or.inr rfl), h2 1 (Or.inl rfl)]
  refine ⟨p0, p1, p2, p3, fun j j0 j1 => ?_⟩
  obtain ⟨q0, q1⟩ := p4 j j0 j1
  have := slot_in (σ 220 1) j
  exact ⟨q0.frame (fun c _ _ => hf c (by omega) (by omega)), q1.frame (fun c _ _ => hg c (by omega) (by omega))⟩
theorem HC.write {x y z : Int} (h : HC σ K n (L + 1) H) : HC (u2 (u2 (u2 σ 213 (L % 100).toNat x) 214 (L % 100).toNat y) 215 (L % 100).toNat z) K n (L + 1) H := by
  obtain ⟨p0, p1, p2, p3, p4⟩ := h
  unfold HC
  rw [u2_ne (by omega), u2_ne (by omega), u2_ne (by omega)]
  refine ⟨p0, p1, p2, p3, fun j j0 j1 => ?_⟩
  obtain ⟨q0, q1⟩ := p4 j j0 j1
  have := slot_in (σ 220 1) j
  exact ⟨q0.frame (fun c _ _ => by rw [u2_ne (by omega), u2_ne (by omega), u2_ne (by omega)]), RL.keep (g := 212) q1 (by omega) (by omega)⟩
theorem HC.none {L' : Int} {H' : Int → Nat → Int} (h : HC σ K n L H) : HC (u2 σ 220 2 0) K 0 L' H' := by
  obtain ⟨p0, p1, p2, p3, p4⟩ := h
  unfold HC
  rw [u2_e, u2_i (by omega)]
  exact ⟨rfl, by omega, by omega, p3, fun j j0 j1 => by omega⟩
set_option maxHeartbeats 4000000 in
theorem C_keep (hH : HC σ K n L H) (hR : RS σ 173 (KL K L) w (-1) 0) (hG : RL σ 212 L w) (hK : WK K) (hS : WS K w) : ∃ σ', f_X3_keep 173 σ = some σ' ∧ HC σ' K (min (n + 1) 40) (L + 1) (m_push w H) ∧ FR (fun c => c = 220 ∨ (222 ≤ c ∧ c < 742)) σ σ' := by
  obtain ⟨p0, p1, p2, p3, p4⟩ := hH
  obtain ⟨σ1, g1, g2, g3⟩ := C_copyFrom (d := 222 + 13 * (σ 220 1).toNat) hK.kl hR (WS.kl.mpr hS) (by omega)
  have e220 : σ1 220 = σ 220 := g3 _ (by omega)
  refine ⟨u2 (u2 σ1 220 1 ((σ 220 1 + 1) % 40)) 220 2 (min (n + 1) 40), ?_, ?_, ((g3.mono (fun c hc => by omega)).u (by omega)).u (by omega)⟩
  · unfold f_X3_keep f_X3_keep_35
    rw [if_pos p3, g1, Option.bind_some, e220, zid (by omega) (by omega), u2_i (by omega), e220, p0, zid (by omega) (by omega)]
    by_cases d : 40 ≤ σ 220 1 + 1
    · rw [if_pos d, show (σ 220 1 + 1) % 40 = 0 from by omega]
    · rw [if_neg d, show (σ 220 1 + 1) % 40 = σ 220 1 + 1 from by omega]
  · unfold HC
    rw [u2_e, u2_i (by omega), u2_e]
    refine ⟨rfl, by omega, by omega, by omega, fun j j0 j1 => ?_⟩
    have hs := slot_in ((σ 220 1 + 1) % 40) j
    by_cases d : j = 1
    · subst d
      rw [m_push_1, show L + 1 - 1 = L from by omega]
      have es : slot ((σ 220 1 + 1) % 40) 1 = 222 + 13 * (σ 220 1).toNat := by
        unfold slot
        omega
      refine ⟨?_, hG.frame (fun c _ _ => by rw [u2_ne (by omega), u2_ne (by omega), g3 c (by omega)])⟩
      rw [es]
      exact g2.frame (fun c _ _ => by rw [u2_ne (by omega), u2_ne (by omega)])
    · rw [m_push_n d, show L + 1 - j = L - (j - 1) from by omega]
      have es : slot ((σ 220 1 + 1) % 40) j = slot (σ 220 1) (j - 1) := by
        unfold slot
        omega
      obtain ⟨q0, q1⟩ := p4 (j - 1) (by omega) (by omega)
      have hd : slot (σ 220 1) (j - 1) + 13 ≤ 222 + 13 * (σ 220 1).toNat ∨ 222 + 13 * (σ 220 1).toNat + 13 ≤ slot (σ 220 1) (j - 1) := by
        unfold slot
        omega
      refine ⟨?_, q1.frame (fun c _ _ => by rw [u2_ne (by omega), u2_ne (by omega), g3 c (by omega)])⟩
      rw [es] at hs ⊢
      exact q0.frame (fun c _ _ => by rw [u2_ne (by omega), u2_ne (by omega), g3 c (by omega)])
set_option maxHeartbeats 4000000 in
theorem C_giveBack (hH : HC σ K n L H) (hn : 1 ≤ n) (hK : WK K) (hS : WS K (H 1)) : ∃ σ', f_X3_giveBack 173 σ = some (1, σ') ∧ RS σ' 173 (KL K (L - 1)) (H 1) (-1) 0 ∧ RL σ' 212 (L - 1) (H 1) ∧ HC σ' K (n - 1) (L - 1) (fun j => H (j + 1)) ∧ FR (fun c => c = 220 ∨ (173 ≤ c ∧ c < 186)) σ σ' := by
  obtain ⟨p0, p1, p2, p3, p4⟩ := hH
  have hs := slot_in (σ 220 1) 1
  obtain ⟨r0, r1⟩ := p4 1 (by omega) hn
  have es : slot (σ 220 1) 1 = 222 + 13 * ((σ 220 1 + 39) % 40).toNat := by
    unfold slot
    omega
  rw [es] at hs r0
  have r0' := r0.frame (σ' := u2 (u2 σ 220 1 ((σ 220 1 + 39) % 40)) 220 2 (n - 1)) (fun c _ _ => by rw [u2_ne (by omega), u2_ne (by omega)])
  obtain ⟨σ1, g1, g2, g3⟩ := C_copyFrom (d := 173) hK.kl r0' (WS.kl.mpr hS) (by omega)
  refine ⟨σ1, ?_, g2, r1.frame (fun c _ _ => by rw [g3 c (by omega), u2_ne (by omega), u2_ne (by omega)]), ?_, fun c hc => ?_⟩
  · unfold f_X3_giveBack f_X3_giveBack_28
    rw [if_neg (by omega)]
    have e1 : (if σ 220 1 ≤ 0 then (39 : Int) else z_w (σ 220 1 - 1)) = (σ 220 1 + 39) % 40 := by
      by_cases d : σ 220 1 ≤ 0
      · rw [if_pos d]
        omega
      · rw [if_neg d, zid (by omega) (by omega)]
        omega
    rw [e1]
    simp (disch := first | assumption | omega) only [if_true, if_false, zid, zlid, if_pos, if_neg, u2_e, u2_c, u2_i, u1_e, u1_i, Option.bind_some, p0, g1]
  · unfold HC
    rw [g3 220 (by omega), u2_e, u2_i (by omega), u2_e]
    refine ⟨rfl, by omega, by omega, by omega, fun j j0 j1 => ?_⟩
    obtain ⟨q0, q1⟩ := p4 (j + 1) (by omega) (by omega)
    have hs2 := slot_in (σ 220 1) (j + 1)
    have es2 : slot ((σ 220 1 + 39) % 40) j = slot (σ 220 1) (j + 1) := by
      unfold slot
      omega
    rw [es2, show L - 1 - j = L - (j + 1) from by omega]
    exact ⟨q0.frame (fun c _ _ => by rw [g3 c (by omega), u2_ne (by omega), u2_ne (by omega)]), q1.frame (fun c _ _ => by rw [g3 c (by omega), u2_ne (by omega), u2_ne (by omega)])⟩
  · rw [g3 c (by omega), u2_ne (by omega), u2_ne (by omega)]
theorem C_giveBack_0 (hH : HC σ K 0 L H) : f_X3_giveBack 173 σ = some (0, σ) := by
  unfold f_X3_giveBack
  rw [if_pos hH.1]
/-- what keeping a state touches -/
def SH : Nat → Nat → Prop := fun c j => c = 779 ∨ (c = 758 ∧ (j = 35 ∨ j = 36))
theorem tmod40 {x : Int} (h : 0 ≤ x) : Int.tmod x 40 = x % 40 := Int.tmod_eq_emod_of_nonneg h
set_option maxHeartbeats 4000000 in
theorem R_remember (hH : HR σ n H) : ∃ σ', f_X12_remember σ = some σ' ∧ HR σ' (min (n + 1) 40) (m_push (σ 776) H) ∧ FM SH σ σ' := by
  obtain ⟨p0, p1, p2, p3, p4⟩ := hH
  have k : ∀ (q : Nat → Nat → Int) (f : Int), q 758 35 = f → 0 ≤ f → f < 40 → q 758 36 = min (n + 1) 40 → (f + min (n + 1) 40 - 1) % 40 = (σ 758 35 + n) % 40 → q 776 = σ 776 → q 779 = σ 779 → FM SH σ q → ∃ σ', f_X12_remember_35 q = some σ' ∧ HR σ' (min (n + 1) 40) (m_push (σ 776) H) ∧ FM SH σ σ' := fun q f e35 f0 f1 e36 ef e776 e779 hfm => by
    refine ⟨setR q 779 (ov (σ 776) 0 (σ 779) (256 * ((σ 758 35 + n) % 40)).toNat 256), ?_, ?_, hfm.r (fun j => Or.inl rfl)⟩
    · unfold f_X12_remember_35
      rw [e35, e36, zid (x := f + min (n + 1) 40) (by omega) (by omega), zid (x := f + min (n + 1) 40 - 1) (by omega) (by omega), tmod40 (by omega), ef, zid (x := (σ 758 35 + n) % 40) (by omega) (by omega), zid (by omega) (by omega), R_copyRow (Or.inl (by omega)) (by omega) (by omega) (by omega) (by omega) (by omega) (by omega), Option.bind_some, e776, e779]
      rfl
    · unfold HR
      rw [setR_n (by omega), e35, e36]
      refine ⟨rfl, by omega, by omega, ⟨f0, f1⟩, fun j i j0 j1 i1 => ?_⟩
      rw [setR_s]
      unfold ov
      by_cases d : j = 1
      · subst d
        rw [m_push_1, if_pos (by omega)]
        congr 1
        omega
      · rw [m_push_n d, if_neg (by omega), p4 (j - 1) i (by omega) (by omega) i1]
        congr 1
        omega
  unfold f_X12_remember
  by_cases d : n = 40
  · rw [if_pos (by omega), zid (x := σ 758 35 + 1) (by omega) (by omega), tmod40 (by omega), zid (by omega) (by omega)]
    exact k _ ((σ 758 35 + 1) % 40) u2_e (by omega) (by omega) (by rw [u2_i (by omega)]; omega) (by omega) (u2_ne (by omega)) (u2_ne (by omega)) (FM.refl.u (by unfold SH; omega))
  · rw [if_neg (by omega), p0, zid (by omega) (by omega)]
    exact k _ (σ 758 35) (u2_i (by omega)) p3.1 p3.2 (by rw [u2_e]; omega) (by omega) (u2_ne (by omega)) (u2_ne (by omega)) (FM.refl.u (by unfold SH; omega))
theorem HR.frame {σ' : Nat → Nat → Int} (h : HR σ n H) (h1 : σ' 758 35 = σ 758 35) (h2 : σ' 758 36 = σ 758 36) (h3 : σ' 779 = σ 779) : HR σ' n H := by
  unfold HR
  rw [h1, h2, h3]
  exact h
theorem HR.none {H' : Int → Nat → Int} (h : HR σ n H) : HR (u2 σ 758 36 0) 0 H' := by
  obtain ⟨p0, p1, p2, p3, p4⟩ := h
  unfold HR
  rw [u2_e, u2_i (by omega)]
  exact ⟨rfl, by omega, by omega, p3, fun j i j0 j1 => by omega⟩
end S_HI
