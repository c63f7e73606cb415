-- many ticks
def m_ticksS (K : Nat → Nat → Int) (tr th : Int) (s : Int × (Nat → Int)) : Int × (Nat → Int) := (z_w (s.1 + (m_tick K tr th s.2).1), (m_tick K tr th s.2).2)
def m_ticks (K : Nat → Nat → Int) (tr th : Int) (n : Nat) (w : Nat → Int) : Int × (Nat → Int) := iter (fun _ s => m_ticksS K tr th s) n 0 (0, w)
/-- numbers at these places alone changed -/
def FM (S : Nat → Nat → Prop) (σ σ' : Nat → Nat → Int) : Prop := ∀ c j, ¬ S c j → σ' c j = σ c j
theorem FM.refl {S : Nat → Nat → Prop} {σ : Nat → Nat → Int} : FM S σ σ := fun _ _ _ => rfl
theorem FM.trans {S : Nat → Nat → Prop} {σ σ' σ'' : Nat → Nat → Int} (h1 : FM S σ σ') (h2 : FM S σ' σ'') : FM S σ σ'' := fun c j hc => (h2 c j hc).trans (h1 c j hc)
theorem FM.u {S : Nat → Nat → Prop} {σ σ' : Nat → Nat → Int} {c i : Nat} {v : Int} (h : FM S σ σ') (hc : S c i) : FM S σ (u2 σ' c i v) := fun d j hd => by
  by_cases e : d = c ∧ j = i
  · rw [e.1, e.2] at hd
    exact absurd hc hd
  · unfold u2
    rw [if_neg e]
    exact h d j hd
theorem FM.r {S : Nat → Nat → Prop} {σ σ' : Nat → Nat → Int} {b : Nat} {w : Nat → Int} (h : FM S σ σ') (hc : ∀ j, S b j) : FM S σ (setR σ' b w) := fun d j hd => by
  rw [setR_ni (fun e => hd (by rw [e]; exact hc j))]
  exact h d j hd
theorem FM.mono {S T : Nat → Nat → Prop} {σ σ' : Nat → Nat → Int} (h : FM S σ σ') (hs : ∀ c j, S c j → T c j) : FM T σ σ' := fun c j hc => h c j (fun q => hc (hs c j q))
/-- none of the chip's places -/
def NM (S : Nat → Nat → Prop) : Prop := ∀ c j, S c j → ¬ (c = 761 ∨ c = 763 ∨ c = 765 ∨ c = 767 ∨ c = 770 ∨ c = 772) ∧ ¬ (c = 758 ∧ (j = 21 ∨ j = 23 ∨ j = 25 ∨ j = 26))
theorem RM.fm {σ σ' K : Nat → Nat → Int} {S : Nat → Nat → Prop} (h : RM σ K) (hf : FM S σ σ') (hn : NM S) : RM σ' K :=
  h.frame (fun c hc => funext fun j => hf c j (fun q => (hn c j q).1 hc)) (fun j hj => hf 758 j (fun q => (hn 758 j q).2 ⟨rfl, hj⟩))
section S_MT
variable {σ K : Nat → Nat → Int} {a a1 b : Nat} {w : Nat → Int} {tr th : Int}
theorem m_ticks_s (n : Nat) : m_ticks K tr th (n + 1) w = m_ticksS K tr th (m_ticks K tr th n w) := iter_snoc n 0 (0, w)
theorem m_ticks_in (hK : WK K) (hS : WS K w) (hL : WL K w) (ht : 0 ≤ th) : ∀ n : Nat, w 41 + n ≤ 9999 → WS K (m_ticks K tr th n w).2 ∧ WL K (m_ticks K tr th n w).2 ∧ (m_ticks K tr th n w).2 41 = w 41 + n ∧ (∀ i : Nat, 44 ≤ i ∨ (21 ≤ i ∧ i < 25) ∨ (37 ≤ i ∧ i < 41) → (m_ticks K tr th n w).2 i = w i) ∧ (∀ s : Int, 0 ≤ s → s < K 0 1 → w (33 + s).toNat ≤ (m_ticks K tr th n w).2 (33 + s).toNat) := by
  intro n
  induction n with
  | zero =>
    intro _
    exact ⟨hS, hL, by show w 41 = w 41 + 0; omega, fun _ _ => rfl, fun _ _ _ => Int.le_refl _⟩
  | succ n ih =>
    intro hn
    obtain ⟨p1, p2, p3, p4, p5⟩ := ih (by omega)
    have h := m_tick_in (tr := tr) hK p1 p2 ht (by omega)
    rw [m_ticks_s]
    unfold m_ticksS
    dsimp only
    refine ⟨h.1, h.2.1, by rw [h.2.2.1]; omega, fun i hi => (h.2.2.2.1 i hi).trans (p4 i hi), fun s s0 s1 => Int.le_trans (p5 s s0 s1) (h.2.2.2.2.2.2 s s0 s1)⟩
theorem m_tick_43 (hK : WK K) (hS : WS K w) (hL : WL K w) (ht : 0 ≤ th) : (m_tick K tr th w).2 43 = z_w (w 43 + (m_tick K tr th w).1) := by
  have hkn := hK.n
  have hrel := m_rel_in hK hS hL
  have hwake := m_wake_in hK hrel.1
  unfold m_tick
  dsimp only
  have hch := m_chooses_in (tr := tr) (th := th) hK hwake.1 ht
  generalize iter (fun c w => m_choose K tr th c w) (K 0 0).toNat 0 (m_wake K (m_rel K w)).2 = w2 at hch ⊢
  have hw := iter_inv (X := m_work K) (hi := K 0 2) (fun v s => 0 ≤ v ∧ WD K v s ∧ (∀ i : Nat, ¬ (9 ≤ i ∧ i < 21) → ¬ (25 ≤ i ∧ i < 29) → s.2.1 i = w2 i)) (fun v s hv hp => by
    have hx := m_work_in hK hp.1 hv hp.2.1
    exact ⟨by omega, hx.1, fun i i0 i1 => (hx.2 i i0 i1).trans (hp.2.2 i i0 i1)⟩) (K 0 2).toNat 0 ((m_wake K (m_rel K w)).1, w2, fun _ => 0) (by omega) ⟨by omega, ⟨hch.1, hwake.2.1, by dsimp only; omega, fun t t0 t1 => ⟨by dsimp only; omega, by dsimp only; omega, fun _ => rfl⟩⟩, fun _ _ _ => rfl⟩
  generalize iter (m_work K) (K 0 2).toNat 0 ((m_wake K (m_rel K w)).1, w2, fun _ => 0) = s3 at hw ⊢
  obtain ⟨_, hD, ho⟩ := hw
  have hf := m_fade_all hK hD.1 (fun t t0 t1 => ⟨(hD.2.2.2 t t0 t1).1, (hD.2.2.2 t t0 t1).2.1⟩)
  generalize iter (m_fadeS K s3.2.2) (K 0 1).toNat 0 s3.2.1 = w4 at hf ⊢
  have e43 : w4 43 = w 43 := by rw [hf.2 43 (by omega), ho 43 (by omega) (by omega), hch.2 43 (by omega), hwake.2.2.2 43 (by omega), hrel.2.2 43 (by omega)]
  unfold m_heat
  rw [u1_i (by omega), u1_e, e43]
theorem C_passMany (hR : RS σ a K w tr th) (hC : RC σ a1 K) (hK : WK K) (hS : WS K w) (hL : WL K w) (ht : 0 ≤ th) (ha1 : a1 + 19 ≤ 42) (ha : 173 ≤ a) (ha2 : a + 13 ≤ 743) {n : Int} (h0 : 0 ≤ n) (hn : w 41 + n ≤ 9999) (h41 : 0 ≤ w 41) :
    ∃ σ', f_X2_passMany a1 a n σ = some ((m_ticks K tr th n.toNat w).1, σ') ∧ RS σ' a K (m_ticks K tr th n.toNat w).2 tr th ∧ FR (SC a) σ σ' := by
  have hkn := hK.n
  have h := sim_loop (F := fun k v (q : Nat → Nat → Int) => f_X2_passMany_9 k a1 a n (w 43) v q) (X := fun _ s => m_ticksS K tr th s) (hi := n)
    (fun v q s => z_w (s.2 43 - w 43) = s.1 ∧ 0 ≤ v ∧ RS q a K s.2 tr th ∧ FR (SC a) σ q ∧ WS K s.2 ∧ WL K s.2 ∧ s.2 41 = w 41 + v)
    (fun s r => ∃ σ', r = some (s.1, σ') ∧ RS σ' a K s.2 tr th ∧ FR (SC a) σ σ')
    (fun k v q s hv hp => by
      obtain ⟨s1, s2⟩ := s
      obtain ⟨pe, p0, p1, p2, p3, p4, p5⟩ := hp
      dsimp only at pe p1 p3 p4 p5
      obtain ⟨σ', g1, g2, g3⟩ := C_passOne p1 (hC.fr hK ha1 ha p2) hK p3 p4 ht ha1 ha ha2 (by omega)
      have hin := m_tick_in (tr := tr) hK p3 p4 ht (by omega)
      have h43 := m_tick_43 (tr := tr) hK p3 p4 ht
      refine ⟨σ', ?_, ?_, by omega, g2, p2.trans g3, hin.1, hin.2.1, ?_⟩
      · rw [f_X2_passMany_9_e]
        simp (disch := first | assumption | omega) only [if_true, if_false, zid, zlid, if_pos, if_neg, u2_e, u2_c, u2_i, u1_e, u1_i, Option.bind_some, g1]
      · show z_w ((m_tick K tr th s2).2 43 - w 43) = z_w (s1 + (m_tick K tr th s2).1)
        rw [h43, ← pe]
        generalize (m_tick K tr th s2).1 = u
        unfold z_w
        omega
      · show (m_tick K tr th s2).2 41 = _
        rw [hin.2.2.1]
        omega)
    (fun k q s hp => by
      obtain ⟨s1, s2⟩ := s
      obtain ⟨pe, p0, p1, p2, p3, p4, p5⟩ := hp
      dsimp only at pe p1 p3 p4 p5
      refine ⟨q, ?_, p1, p2⟩
      rw [f_X2_passMany_9_e, if_pos (Int.le_refl n), p1.n2, pe]) n.toNat 100000 0 σ (0, w) (by omega) (by omega) ⟨by
        show z_w (w 43 - w 43) = 0
        rw [Int.sub_self]
        rfl, by omega, hR, FR.refl, hS, hL, by dsimp only; omega⟩
  unfold f_X2_passMany
  rw [hR.n2]
  exact h
/-- what ticks of the reference touch: the row, what was done; what came -/
def ST (b : Nat) : Nat → Nat → Prop := fun c j => c = b ∨ c = 780 ∨ (c = 758 ∧ j = 42)
theorem ST.nm {b : Nat} (hb : 776 ≤ b) : NM (ST b) := fun c j h => by unfold ST at h; omega
theorem R_does_48 (hM : RM σ K) (hK : WK K) (hb : 776 ≤ b) (hb2 : b < 780) (hS : WS K (σ b)) (hL : WL K (σ b)) (h38 : σ 758 38 = tr) (h39 : σ 758 39 = th) (ht : 0 ≤ th) {n : Int} (h0 : 0 ≤ n) (hn : σ b 41 + n ≤ 9999) (h41 : 0 ≤ σ b 41) (h42 : σ 758 42 = 0) :
    ∃ σ', f_X12_does_48 100000 b n 0 σ = some σ' ∧ σ' b = (m_ticks K tr th n.toNat (σ b)).2 ∧ σ' 758 42 = (m_ticks K tr th n.toNat (σ b)).1 ∧ FM (ST b) σ σ' := by
  have hkn := hK.n
  have h := sim_loop (F := fun k v (q : Nat → Nat → Int) => f_X12_does_48 k b n v q) (X := fun _ s => m_ticksS K tr th s) (hi := n)
    (fun v q s => q 758 42 = s.1 ∧ 0 ≤ v ∧ q b = s.2 ∧ FM (ST b) σ q ∧ WS K s.2 ∧ WL K s.2 ∧ s.2 41 = σ b 41 + v)
    (fun s r => ∃ σ', r = some σ' ∧ σ' b = s.2 ∧ σ' 758 42 = s.1 ∧ FM (ST b) σ σ')
    (fun k v q s hv hp => by
      obtain ⟨s1, s2⟩ := s
      obtain ⟨pe, p0, p1, p2, p3, p4, p5⟩ := hp
      dsimp only at pe p1 p2 p3 p4 p5
      have hM' := hM.fm p2 (ST.nm hb)
      obtain ⟨e', g⟩ := R_ticks (σ := q) (tr := tr) (th := th) hM' hK hb hb2 p3 p4 (by rw [p2 758 38 (by unfold ST; omega)]; exact h38) (by rw [p2 758 39 (by unfold ST; omega)]; exact h39) ht (by omega)
      rw [← p1, setR_id] at g
      have hin := m_tick_in (tr := tr) hK p3 p4 ht (by omega)
      refine ⟨u2 (setR (setR q b (m_tick K tr th s2).2) 780 e') 758 42 (z_w (s1 + (m_tick K tr th s2).1)), ?_, u2_e, by omega, ?_, ((p2.r (fun j => Or.inl rfl)).r (fun j => Or.inr (Or.inl rfl))).u (Or.inr (Or.inr ⟨rfl, rfl⟩)), hin.1, hin.2.1, ?_⟩
      · rw [f_X12_does_48, g, p1, pe]
        simp (disch := first | assumption | omega) only [if_true, if_false, zid, zlid, if_pos, if_neg, u2_e, u2_c, u2_i, u1_e, u1_i, Option.bind_some]
      · show _ = (m_tick K tr th s2).2
        rw [u2_ne (by omega), setR_n (by omega), setR_s]
      · show (m_tick K tr th s2).2 41 = _
        rw [hin.2.2.1]
        omega)
    (fun k q s hp => by
      obtain ⟨pe, p0, p1, p2, p3, p4, p5⟩ := hp
      refine ⟨q, ?_, p1, pe, p2⟩
      rw [f_X12_does_48]
      simp (disch := first | assumption | omega) only [if_true, if_false, zid, zlid, if_pos, if_neg, u2_e, u2_c, u2_i, u1_e, u1_i, Option.bind_some]) n.toNat 100000 0 σ (0, σ b) (by omega) (by omega) ⟨h42, by omega, rfl, FM.refl, hS, hL, by dsimp only; omega⟩
  exact h
/-- a row laid over another -/
def ov (x : Nat → Int) (f : Nat) (y : Nat → Int) (t n : Nat) : Nat → Int := fun j => if t ≤ j ∧ j < t + n then x (f + (j - t)) else y j
theorem R_copyRow {n1 n2 : Nat} {f t : Int} {c d : Nat} (hcd : c ≠ d ∨ f = t) (f0 : 0 ≤ f) (t0 : 0 ≤ t) (f1 : f + 256 ≤ n1) (t1 : t + 256 ≤ n2) (hn1 : n1 ≤ 20000) (hn2 : n2 ≤ 20000) : f_X12_copyRow c n1 f d n2 t σ = some (setR σ d (ov (σ c) f.toNat (σ d) t.toNat 256)) := by
  unfold f_X12_copyRow
  have h := hoare_loop (F := fun k v (q : Nat → Nat → Int) => f_X12_copyRow_3 k c n1 f d n2 t v q) (hi := 256)
    (fun v q => 0 ≤ v ∧ q = setR σ d (ov (σ c) f.toNat (σ d) t.toNat v.toNat))
    (fun r => r = setR σ d (ov (σ c) f.toNat (σ d) t.toNat 256))
    (fun k v q hv hp => by
      obtain ⟨p0, rfl⟩ := hp
      refine ⟨setR σ d (ov (σ c) f.toNat (σ d) t.toNat (v + 1).toNat), ?_, by omega, rfl⟩
      have e : u2 (setR σ d (ov (σ c) f.toNat (σ d) t.toNat v.toNat)) d (t + v).toNat (setR σ d (ov (σ c) f.toNat (σ d) t.toNat v.toNat) c (f + v).toNat) = setR σ d (ov (σ c) f.toNat (σ d) t.toNat (v + 1).toNat) := by
        rw [setR_u]
        congr 1
        funext j
        unfold u1 ov
        by_cases e1 : j = (t + v).toNat
        · rw [if_pos e1, if_pos (by omega)]
          by_cases e2 : c = d
          · subst e2
            have e3 : f = t := by omega
            subst e3
            rw [setR_s]
            rw [if_neg (by omega), show f.toNat + (j - f.toNat) = (f + v).toNat from by omega]
          · rw [setR_ni e2, show f.toNat + (j - t.toNat) = (f + v).toNat from by omega]
        · rw [if_neg e1]
          by_cases e2 : t.toNat ≤ j ∧ j < t.toNat + v.toNat
          · rw [if_pos e2, if_pos (by omega)]
          · rw [if_neg e2, if_neg (by omega)]
      rw [f_X12_copyRow_3]
      simp (disch := first | assumption | omega) only [if_true, if_false, zid, zlid, if_pos, if_neg, u2_e, u2_c, u2_i, u1_e, u1_i, Option.bind_some, e])
    (fun k q hp => by
      obtain ⟨p0, rfl⟩ := hp
      refine ⟨_, ?_, rfl⟩
      rw [f_X12_copyRow_3]
      simp (disch := first | assumption | omega) only [if_true, if_false, zid, zlid, if_pos, if_neg, u2_e, u2_c, u2_i, u1_e, u1_i, Option.bind_some]
      rfl) 256 100000 0 σ (by omega) (by omega) ⟨by omega, by
        have : ov (σ c) f.toNat (σ d) t.toNat (0 : Int).toNat = σ d := by
          funext j
          unfold ov
          exact if_neg (by omega)
        rw [this, setR_id]⟩
  obtain ⟨r, h1, h2⟩ := h
  rw [h1, h2]
theorem WS.cg {w' : Nat → Int} (hS : WS K w) (hK : WK K) (h : ∀ j, j < 256 → w' j = w j) : WS K w' := by
  have hkn := hK.n
  obtain ⟨hc, hv, ht, hl, hm, hk⟩ := hS
  have e44 := h 44 (by omega)
  refine ⟨fun c h0 h1 => ?_, fun v h0 h1 => ?_, fun t h0 h1 => ?_, fun t h0 h1 => ?_, ?_, fun k h0 h1 => ?_⟩
  · rw [h c.toNat (by omega), h (6 + c).toNat (by omega)]
    exact hc c h0 h1
  · rw [h (9 + v).toNat (by omega)]
    exact hv v h0 h1
  · rw [h (21 + t).toNat (by omega), h (25 + t).toNat (by omega), h (29 + t).toNat (by omega), h (33 + t).toNat (by omega), h (37 + t).toNat (by omega)]
    exact ht t h0 h1
  · rw [h (33 + t).toNat (by omega)]
    exact hl t h0 h1
  · rw [h 41 (by omega), e44]
    exact hm
  · rw [e44] at h1
    have hh := hk k h0 h1
    unfold m_nm
    rw [h (45 + 5 * k).toNat (by omega), h (46 + 5 * k).toNat (by omega), h (47 + 5 * k).toNat (by omega), h (48 + 5 * k).toNat (by omega), h (49 + 5 * k).toNat (by omega)]
    exact hh
theorem WL.cg {w' : Nat → Int} (hL : WL K w) (hK : WK K) (h : ∀ j, j < 256 → w' j = w j) : WL K w' := fun t h0 h1 => by
  have hkn := hK.n
  rw [h (33 + t).toNat (by omega), h 41 (by omega)]
  exact hL t h0 h1
theorem RS.cg {w' : Nat → Int} (hR : RS σ a K w tr th) (hK : WK K) (h44 : 0 ≤ w 44 ∧ w 44 ≤ 6) (h : ∀ j, j < 256 → w' j = w j) : RS σ a K w' tr th := by
  have hkn := hK.n
  obtain ⟨⟨n0, n1, n2, n4, n3⟩, b5, b6, ht, hc, hv, hk, hx⟩ := hR
  have e44 := h 44 (by omega)
  refine ⟨⟨?_, ?_, ?_, ?_, ?_⟩, b5.congr (fun i i0 i1 => h _ (by omega)), b6.congr (fun i i0 i1 => h _ (by omega)), fun t h0 h1 => ?_, fun c' h0 h1 => ?_, fun v h0 h1 => ?_, fun k h0 h1 => ?_, fun h0 => ?_⟩
  · rw [h 41 (by omega)]
    exact n0
  · rw [h 42 (by omega)]
    exact n1
  · rw [h 43 (by omega)]
    exact n2
  · rw [e44]
    exact n4
  · exact n3
  · rw [h (21 + t).toNat (by omega), h (25 + t).toNat (by omega), h (29 + t).toNat (by omega), h (33 + t).toNat (by omega)]
    exact ht t h0 h1
  · rw [h c'.toNat (by omega), h (3 + c').toNat (by omega), h (6 + c').toNat (by omega)]
    exact hc c' h0 h1
  · rw [h (15 + v).toNat (by omega)]
    exact hv v h0 h1
  · rw [e44] at h1
    have hh := hk k h0 h1
    unfold m_nm at hh ⊢
    rw [h (45 + 5 * k).toNat (by omega), h (46 + 5 * k).toNat (by omega), h (47 + 5 * k).toNat (by omega), h (48 + 5 * k).toNat (by omega), h (49 + 5 * k).toNat (by omega)]
    exact hh
  · rw [e44]
    exact hx h0
theorem R_goesOn (hM : RM σ K) (hK : WK K) (hS : WS K (σ 776)) (hL : WL K (σ 776)) (h38 : σ 758 38 = tr) (h39 : σ 758 39 = th) (ht : 0 ≤ th) {n : Int} (h0 : 0 ≤ n) (hn : σ 776 41 + n ≤ 9999) (h41 : 0 ≤ σ 776 41) :
    ∃ σ' w0, f_X12_goesOn_ n σ = some σ' ∧ (∀ j, j < 256 → w0 j = σ 776 j) ∧ σ' 777 = (m_ticks K tr th n.toNat w0).2 ∧ FM (ST 777) σ σ' := by
  have hkn := hK.n
  have hw : ∀ j, j < 256 → ov (σ 776) 0 (σ 777) 0 256 j = σ 776 j := fun j hj => by
    unfold ov
    rw [if_pos (by omega)]
    congr 1
    omega
  have e41 := hw 41 (by omega)
  have hS0 := hS.cg hK hw
  have hL0 := hL.cg hK hw
  generalize hg : ov (σ 776) 0 (σ 777) 0 256 = w0 at hw e41 hS0 hL0
  have h := sim_loop (F := fun k v (q : Nat → Nat → Int) => f_X12_goesOn__15 k n v q) (X := fun _ s => m_ticksS K tr th s) (hi := n)
    (fun v q s => 0 ≤ v ∧ q 777 = s.2 ∧ FM (ST 777) σ q ∧ WS K s.2 ∧ WL K s.2 ∧ s.2 41 = σ 776 41 + v)
    (fun s r => ∃ σ', r = some σ' ∧ σ' 777 = s.2 ∧ FM (ST 777) σ σ')
    (fun k v q s hv hp => by
      obtain ⟨s1, s2⟩ := s
      obtain ⟨p0, p1, p2, p3, p4, p5⟩ := hp
      dsimp only at p1 p2 p3 p4 p5
      have hM' := hM.fm p2 (ST.nm (by omega))
      obtain ⟨e', g⟩ := R_ticks (σ := q) (tr := tr) (th := th) hM' hK (b := 777) (by omega) (by omega) p3 p4 (by rw [p2 758 38 (by unfold ST; omega)]; exact h38) (by rw [p2 758 39 (by unfold ST; omega)]; exact h39) ht (by omega)
      rw [← p1, setR_id] at g
      have hin := m_tick_in (tr := tr) hK p3 p4 ht (by omega)
      refine ⟨setR (setR q 777 (m_tick K tr th s2).2) 780 e', ?_, by omega, ?_, (p2.r (fun j => Or.inl rfl)).r (fun j => Or.inr (Or.inl rfl)), hin.1, hin.2.1, ?_⟩
      · rw [f_X12_goesOn__15, g, p1]
        simp (disch := first | assumption | omega) only [if_true, if_false, zid, zlid, if_pos, if_neg, u2_e, u2_c, u2_i, u1_e, u1_i, Option.bind_some]
      · show _ = (m_tick K tr th s2).2
        rw [setR_n (by omega), setR_s]
      · show (m_tick K tr th s2).2 41 = _
        rw [hin.2.2.1]
        omega)
    (fun k q s hp => by
      obtain ⟨p0, p1, p2, p3, p4, p5⟩ := hp
      refine ⟨q, ?_, p1, p2⟩
      rw [f_X12_goesOn__15]
      simp (disch := first | assumption | omega) only [if_true, if_false, zid, zlid, if_pos, if_neg, u2_e, u2_c, u2_i, u1_e, u1_i, Option.bind_some]) n.toNat 100000 0 (setR σ 777 w0) (0, w0) (by omega) (by omega) ⟨by omega, setR_s, FM.refl.r (fun j => Or.inl rfl), hS0, hL0, by dsimp only; omega⟩
  obtain ⟨σ', g1, g2, g3⟩ := h
  refine ⟨σ', w0, ?_, hw, g2, g3⟩
  unfold f_X12_goesOn_
  rw [R_copyRow (Or.inl (by omega)) (by omega) (by omega) (by omega) (by omega) (by omega) (by omega), Option.bind_some, show (0 : Int).toNat = 0 from rfl, hg]
  exact g1
end S_MT
