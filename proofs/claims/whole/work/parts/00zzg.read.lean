-- reading the tape: blanks, words, numbers, semicolons; both sides, one memory each
/-- sound, at p -/
def TA (c r : Nat → Nat → Int) (p : Int) : Prop := TPR c r ∧ c 2 2 = p ∧ r 758 3 = p ∧ 0 ≤ p ∧ p ≤ r 758 2 ∧ c 2 4 = -1 ∧ r 758 4 = -1
/-- a fault at f stands -/
def TX (c r : Nat → Nat → Int) (f : Int) : Prop := TPR c r ∧ 0 ≤ c 2 2 ∧ c 2 2 ≤ c 2 1 ∧ c 2 4 = f ∧ r 758 4 = f ∧ 0 ≤ f
def SRD : Nat → Nat → Prop := fun c j => c = 2 ∧ (j = 2 ∨ j = 3 ∨ j = 4)
def SRE : Nat → Nat → Prop := fun c j => c = 758 ∧ (j = 3 ∨ j = 4 ∨ j = 5 ∨ j = 6)
/-- the byte at p, -1 behind the end -/
def hv (c r : Nat → Nat → Int) (p : Int) : Int := if r 758 2 ≤ p then -1 else c 3 p.toNat
section S_RD
variable {c r c0 r0 : Nat → Nat → Int} {p q f : Int}
theorem TPR.fm {c' r' : Nat → Nat → Int} (h : TPR c r) (h1 : FM SRD c c') (h2 : FM SRE r r') : TPR c' r' := h.frame (h1 2 1 (by unfold SRD; omega)) (funext fun j => h1 3 j (by unfold SRD; omega)) (h2 758 2 (by unfold SRE; omega)) (funext fun j => h2 759 j (by unfold SRE; omega))
theorem R_here (h : TPR c r) (h3 : r 758 3 = p) (p0 : 0 ≤ p) : f_X12_here r = some (hv c r p) := by
  obtain ⟨h1, h2, h4, h5⟩ := h
  unfold f_X12_here hv
  rw [h3]
  by_cases d : r 758 2 ≤ p
  · rw [if_pos d, if_pos d]
  · rw [if_neg d, if_neg d, if_pos (by omega), (h5 p.toNat (by omega)).1]
theorem hv_in (h : TPR c r) (p0 : 0 ≤ p) : -1 ≤ hv c r p ∧ hv c r p ≤ 255 ∧ (hv c r p = -1 ↔ r 758 2 ≤ p) ∧ (¬ r 758 2 ≤ p → hv c r p = c 3 p.toNat) := by
  obtain ⟨h1, h2, h4, h5⟩ := h
  unfold hv
  by_cases d : r 758 2 ≤ p
  · rw [if_pos d]
    exact ⟨by omega, by omega, ⟨fun _ => d, fun _ => rfl⟩, fun q => absurd d q⟩
  · rw [if_neg d]
    have := h5 p.toNat (by omega)
    exact ⟨by omega, by omega, ⟨fun _ => by omega, fun _ => absurd ‹r 758 2 ≤ p› d⟩, fun _ => rfl⟩
theorem T_skip : ∀ (m kc kr : Nat) (c r : Nat → Nat → Int) (p : Int), TPR c r → c 2 2 = p → r 758 3 = p → 0 ≤ p → p + m = r 758 2 → m < kc → m < kr → ∃ q c' r', f_X9_goToNextPart_0 kc c = some c' ∧ f_X12_look_0 kr r = some (hv c r q, r') ∧ p ≤ q ∧ q ≤ r 758 2 ∧ hv c r q ≠ 32 ∧ c' 2 2 = q ∧ c' 2 3 = q ∧ c' 2 4 = c 2 4 ∧ r' 758 3 = q ∧ r' 758 4 = r 758 4 ∧ FM SRD c c' ∧ FM SRE r r' := by
  intro m
  induction m with
  | zero =>
    intro kc kr c r p h hc hr p0 hp hkc hkr
    obtain ⟨kc, rfl⟩ : ∃ q, kc = q + 1 := ⟨kc - 1, by omega⟩
    obtain ⟨kr, rfl⟩ : ∃ q, kr = q + 1 := ⟨kr - 1, by omega⟩
    have hh := R_here h hr p0
    have e : hv c r p = -1 := if_pos (by omega)
    refine ⟨p, u2 c 2 3 p, r, ?_, ?_, by omega, by omega, by omega, by rw [u2_i (by omega)]; exact hc, u2_e, u2_i (by omega), hr, rfl, FM.refl.u (by unfold SRD; omega), FM.refl⟩
    · rw [f_X9_goToNextPart_0, h.1, hc, if_pos (by omega)]
    · rw [f_X12_look_0, hh, Option.bind_some, if_neg (by omega), Option.bind_some]
  | succ m ih =>
    intro kc kr c r p h hc hr p0 hp hkc hkr
    obtain ⟨kc, rfl⟩ : ∃ q, kc = q + 1 := ⟨kc - 1, by omega⟩
    obtain ⟨kr, rfl⟩ : ∃ q, kr = q + 1 := ⟨kr - 1, by omega⟩
    have hh := R_here h hr p0
    have h2 := h.2.2.1
    have e : hv c r p = c 3 p.toNat := if_neg (by omega)
    by_cases d : c 3 p.toNat = 32
    · have hm1 : FM SRD c (u2 c 2 2 (p + 1)) := FM.refl.u (by unfold SRD; omega)
      have hm2 : FM SRE r (u2 r 758 3 (p + 1)) := FM.refl.u (by unfold SRE; omega)
      obtain ⟨q, c', r', g1, g2, g3, g4, g5, g6, g7, g8, g9, g10, g11, g12⟩ := ih kc kr (u2 c 2 2 (p + 1)) (u2 r 758 3 (p + 1)) (p + 1) (h.fm hm1 hm2) u2_e u2_e (by omega) (by rw [u2_i (by omega)]; omega) (by omega) (by omega)
      have ehv : ∀ x, hv (u2 c 2 2 (p + 1)) (u2 r 758 3 (p + 1)) x = hv c r x := fun x => by
        unfold hv
        rw [u2_i (show (2 : Nat) ≠ 3 by omega), u2_ne (show (3 : Nat) ≠ 2 by omega)]
      rw [ehv] at g2 g5
      rw [u2_i (by omega)] at g4 g8 g10
      refine ⟨q, c', r', ?_, ?_, by omega, g4, g5, g6, g7, g8, g9, g10, hm1.trans g11, hm2.trans g12⟩
      · rw [f_X9_goToNextPart_0, h.1, hc, if_neg (by omega), if_pos (by omega), if_pos d, zid (x := p + 1) (by omega) (by omega)]
        exact g1
      · rw [f_X12_look_0, hh, Option.bind_some, if_pos (by omega), hr, zid (x := p + 1) (by omega) (by omega)]
        exact g2
    · refine ⟨p, u2 c 2 3 p, r, ?_, ?_, by omega, by omega, by omega, by rw [u2_i (by omega)]; exact hc, u2_e, u2_i (by omega), hr, rfl, FM.refl.u (by unfold SRD; omega), FM.refl⟩
      · rw [f_X9_goToNextPart_0, h.1, hc, if_neg (by omega), if_pos (by omega), if_neg d]
      · rw [f_X12_look_0, hh, Option.bind_some, if_neg (by omega), Option.bind_some]
theorem T_go (h : TA c r p) : ∃ q c' r', f_X9_goToNextPart c = some c' ∧ f_X12_look r = some (hv c r q, r') ∧ p ≤ q ∧ hv c r q ≠ 32 ∧ TA c' r' q ∧ c' 2 3 = q ∧ FM SRD c c' ∧ FM SRE r r' := by
  obtain ⟨h1, h2, h3, h4, h5, h6, h7⟩ := h
  have hl := h1.2.2.1
  obtain ⟨q, c', r', g1, g2, g3, g4, g5, g6, g7, g8, g9, g10, g11, g12⟩ := T_skip (r 758 2 - p).toNat 100000 100000 c r p h1 h2 h3 h4 (by omega) (by omega) (by omega)
  exact ⟨q, c', r', g1, g2, g3, g5, ⟨h1.fm g11 g12, g6, g9, by omega, by rw [g12 758 2 (by unfold SRE; omega)]; exact g4, by rw [g8]; exact h6, by rw [g10]; exact h7⟩, g7, g11, g12⟩
theorem C_refusePart (h4 : c 2 4 = -1) : f_X9_refusePart c = some (u2 c 2 4 (c 2 3)) := by
  unfold f_X9_refusePart f_X9_refuse
  rw [if_pos h4, Option.bind_some]
theorem C_refusePartX (h4 : c 2 4 ≠ -1) : f_X9_refusePart c = some c := by
  unfold f_X9_refusePart f_X9_refuse
  rw [if_neg h4, Option.bind_some]
theorem TA.fails {c' r' : Nat → Nat → Int} (h : TA c r p) (hq : 0 ≤ q) : TX (u2 c 2 4 q) (u2 r 758 4 q) q := by
  obtain ⟨h1, h2, h3, h4, h5, h6, h7⟩ := h
  refine ⟨h1.fm (FM.refl.u (by unfold SRD; omega)) (FM.refl.u (by unfold SRE; omega)), ?_, ?_, u2_e, u2_e, hq⟩
  · rw [u2_i (by omega)]
    omega
  · rw [u2_i (by omega), u2_i (by omega), h1.1]
    omega
/-- the letters of a word -/
theorem T_lets : ∀ (m kc kr : Nat) (x : Int) (n : Nat) (c r : Nat → Nat → Int) (p : Int), TA c r p → c 2 3 = q → r 758 5 = q → 0 ≤ q → p = q + n → p + m = r 758 2 → m < kc → m < kr → (n ≤ 7 → r 758 6 = x ∧ PK n x) →
    ∃ x' c' r' s, f_X9_readWord_6 kc x c = some (x', c') ∧ f_X12_word_27 kr r = some r' ∧ FM SRD c c' ∧ FM SRE r r' ∧ ((TA c' r' s ∧ r' 758 6 = x' ∧ c' 2 3 = q ∧ r' 758 5 = q ∧ ∃ k, 1 ≤ k ∧ k ≤ 7 ∧ PK k x' ∧ p ≤ s) ∨ (TX c' r' q ∧ x' = 0)) := by
  intro m
  have fin : ∀ (kc kr : Nat) (x : Int) (n : Nat) (c r : Nat → Nat → Int) (p : Int), TA c r p → c 2 3 = q → r 758 5 = q → 0 ≤ q → p = q + n → (n ≤ 7 → r 758 6 = x ∧ PK n x) → (hv c r p < 97 ∨ 122 < hv c r p) →
      ∃ x' c' r' s, f_X9_readWord_6 (kc + 1) x c = some (x', c') ∧ f_X12_word_27 (kr + 1) r = some r' ∧ FM SRD c c' ∧ FM SRE r r' ∧ ((TA c' r' s ∧ r' 758 6 = x' ∧ c' 2 3 = q ∧ r' 758 5 = q ∧ ∃ k, 1 ≤ k ∧ k ≤ 7 ∧ PK k x' ∧ p ≤ s) ∨ (TX c' r' q ∧ x' = 0)) := fun kc kr x n c r p h hc3 hr5 q0 hp hx hb => by
    have h' := h
    obtain ⟨h1, h2, h3, h4, h5, h6, h7⟩ := h
    have hl := h1.2.2.1
    have hh := R_here h1 h3 h4
    have hi := hv_in h1 h4
    have hlet : f_X12_isLetter r = some 0 := by
      unfold f_X12_isLetter
      rw [hh, Option.bind_some]
      by_cases d : hv c r p < 97
      · rw [if_pos d]
      · rw [if_neg d, Option.bind_some, if_pos (by omega)]
    have hcl : f_X9_readWord_6 (kc + 1) x c = f_X9_readWord_74 x c := by
      rw [f_X9_readWord_6, h1.1, h2]
      by_cases d : r 758 2 ≤ p
      · rw [if_pos d]
      · rw [if_neg d, if_pos (by omega)]
        have e := hi.2.2.2 d
        by_cases d2 : c 3 p.toNat < 97
        · rw [if_pos d2]
        · rw [if_neg d2, if_pos (by omega), if_pos (by omega)]
    rw [hcl, f_X12_word_27, hlet, Option.bind_some, if_pos rfl, h3, hr5]
    unfold f_X9_readWord_74 f_X9_readWord_99 f_X12_word_103 f_X12_fails
    rw [h2, hc3, hr5, h7, if_pos rfl, C_refusePart h6, hc3, zid (x := p - q) (by omega) (by omega)]
    by_cases d : p = q
    · rw [if_pos d, if_pos d]
      exact ⟨0, _, _, p, rfl, rfl, FM.refl.u (by unfold SRD; omega), FM.refl.u (by unfold SRE; omega), Or.inr ⟨h'.fails (c' := c) (r' := r) q0, rfl⟩⟩
    · rw [if_neg d, if_neg d]
      by_cases d2 : p - q ≤ 7
      · rw [if_pos d2, if_pos d2]
        have hxx := hx (by omega)
        exact ⟨x, c, r, p, rfl, rfl, FM.refl, FM.refl, Or.inl ⟨h', hxx.1, hc3, hr5, n, by omega, by omega, hxx.2, Int.le_refl _⟩⟩
      · rw [if_neg d2, if_neg d2]
        exact ⟨0, _, _, p, rfl, rfl, FM.refl.u (by unfold SRD; omega), FM.refl.u (by unfold SRE; omega), Or.inr ⟨h'.fails (c' := c) (r' := r) q0, rfl⟩⟩
  induction m with
  | zero =>
    intro kc kr x n c r p h hc3 hr5 q0 hp hm hkc hkr hx
    obtain ⟨kc, rfl⟩ : ∃ q, kc = q + 1 := ⟨kc - 1, by omega⟩
    obtain ⟨kr, rfl⟩ : ∃ q, kr = q + 1 := ⟨kr - 1, by omega⟩
    have e : hv c r p = -1 := if_pos (by omega)
    exact fin kc kr x n c r p h hc3 hr5 q0 hp hx (by omega)
  | succ m ih =>
    intro kc kr x n c r p h hc3 hr5 q0 hp hm hkc hkr hx
    obtain ⟨kc, rfl⟩ : ∃ q, kc = q + 1 := ⟨kc - 1, by omega⟩
    obtain ⟨kr, rfl⟩ : ∃ q, kr = q + 1 := ⟨kr - 1, by omega⟩
    by_cases hb : hv c r p < 97 ∨ 122 < hv c r p
    · exact fin kc kr x n c r p h hc3 hr5 q0 hp hx hb
    · obtain ⟨h1, h2, h3, h4, h5, h6, h7⟩ := h
      have hl := h1.2.2.1
      have hh := R_here h1 h3 h4
      have e : hv c r p = c 3 p.toNat := if_neg (by omega)
      have hlet : f_X12_isLetter r = some 1 := by
        unfold f_X12_isLetter
        rw [hh, Option.bind_some, if_neg (by omega), Option.bind_some, if_neg (by omega)]
      have hcl : f_X9_readWord_6 (kc + 1) x c = f_X9_readWord_6 kc (z_orL (z_shlL x 8) (c 3 p.toNat)) (u2 c 2 2 (p + 1)) := by
        rw [f_X9_readWord_6, h1.1, h2, if_neg (by omega), if_pos (by omega), if_neg (by omega), if_pos (by omega), if_neg (by omega), if_pos (by omega), zid (x := p + 1) (by omega) (by omega)]
      have hm1 : FM SRD c (u2 c 2 2 (p + 1)) := FM.refl.u (by unfold SRD; omega)
      by_cases d : 7 ≤ n
      · have hrl : f_X12_word_27 (kr + 1) r = f_X12_word_27 kr (u2 r 758 3 (p + 1)) := by
          rw [f_X12_word_27, hlet, Option.bind_some, if_neg (show ¬ (1 : Int) = 0 by omega), h3, hr5, zid (x := p - q) (by omega) (by omega), if_pos (by omega)]
          unfold f_X12_word_65
          rw [h3, zid (x := p + 1) (by omega) (by omega)]
        have hm2 : FM SRE r (u2 r 758 3 (p + 1)) := FM.refl.u (by unfold SRE; omega)
        obtain ⟨x', c', r', s, g1, g2, g3, g4, g5⟩ := ih kc kr (z_orL (z_shlL x 8) (c 3 p.toNat)) (n + 1) (u2 c 2 2 (p + 1)) (u2 r 758 3 (p + 1)) (p + 1) ⟨h1.fm hm1 hm2, u2_e, u2_e, by omega, by rw [u2_i (by omega)]; omega, (u2_i (by omega)).trans h6, (u2_i (by omega)).trans h7⟩ ((u2_i (by omega)).trans hc3) ((u2_i (by omega)).trans hr5) q0 (by omega) (by rw [u2_i (by omega)]; omega) (by omega) (by omega) (fun w => by omega)
        refine ⟨x', c', r', s, hcl.trans g1, hrl.trans g2, hm1.trans g3, hm2.trans g4, ?_⟩
        rcases g5 with ⟨a1, a2, a3, a4, k, a5, a6, a7, a8⟩ | a
        · exact Or.inl ⟨a1, a2, a3, a4, k, a5, a6, a7, by omega⟩
        · exact Or.inr a
      · obtain ⟨x6, hpk⟩ := hx (by omega)
        obtain ⟨b1, b2, b3⟩ := hpk.lt (by omega)
        have hw := wd_of (v := x) (b := c 3 p.toNat) b1 (b3 (by omega)) (by omega) (by omega)
        have hrl : f_X12_word_27 (kr + 1) r = f_X12_word_27 kr (u2 (u2 r 758 6 (x * 256 + c 3 p.toNat)) 758 3 (p + 1)) := by
          rw [f_X12_word_27, hlet, Option.bind_some, if_neg (show ¬ (1 : Int) = 0 by omega), h3, hr5, zid (x := p - q) (by omega) (by omega), if_neg (by omega), hh, Option.bind_some, x6, e, hw]
          unfold f_X12_word_65
          rw [u2_i (by omega), h3, zid (x := p + 1) (by omega) (by omega)]
        have hm2 : FM SRE r (u2 (u2 r 758 6 (x * 256 + c 3 p.toNat)) 758 3 (p + 1)) := (FM.refl.u (by unfold SRE; omega)).u (by unfold SRE; omega)
        obtain ⟨x', c', r', s, g1, g2, g3, g4, g5⟩ := ih kc kr (x * 256 + c 3 p.toNat) (n + 1) (u2 c 2 2 (p + 1)) (u2 (u2 r 758 6 (x * 256 + c 3 p.toNat)) 758 3 (p + 1)) (p + 1) ⟨h1.fm hm1 hm2, u2_e, u2_e, by omega, by rw [u2_i (by omega), u2_i (by omega)]; omega, (u2_i (by omega)).trans h6, by rw [u2_i (by omega), u2_i (by omega)]; exact h7⟩ ((u2_i (by omega)).trans hc3) (by rw [u2_i (by omega), u2_i (by omega)]; exact hr5) q0 (by omega) (by rw [u2_i (by omega), u2_i (by omega)]; omega) (by omega) (by omega) (fun w => ⟨by rw [u2_i (by omega), u2_e], x, c 3 p.toNat, hpk, by omega, by omega, rfl⟩)
        rw [hw] at hcl
        refine ⟨x', c', r', s, hcl.trans g1, hrl.trans g2, hm1.trans g3, hm2.trans g4, ?_⟩
        rcases g5 with ⟨a1, a2, a3, a4, k, a5, a6, a7, a8⟩ | a
        · exact Or.inl ⟨a1, a2, a3, a4, k, a5, a6, a7, by omega⟩
        · exact Or.inr a
/-- a word, sound before -/
theorem T_word (h : TA c r p) : ∃ x c' r' s q, f_X9_readWord c = some (x, c') ∧ f_X12_word r = some r' ∧ FM SRD c c' ∧ FM SRE r r' ∧ p ≤ q ∧ ((TA c' r' s ∧ r' 758 6 = x ∧ c' 2 3 = q ∧ r' 758 5 = q ∧ p ≤ s ∧ ∃ k, 1 ≤ k ∧ k ≤ 7 ∧ PK k x) ∨ (TX c' r' q ∧ x = 0)) := by
  obtain ⟨q, c1, r1, g1, g2, g3, g4, g5, g6, g7, g8⟩ := T_go h
  have hm2 : FM SRE r1 (u2 (u2 r1 758 5 q) 758 6 0) := (FM.refl.u (by unfold SRE; omega)).u (by unfold SRE; omega)
  obtain ⟨h1, h2, h3, h4, h5, h6, h7⟩ := g5
  have hl := h1.2.2.1
  have hA : TA c1 (u2 (u2 r1 758 5 q) 758 6 0) q := ⟨h1.fm FM.refl hm2, h2, by rw [u2_i (by omega), u2_i (by omega)]; exact h3, h4, by rw [u2_i (by omega), u2_i (by omega)]; exact h5, h6, by rw [u2_i (by omega), u2_i (by omega)]; exact h7⟩
  obtain ⟨x', c', r', s, a1, a2, a3, a4, a5⟩ := T_lets (r1 758 2 - q).toNat 100000 100000 0 0 c1 (u2 (u2 r1 758 5 q) 758 6 0) q hA g6 (by rw [u2_i (by omega), u2_e]) h4 (by omega) (by rw [u2_i (by omega), u2_i (by omega)]; omega) (by omega) (by omega) (fun _ => ⟨u2_e, rfl⟩)
  refine ⟨x', c', r', s, q, ?_, ?_, g7.trans a3, (g8.trans hm2).trans a4, g3, ?_⟩
  · unfold f_X9_readWord
    rw [g1, Option.bind_some, a1]
  · unfold f_X12_word
    rw [h.2.2.2.2.2.2, if_pos rfl, g2, Option.bind_some]
    dsimp only
    rw [h3]
    exact a2
  · rcases a5 with ⟨b1, b2, b3, b4, k, b5, b6, b7, b8⟩ | b
    · exact Or.inl ⟨b1, b2, b3, b4, by omega, k, b5, b6, b7⟩
    · exact Or.inr b
end S_RD
