-- a tick as numbers
theorem sim_loop {α β γ : Type} {F : Nat → Int → α → Option β} {X : Int → γ → γ} {hi : Int} (R : Int → α → γ → Prop) (Q : γ → Option β → Prop)
    (step : ∀ k v a g, v < hi → R v a g → ∃ a', F (k + 1) v a = F k (v + 1) a' ∧ R (v + 1) a' (X v g))
    (stop : ∀ k a g, R hi a g → Q g (F (k + 1) hi a)) :
    ∀ (n k : Nat) (v : Int) (a : α) (g : γ), v + n = hi → n < k → R v a g → Q (iter X n v g) (F k v a) := by
  intro n
  induction n with
  | zero =>
    intro k v a g hv hk hp
    have e : v = hi := by omega
    subst e
    obtain ⟨k, rfl⟩ : ∃ j, k = j + 1 := ⟨k - 1, by omega⟩
    exact stop k a g hp
  | succ n ih =>
    intro k v a g hv hk hp
    obtain ⟨k, rfl⟩ : ∃ j, k = j + 1 := ⟨k - 1, by omega⟩
    obtain ⟨a', h1, h2⟩ := step k v a g (by omega) hp
    rw [h1]
    exact ih k (v + 1) a' (X v g) (by omega) (by omega) h2
/-- outside S nothing changed -/
def FR (S : Nat → Prop) (σ σ' : Nat → Nat → Int) : Prop := ∀ c, ¬ S c → σ' c = σ c
theorem FR.refl {S : Nat → Prop} {σ : Nat → Nat → Int} : FR S σ σ := fun _ _ => rfl
theorem FR.trans {S : Nat → Prop} {σ σ' σ'' : Nat → Nat → Int} (h1 : FR S σ σ') (h2 : FR S σ' σ'') : FR S σ σ'' := fun c hc => (h2 c hc).trans (h1 c hc)
theorem FR.u {S : Nat → Prop} {σ σ' : Nat → Nat → Int} {c i : Nat} {v : Int} (h : FR S σ σ') (hc : S c) : FR S σ (u2 σ' c i v) := fun d hd => by
  rw [u2_ne (fun e => hd (by rw [e]; exact hc))]
  exact h d hd
theorem FR.mono {S T : Nat → Prop} {σ σ' : Nat → Nat → Int} (h : FR S σ σ') (hs : ∀ c, S c → T c) : FR T σ σ' := fun c hc => h c (fun q => hc (hs c q))
/-- late is no more than time -/
def WL (K : Nat → Nat → Int) (w : Nat → Int) : Prop := ∀ t : Int, 0 ≤ t → t < K 0 1 → w (33 + t).toNat ≤ w 41
def m_left (K : Nat → Nat → Int) (w : Nat → Int) (t : Int) : Int := K 9 t.toNat - Int.tmod (w 41) (K 9 t.toNat)
def m_relS (K : Nat → Nat → Int) (t : Int) (w : Nat → Int) : Nat → Int :=
  if w (37 + t).toNat = 1 ∨ m_left K w t ≠ K 9 t.toNat then w else u1 (if 0 < w (25 + t).toNat then u1 w (33 + t).toNat (w (33 + t).toNat + 1) else w) (25 + t).toNat (K 8 t.toNat)
def m_rel (K : Nat → Nat → Int) (w : Nat → Int) : Nat → Int := iter (m_relS K) (K 0 1).toNat 0 w
/-- whether a task on the core v has rest -/
def m_hrL (w : Nat → Int) (v : Int) : Nat → Int → Int
  | 0, _ => 0
  | n + 1, t => if w (21 + t).toNat = v ∧ 0 < w (25 + t).toNat then 1 else m_hrL w v n (t + 1)
def m_hr (K : Nat → Nat → Int) (w : Nat → Int) (v : Int) : Int := m_hrL w v (K 0 1).toNat 0
def m_wk (K : Nat → Nat → Int) (v : Int) (s : Int × (Nat → Int)) : Int × (Nat → Int) :=
  if s.2 (9 + v).toNat = 0 then s else (s.1 + K 3 (K 7 v.toNat).toNat, u1 (u1 s.2 (9 + v).toNat 0) (6 + K 7 v.toNat).toNat (K 10 3))
def m_wake (K : Nat → Nat → Int) (w : Nat → Int) : Int × (Nat → Int) := iter (fun v s => if m_hr K w v = 1 then m_wk K v s else s) (K 0 2).toNat 0 (0, w)
def m_ch1 (K : Nat → Nat → Int) (c q : Int) (w : Nat → Int) : Nat → Int :=
  if w c.toNat < q then u1 (u1 w c.toNat q) (3 + c).toNat 0 else if q < w c.toNat ∧ K 10 1 ≤ w (3 + c).toNat then u1 (u1 w c.toNat (w c.toNat - 1)) (3 + c).toNat 0 else u1 w (3 + c).toNat (z_w (w (3 + c).toNat + 1))
def m_ch2 (K : Nat → Nat → Int) (tr th c : Int) (w : Nat → Int) : Nat → Int := u1 w c.toNat (m_bounded K w tr th c (w c.toNat))
def m_ch3 (K : Nat → Nat → Int) (c : Int) (w : Nat → Int) : Nat → Int := if K 10 4 < w 42 ∧ 0 < w c.toNat then u1 w c.toNat (w c.toNat - 1) else w
def m_ch4 (c : Int) (w : Nat → Int) : Nat → Int := if 0 < w (6 + c).toNat then u1 w (6 + c).toNat (w (6 + c).toNat - 1) else w
def m_choose (K : Nat → Nat → Int) (tr th c : Int) (w : Nat → Int) : Nat → Int := m_ch4 c (m_ch3 K c (m_ch2 K tr th c (m_ch1 K c (m_want K w c) w)))
/-- of those on a core with rest the one whose period ends first: it, what it has left -/
def m_nextS (K : Nat → Nat → Int) (w : Nat → Int) (v t : Int) (s : Int × Int) : Int × Int :=
  if w (21 + t).toNat = v ∧ w (25 + t).toNat ≠ 0 then (if s.1 = -1 then (t, m_left K w t) else if m_left K w t < s.2 then (t, m_left K w t) else s) else s
def m_next (K : Nat → Nat → Int) (w : Nat → Int) (v : Int) : Int := (iter (m_nextS K w v) (K 0 1).toNat 0 (-1, 0)).1
/-- n turns of a core's work: the row, what was done, what is left -/
def m_workL (K : Nat → Nat → Int) (v : Int) : Nat → (Nat → Int) → (Nat → Int) → Int → (Nat → Int) × (Nat → Int) × Int
  | 0, w, d, left => (w, d, left)
  | n + 1, w, d, left => if left ≤ 0 ∨ m_next K w v = -1 then (w, d, left) else
    m_workL K v n (u1 w (25 + m_next K w v).toNat (w (25 + m_next K w v).toNat - min left (w (25 + m_next K w v).toNat))) (u1 d (m_next K w v).toNat (d (m_next K w v).toNat + min left (w (25 + m_next K w v).toNat))) (left - min left (w (25 + m_next K w v).toNat))
def m_spd (K : Nat → Nat → Int) (w : Nat → Int) (c : Int) : Int := K 5 (5 * c + w c.toNat).toNat
def m_cst (K : Nat → Nat → Int) (w : Nat → Int) (c : Int) : Int := K 6 (5 * c + w c.toNat).toNat
def m_idle1 (K : Nat → Nat → Int) (v units : Int) (w : Nat → Int) : Nat → Int :=
  if units ≤ 0 then (if K 10 2 ≤ z_w (w (15 + v).toNat + 1) then u1 (u1 w (15 + v).toNat (z_w (w (15 + v).toNat + 1))) (9 + v).toNat 1 else u1 w (15 + v).toNat (z_w (w (15 + v).toNat + 1))) else u1 w (15 + v).toNat 0
/-- a core works: what that uses, the row, what was done -/
def m_work (K : Nat → Nat → Int) (v : Int) (s : Int × (Nat → Int) × (Nat → Int)) : Int × (Nat → Int) × (Nat → Int) :=
  let c := K 7 v.toNat
  let r := m_workL K v (K 0 1).toNat s.2.1 s.2.2 (m_spd K s.2.1 c)
  let units := m_spd K s.2.1 c - r.2.2
  (s.1 + (units * m_cst K s.2.1 c + (if s.2.1 (9 + v).toNat = 0 then K 2 c.toNat else 0)), m_idle1 K v units r.1, r.2.1)
def m_fadeS (K : Nat → Nat → Int) (d : Nat → Int) (t : Int) (w : Nat → Int) : Nat → Int := u1 w (29 + t).toNat (Int.tdiv (7 * w (29 + t).toNat + Int.tdiv (d t.toNat * 1024) (K 0 3)) 8)
def m_heat (K : Nat → Nat → Int) (used : Int) (w : Nat → Int) : Nat → Int :=
  u1 (u1 (u1 w 42 (z_w (w 42 + z_w (used - z_w (Int.tdiv (w 42) (K 10 5)))))) 43 (z_w (w 43 + used))) 41 (w 41 + 1)
def m_zero (K : Nat → Nat → Int) (d : Nat → Int) : Nat → Int := iter (fun t d => u1 d t.toNat 0) (K 0 1).toNat 0 d
def m_tick (K : Nat → Nat → Int) (tr th : Int) (w : Nat → Int) : Int × (Nat → Int) :=
  let s1 := m_wake K (m_rel K w)
  let w2 := iter (fun c w => m_choose K tr th c w) (K 0 0).toNat 0 s1.2
  let s3 := iter (m_work K) (K 0 2).toNat 0 (s1.1, w2, fun _ => 0)
  (s3.1, m_heat K s3.1 (iter (m_fadeS K s3.2.2) (K 0 1).toNat 0 s3.2.1))
