-- the two sides as pictures: what a chip, a state is for both; loops
theorem zid {x : Int} (h1 : -2147483648 ≤ x) (h2 : x < 2147483648) : z_w x = x := z_w_id ⟨h1, h2⟩
theorem zlid {x : Int} (h1 : -9223372036854775808 ≤ x) (h2 : x < 9223372036854775808) : z_l x = x := z_l_id ⟨h1, h2⟩
theorem u2_e {σ : Nat → Nat → Int} {a i : Nat} {v : Int} : u2 σ a i v a i = v := u2_s
theorem u2_c {σ : Nat → Nat → Int} {a i c j : Nat} {v : Int} (h : c ≠ a) : u2 σ a i v c j = σ c j := u2_n (Or.inl h)
theorem u2_i {σ : Nat → Nat → Int} {a i c j : Nat} {v : Int} (h : j ≠ i) : u2 σ a i v c j = σ c j := u2_n (Or.inr h)
theorem u2_if {σ : Nat → Nat → Int} {a i c j : Nat} {v : Int} : u2 σ a i v c j = if c = a ∧ j = i then v else σ c j := rfl
/-- a row with one number changed -/
def u1 (w : Nat → Int) (i : Nat) (v : Int) : Nat → Int := fun j => if j = i then v else w j
theorem u1_e {w : Nat → Int} {i : Nat} {v : Int} : u1 w i v i = v := if_pos rfl
theorem u1_i {w : Nat → Int} {i j : Nat} {v : Int} (h : j ≠ i) : u1 w i v j = w j := if_neg h
theorem u2_row {σ : Nat → Nat → Int} {a i : Nat} {v : Int} : u2 σ a i v a = u1 (σ a) i v := by
  funext j
  unfold u2 u1
  by_cases h : j = i
  · simp [h]
  · simp [h]
theorem tn_eq {x y : Int} (h : x = y) : x.toNat = y.toNat := by rw [h]
/-- a loop of n turns from v on -/
def iter {α : Type} (X : Int → α → α) : Nat → Int → α → α
  | 0, _, a => a
  | n + 1, v, a => iter X n (v + 1) (X v a)
theorem iter_loop {α β : Type} {F : Nat → Int → α → Option β} {X : Int → α → α} {hi : Int} {fin : α → Option β} (P : Int → α → Prop)
    (step : ∀ k v a, v < hi → P v a → F (k + 1) v a = F k (v + 1) (X v a) ∧ P (v + 1) (X v a))
    (stop : ∀ k a, P hi a → F (k + 1) hi a = fin a) :
    ∀ (n k : Nat) (v : Int) (a : α), v + n = hi → n < k → P v a → F k v a = fin (iter X n v a) ∧ P hi (iter X n v a) := by
  intro n
  induction n with
  | zero =>
    intro k v a hv hk hp
    have e : v = hi := by omega
    subst e
    obtain ⟨k, rfl⟩ : ∃ j, k = j + 1 := ⟨k - 1, by omega⟩
    exact ⟨stop k a hp, hp⟩
  | succ n ih =>
    intro k v a hv hk hp
    obtain ⟨k, rfl⟩ : ∃ j, k = j + 1 := ⟨k - 1, by omega⟩
    obtain ⟨h1, h2⟩ := step k v a (by omega) hp
    rw [h1]
    exact ih k (v + 1) (X v a) (by omega) (by omega) h2
/-- a loop by what holds at each turn -/
theorem hoare_loop {α β : Type} {F : Nat → Int → α → Option β} {hi : Int} (P : Int → α → Prop) (Q : β → Prop)
    (step : ∀ k v a, v < hi → P v a → ∃ a', F (k + 1) v a = F k (v + 1) a' ∧ P (v + 1) a')
    (stop : ∀ k a, P hi a → ∃ b, F (k + 1) hi a = some b ∧ Q b) :
    ∀ (n k : Nat) (v : Int) (a : α), v + n = hi → n < k → P v a → ∃ b, F k v a = some b ∧ Q b := by
  intro n
  induction n with
  | zero =>
    intro k v a hv hk hp
    have e : v = hi := by omega
    subst e
    obtain ⟨k, rfl⟩ : ∃ j, k = j + 1 := ⟨k - 1, by omega⟩
    exact stop k a hp
  | succ n ih =>
    intro k v a hv hk hp
    obtain ⟨k, rfl⟩ : ∃ j, k = j + 1 := ⟨k - 1, by omega⟩
    obtain ⟨a', h1, h2⟩ := step k v a (by omega) hp
    rw [h1]
    exact ih k (v + 1) a' (by omega) (by omega) h2
theorem iter_inv {α : Type} {X : Int → α → α} (P : Int → α → Prop) {hi : Int} (step : ∀ v a, v < hi → P v a → P (v + 1) (X v a)) :
    ∀ (n : Nat) (v : Int) (a : α), v + n = hi → P v a → P hi (iter X n v a) := by
  intro n
  induction n with
  | zero =>
    intro v a hv hp
    have e : v = hi := by omega
    subst e
    exact hp
  | succ n ih =>
    intro v a hv hp
    exact ih (v + 1) (X v a) (by omega) (step v a (by omega) hp)
theorem iter_congr {α : Type} {X Y : Int → α → α} {hi : Int} (h : ∀ v a, v < hi → X v a = Y v a) : ∀ (n : Nat) (v : Int) (a : α), v + n ≤ hi → iter X n v a = iter Y n v a := by
  intro n
  induction n with
  | zero => intro v a _; rfl
  | succ n ih =>
    intro v a hv
    show iter X n (v + 1) (X v a) = iter Y n (v + 1) (Y v a)
    rw [h v a (by omega), ih (v + 1) (Y v a) (by omega)]
theorem iter_add {α : Type} {X : Int → α → α} : ∀ (n m : Nat) (v : Int) (a : α), iter X (n + m) v a = iter X m (v + n) (iter X n v a) := by
  intro n
  induction n with
  | zero =>
    intro m v a
    show iter X (0 + m) v a = iter X m (v + (0 : Nat)) a
    rw [Nat.zero_add, show v + ((0 : Nat) : Int) = v from by omega]
  | succ n ih =>
    intro m v a
    rw [show n + 1 + m = (n + m) + 1 from by omega]
    show iter X (n + m) (v + 1) (X v a) = iter X m (v + ((n + 1 : Nat) : Int)) (iter X n (v + 1) (X v a))
    rw [ih m (v + 1) (X v a), show v + 1 + (n : Int) = v + ((n + 1 : Nat) : Int) from by omega]
theorem iter_id {α : Type} {X : Int → α → α} {hi : Int} (h : ∀ v a, v < hi → X v a = a) : ∀ (n : Nat) (v : Int) (a : α), v + n ≤ hi → iter X n v a = a := by
  intro n
  induction n with
  | zero => intro v a _; rfl
  | succ n ih =>
    intro v a hv
    show iter X n (v + 1) (X v a) = a
    rw [h v a (by omega), ih (v + 1) a (by omega)]
/-- of n turns those in lo .. lo + m alone do something -/
theorem iter_guard {α : Type} {X Y : Int → α → α} (lo : Int) (m n : Nat) (h0 : 0 ≤ lo) (hn : lo + (m : Int) ≤ (n : Int)) (hin : ∀ (v : Int) a, lo ≤ v → v < lo + m → Y v a = X v a) (hout : ∀ (v : Int) a, 0 ≤ v → v < (n : Int) → (v < lo ∨ lo + m ≤ v) → Y v a = a) (a : α) : iter Y n 0 a = iter X m lo a := by
  have e : n = lo.toNat + (m + (n - lo.toNat - m)) := by omega
  rw [e, iter_add, iter_add]
  have h1 : ∀ (k : Nat) (v : Int) (b : α), 0 ≤ v → v + k ≤ lo → iter Y k v b = b := by
    intro k
    induction k with
    | zero => intro v b _ _; rfl
    | succ k ih =>
      intro v b hv hk
      show iter Y k (v + 1) (Y v b) = b
      rw [hout v b hv (by omega) (by omega), ih (v + 1) b (by omega) (by omega)]
  have h2 : ∀ (k : Nat) (v : Int) (b : α), lo ≤ v → v + k ≤ lo + m → iter Y k v b = iter X k v b := by
    intro k
    induction k with
    | zero => intro v b _ _; rfl
    | succ k ih =>
      intro v b hv hk
      show iter Y k (v + 1) (Y v b) = iter X k (v + 1) (X v b)
      rw [hin v b hv (by omega), ih (v + 1) (X v b) (by omega) (by omega)]
  have h3 : ∀ (k : Nat) (v : Int) (b : α), lo + m ≤ v → v + k ≤ n → iter Y k v b = b := by
    intro k
    induction k with
    | zero => intro v b _ _; rfl
    | succ k ih =>
      intro v b hv hk
      show iter Y k (v + 1) (Y v b) = b
      rw [hout v b (by omega) (by omega) (by omega), ih (v + 1) b (by omega) (by omega)]
  rw [h1 lo.toNat 0 a (by omega) (by omega), h2 m (0 + (lo.toNat : Int)) a (by omega) (by omega), h3 _ _ _ (by omega) (by omega)]
  rw [show (0 : Int) + (lo.toNat : Int) = lo from by omega]
/-- the first core of a cluster -/
def m_first (K : Nat → Nat → Int) (c : Int) : Int := if c ≤ 0 then 0 else if c = 1 then K 1 0 else if c = 2 then K 1 0 + K 1 1 else K 1 0 + K 1 1 + K 1 2
/-- a chip as numbers. K 0: clusters, tasks, cores, top; of a cluster 1 cores, 2 idle, 3 wake, 4 points; 5 speed, 6 cost at 5 c + p; 7 the cluster of a core; 8 work, 9 period; 10 the rules; 11, 12 names -/
def WK (K : Nat → Nat → Int) : Prop :=
  (1 ≤ K 0 0 ∧ K 0 0 ≤ 3 ∧ 0 ≤ K 0 1 ∧ K 0 1 ≤ 4 ∧ 1 ≤ K 0 2 ∧ K 0 2 ≤ 6 ∧ 1 ≤ K 0 3 ∧ K 0 3 ≤ 99) ∧
  K 0 2 = m_first K (K 0 0) ∧
  (∀ c : Int, 0 ≤ c → c < K 0 0 → 1 ≤ K 1 c.toNat ∧ K 1 c.toNat ≤ 3 ∧ 0 ≤ K 2 c.toNat ∧ K 2 c.toNat ≤ 99 ∧ 0 ≤ K 3 c.toNat ∧ K 3 c.toNat ≤ 99 ∧ 1 ≤ K 4 c.toNat ∧ K 4 c.toNat ≤ 5) ∧
  (∀ c p : Int, 0 ≤ c → c < K 0 0 → 0 ≤ p → p < K 4 c.toNat → 1 ≤ K 5 (5 * c + p).toNat ∧ K 5 (5 * c + p).toNat ≤ K 0 3 ∧ 1 ≤ K 6 (5 * c + p).toNat ∧ K 6 (5 * c + p).toNat ≤ 99) ∧
  (∀ v : Int, 0 ≤ v → v < K 0 2 → 0 ≤ K 7 v.toNat ∧ K 7 v.toNat < K 0 0 ∧ m_first K (K 7 v.toNat) ≤ v ∧ v < m_first K (K 7 v.toNat) + K 1 (K 7 v.toNat).toNat) ∧
  (∀ t : Int, 0 ≤ t → t < K 0 1 → 1 ≤ K 8 t.toNat ∧ K 8 t.toNat ≤ 999 ∧ 1 ≤ K 9 t.toNat ∧ K 9 t.toNat ≤ 20) ∧
  (0 ≤ K 10 0 ∧ K 10 0 ≤ 100 ∧ 0 ≤ K 10 1 ∧ K 10 1 ≤ 20 ∧ 1 ≤ K 10 2 ∧ K 10 2 ≤ 20 ∧ 0 ≤ K 10 3 ∧ K 10 3 ≤ 9 ∧ 1 ≤ K 10 4 ∧ K 10 4 ≤ 9999 ∧ 2 ≤ K 10 5 ∧ K 10 5 ≤ 16)
theorem WK.n {K : Nat → Nat → Int} (h : WK K) : 1 ≤ K 0 0 ∧ K 0 0 ≤ 3 ∧ 0 ≤ K 0 1 ∧ K 0 1 ≤ 4 ∧ 1 ≤ K 0 2 ∧ K 0 2 ≤ 6 ∧ 1 ≤ K 0 3 ∧ K 0 3 ≤ 99 := h.1
theorem WK.cores {K : Nat → Nat → Int} (h : WK K) : K 0 2 = m_first K (K 0 0) := h.2.1
theorem WK.c {K : Nat → Nat → Int} (h : WK K) {c : Int} (h0 : 0 ≤ c) (h1 : c < K 0 0) : 1 ≤ K 1 c.toNat ∧ K 1 c.toNat ≤ 3 ∧ 0 ≤ K 2 c.toNat ∧ K 2 c.toNat ≤ 99 ∧ 0 ≤ K 3 c.toNat ∧ K 3 c.toNat ≤ 99 ∧ 1 ≤ K 4 c.toNat ∧ K 4 c.toNat ≤ 5 := h.2.2.1 c h0 h1
theorem WK.p {K : Nat → Nat → Int} (h : WK K) {c p : Int} (h0 : 0 ≤ c) (h1 : c < K 0 0) (h2 : 0 ≤ p) (h3 : p < K 4 c.toNat) : 1 ≤ K 5 (5 * c + p).toNat ∧ K 5 (5 * c + p).toNat ≤ K 0 3 ∧ 1 ≤ K 6 (5 * c + p).toNat ∧ K 6 (5 * c + p).toNat ≤ 99 := h.2.2.2.1 c p h0 h1 h2 h3
theorem WK.v {K : Nat → Nat → Int} (h : WK K) {v : Int} (h0 : 0 ≤ v) (h1 : v < K 0 2) : 0 ≤ K 7 v.toNat ∧ K 7 v.toNat < K 0 0 ∧ m_first K (K 7 v.toNat) ≤ v ∧ v < m_first K (K 7 v.toNat) + K 1 (K 7 v.toNat).toNat := h.2.2.2.2.1 v h0 h1
theorem WK.t {K : Nat → Nat → Int} (h : WK K) {t : Int} (h0 : 0 ≤ t) (h1 : t < K 0 1) : 1 ≤ K 8 t.toNat ∧ K 8 t.toNat ≤ 999 ∧ 1 ≤ K 9 t.toNat ∧ K 9 t.toNat ≤ 20 := h.2.2.2.2.2.1 t h0 h1
theorem WK.r {K : Nat → Nat → Int} (h : WK K) : 0 ≤ K 10 0 ∧ K 10 0 ≤ 100 ∧ 0 ≤ K 10 1 ∧ K 10 1 ≤ 20 ∧ 1 ≤ K 10 2 ∧ K 10 2 ≤ 20 ∧ 0 ≤ K 10 3 ∧ K 10 3 ≤ 9 ∧ 1 ≤ K 10 4 ∧ K 10 4 ≤ 9999 ∧ 2 ≤ K 10 5 ∧ K 10 5 ≤ 16 := h.2.2.2.2.2.2
theorem m_first_s {K : Nat → Nat → Int} {c : Int} (h0 : 0 ≤ c) (h1 : c < 3) : m_first K (c + 1) = m_first K c + K 1 c.toNat := by
  have : c = 0 ∨ c = 1 ∨ c = 2 := by omega
  rcases this with rfl | rfl | rfl <;> simp [m_first]
theorem WK.first {K : Nat → Nat → Int} (h : WK K) {c : Int} (h0 : 0 ≤ c) (h1 : c < K 0 0) : 0 ≤ m_first K c ∧ m_first K c + K 1 c.toNat ≤ K 0 2 ∧ m_first K c ≤ 6 := by
  have hn := h.n
  have hc := h.cores
  have c0 := h.c (c := 0) (by omega) (by omega)
  have e0 : ((0 : Int)).toNat = 0 := rfl
  have e1 : ((1 : Int)).toNat = 1 := rfl
  have e2 : ((2 : Int)).toNat = 2 := rfl
  rw [e0] at c0
  have k : K 0 0 = 1 ∨ K 0 0 = 2 ∨ K 0 0 = 3 := by omega
  rcases k with k | k | k
  · rw [k] at hc
    have : c = 0 := by omega
    subst this
    simp [m_first] at hc ⊢
    omega
  · have c1 := h.c (c := 1) (by omega) (by omega)
    rw [e1] at c1
    rw [k] at hc
    have : c = 0 ∨ c = 1 := by omega
    rcases this with rfl | rfl <;> simp [m_first] at hc ⊢ <;> omega
  · have c1 := h.c (c := 1) (by omega) (by omega)
    have c2 := h.c (c := 2) (by omega) (by omega)
    rw [e1] at c1
    rw [e2] at c2
    rw [k] at hc
    have : c = 0 ∨ c = 1 ∨ c = 2 := by omega
    rcases this with rfl | rfl | rfl <;> simp [m_first] at hc ⊢ <;> omega
theorem WK.of {K : Nat → Nat → Int} (h : WK K) {c v : Int} (h0 : 0 ≤ c) (h1 : c < K 0 0) (hv : 0 ≤ v) (hv2 : v < K 0 2) : K 7 v.toNat = c ↔ m_first K c ≤ v ∧ v < m_first K c + K 1 c.toNat := by
  obtain ⟨a1, a2, a3, a4⟩ := h.v hv hv2
  constructor
  · intro e
    rw [e] at a3 a4
    exact ⟨a3, a4⟩
  · intro ⟨b1, b2⟩
    have hn := h.n
    have e0 : ((0 : Int)).toNat = 0 := rfl
    have e1 : ((1 : Int)).toNat = 1 := rfl
    have c0 := h.c (c := 0) (by omega) (by omega)
    rw [e0] at c0
    have n1 : (1 : Int) < K 0 0 → 1 ≤ K 1 1 := fun q => by have := h.c (c := 1) (by omega) q; rw [e1] at this; omega
    generalize hq : K 7 v.toNat = q at a1 a2 a3 a4 ⊢
    have kq : q = 0 ∨ q = 1 ∨ q = 2 := by omega
    have kc : c = 0 ∨ c = 1 ∨ c = 2 := by omega
    rcases kq with rfl | rfl | rfl <;> rcases kc with rfl | rfl | rfl <;> simp [m_first] at a3 a4 b1 b2 ⊢ <;> omega
/-- bits: x has n of them, f says which -/
def BT (x n : Int) (f : Nat → Int) : Prop := 0 ≤ x ∧ x < 2 ^ n.toNat ∧ ∀ i : Int, 0 ≤ i → i < n → f i.toNat = x / 2 ^ i.toNat % 2
/-- a name of which both sides tell the same letters -/
def NB (x : Int) : Prop := ∀ i : Int, ∃ r, ∀ σ : Nat → Nat → Int, f_X11_letterOf x i σ = some r ∧ f_X12_letterOf x i σ = some r
def m_nm (w : Nat → Int) (k : Int) : Int := z_orL (z_shlL (w (45 + 5 * k).toNat) 32) (z_andL (w (46 + 5 * k).toNat) 4294967295)
/-- a state as a row of numbers, laid as the reference lays it -/
def WS (K : Nat → Nat → Int) (w : Nat → Int) : Prop :=
  (∀ c : Int, 0 ≤ c → c < K 0 0 → 0 ≤ w c.toNat ∧ w c.toNat < K 4 c.toNat ∧ 0 ≤ w (6 + c).toNat ∧ w (6 + c).toNat ≤ 9) ∧
  (∀ v : Int, 0 ≤ v → v < K 0 2 → w (9 + v).toNat = 0 ∨ w (9 + v).toNat = 1) ∧
  (∀ t : Int, 0 ≤ t → t < K 0 1 → 0 ≤ w (21 + t).toNat ∧ w (21 + t).toNat < K 0 2 ∧ 0 ≤ w (25 + t).toNat ∧ w (25 + t).toNat ≤ 999 ∧ 0 ≤ w (29 + t).toNat ∧ w (29 + t).toNat ≤ 1024 ∧ 0 ≤ w (33 + t).toNat ∧ w (33 + t).toNat ≤ 10000 ∧ (w (37 + t).toNat = 0 ∨ w (37 + t).toNat = 1)) ∧
  (∀ t : Int, K 0 1 ≤ t → t < 4 → w (33 + t).toNat = 0) ∧
  (0 ≤ w 41 ∧ w 41 ≤ 9999 ∧ 0 ≤ w 44 ∧ w 44 ≤ 6) ∧
  (∀ k : Int, 0 ≤ k → k < w 44 → 0 ≤ w (47 + 5 * k).toNat ∧ w (47 + 5 * k).toNat < K 0 0 ∧ 0 ≤ w (48 + 5 * k).toNat ∧ w (48 + 5 * k).toNat ≤ w (49 + 5 * k).toNat ∧ w (49 + 5 * k).toNat < K 4 (w (47 + 5 * k).toNat).toNat ∧ m_nm w k ≠ 0 ∧ NB (m_nm w k))
theorem WS.c {K : Nat → Nat → Int} {w : Nat → Int} (h : WS K w) {c : Int} (h0 : 0 ≤ c) (h1 : c < K 0 0) : 0 ≤ w c.toNat ∧ w c.toNat < K 4 c.toNat ∧ 0 ≤ w (6 + c).toNat ∧ w (6 + c).toNat ≤ 9 := h.1 c h0 h1
theorem WS.v {K : Nat → Nat → Int} {w : Nat → Int} (h : WS K w) {v : Int} (h0 : 0 ≤ v) (h1 : v < K 0 2) : w (9 + v).toNat = 0 ∨ w (9 + v).toNat = 1 := h.2.1 v h0 h1
theorem WS.t {K : Nat → Nat → Int} {w : Nat → Int} (h : WS K w) {t : Int} (h0 : 0 ≤ t) (h1 : t < K 0 1) : 0 ≤ w (21 + t).toNat ∧ w (21 + t).toNat < K 0 2 ∧ 0 ≤ w (25 + t).toNat ∧ w (25 + t).toNat ≤ 999 ∧ 0 ≤ w (29 + t).toNat ∧ w (29 + t).toNat ≤ 1024 ∧ 0 ≤ w (33 + t).toNat ∧ w (33 + t).toNat ≤ 10000 ∧ (w (37 + t).toNat = 0 ∨ w (37 + t).toNat = 1) := h.2.2.1 t h0 h1
theorem WS.late {K : Nat → Nat → Int} {w : Nat → Int} (h : WS K w) {t : Int} (h0 : K 0 1 ≤ t) (h1 : t < 4) : w (33 + t).toNat = 0 := h.2.2.2.1 t h0 h1
theorem WS.n {K : Nat → Nat → Int} {w : Nat → Int} (h : WS K w) : 0 ≤ w 41 ∧ w 41 ≤ 9999 ∧ 0 ≤ w 44 ∧ w 44 ≤ 6 := h.2.2.2.2.1
theorem WS.k {K : Nat → Nat → Int} {w : Nat → Int} (h : WS K w) {k : Int} (h0 : 0 ≤ k) (h1 : k < w 44) : 0 ≤ w (47 + 5 * k).toNat ∧ w (47 + 5 * k).toNat < K 0 0 ∧ 0 ≤ w (48 + 5 * k).toNat ∧ w (48 + 5 * k).toNat ≤ w (49 + 5 * k).toNat ∧ w (49 + 5 * k).toNat < K 4 (w (47 + 5 * k).toNat).toNat ∧ m_nm w k ≠ 0 ∧ NB (m_nm w k) := h.2.2.2.2.2 k h0 h1
/-- the class's chip at a -/
def RC (σ : Nat → Nat → Int) (a : Nat) (K : Nat → Nat → Int) : Prop :=
  (σ a 0 = K 0 0 ∧ σ a 1 = K 0 1 ∧ σ a 2 = K 0 2 ∧ σ a 3 = K 0 3) ∧
  (∀ c : Int, 0 ≤ c → c < K 0 0 → σ (a + 1) c.toNat = K 11 c.toNat ∧ σ (a + 2) c.toNat = K 1 c.toNat ∧ σ (a + 3) c.toNat = K 2 c.toNat ∧ σ (a + 4) c.toNat = K 3 c.toNat ∧ σ (a + 5) c.toNat = K 4 c.toNat) ∧
  (∀ c p : Int, 0 ≤ c → c < K 0 0 → 0 ≤ p → p < K 4 c.toNat → σ (a + 7 + c.toNat) p.toNat = K 5 (5 * c + p).toNat ∧ σ (a + 11 + c.toNat) p.toNat = K 6 (5 * c + p).toNat) ∧
  (∀ v : Int, 0 ≤ v → v < K 0 2 → σ (a + 14) v.toNat = K 7 v.toNat) ∧
  (∀ t : Int, 0 ≤ t → t < K 0 1 → σ (a + 15) t.toNat = K 12 t.toNat ∧ σ (a + 16) t.toNat = K 8 t.toNat ∧ σ (a + 17) t.toNat = K 9 t.toNat) ∧
  (∀ r, r < 6 → σ (a + 18) r = K 10 r)
section S_RC
variable {σ K : Nat → Nat → Int} {a : Nat}
theorem RC.n0 (h : RC σ a K) : σ a 0 = K 0 0 := h.1.1
theorem RC.n1 (h : RC σ a K) : σ a 1 = K 0 1 := h.1.2.1
theorem RC.n2 (h : RC σ a K) : σ a 2 = K 0 2 := h.1.2.2.1
theorem RC.n3 (h : RC σ a K) : σ a 3 = K 0 3 := h.1.2.2.2
theorem RC.c1 (h : RC σ a K) {c : Int} (h0 : 0 ≤ c) (h1 : c < K 0 0) : σ (a + 1) c.toNat = K 11 c.toNat := (h.2.1 c h0 h1).1
theorem RC.c2 (h : RC σ a K) {c : Int} (h0 : 0 ≤ c) (h1 : c < K 0 0) : σ (a + 2) c.toNat = K 1 c.toNat := (h.2.1 c h0 h1).2.1
theorem RC.c3 (h : RC σ a K) {c : Int} (h0 : 0 ≤ c) (h1 : c < K 0 0) : σ (a + 3) c.toNat = K 2 c.toNat := (h.2.1 c h0 h1).2.2.1
theorem RC.c4 (h : RC σ a K) {c : Int} (h0 : 0 ≤ c) (h1 : c < K 0 0) : σ (a + 4) c.toNat = K 3 c.toNat := (h.2.1 c h0 h1).2.2.2.1
theorem RC.c5 (h : RC σ a K) {c : Int} (h0 : 0 ≤ c) (h1 : c < K 0 0) : σ (a + 5) c.toNat = K 4 c.toNat := (h.2.1 c h0 h1).2.2.2.2
theorem RC.p7 (h : RC σ a K) {c p : Int} (h0 : 0 ≤ c) (h1 : c < K 0 0) (h2 : 0 ≤ p) (h3 : p < K 4 c.toNat) : σ (a + 7 + c.toNat) p.toNat = K 5 (5 * c + p).toNat := (h.2.2.1 c p h0 h1 h2 h3).1
theorem RC.p11 (h : RC σ a K) {c p : Int} (h0 : 0 ≤ c) (h1 : c < K 0 0) (h2 : 0 ≤ p) (h3 : p < K 4 c.toNat) : σ (a + 11 + c.toNat) p.toNat = K 6 (5 * c + p).toNat := (h.2.2.1 c p h0 h1 h2 h3).2
theorem RC.v14 (h : RC σ a K) {v : Int} (h0 : 0 ≤ v) (h1 : v < K 0 2) : σ (a + 14) v.toNat = K 7 v.toNat := h.2.2.2.1 v h0 h1
theorem RC.t15 (h : RC σ a K) {t : Int} (h0 : 0 ≤ t) (h1 : t < K 0 1) : σ (a + 15) t.toNat = K 12 t.toNat := (h.2.2.2.2.1 t h0 h1).1
theorem RC.t16 (h : RC σ a K) {t : Int} (h0 : 0 ≤ t) (h1 : t < K 0 1) : σ (a + 16) t.toNat = K 8 t.toNat := (h.2.2.2.2.1 t h0 h1).2.1
theorem RC.t17 (h : RC σ a K) {t : Int} (h0 : 0 ≤ t) (h1 : t < K 0 1) : σ (a + 17) t.toNat = K 9 t.toNat := (h.2.2.2.2.1 t h0 h1).2.2
theorem RC.r (h : RC σ a K) {r : Nat} (h1 : r < 6) : σ (a + 18) r = K 10 r := h.2.2.2.2.2 r h1
theorem RC.r0 (h : RC σ a K) : σ (a + 18) 0 = K 10 0 := h.r (by omega)
theorem RC.r1 (h : RC σ a K) : σ (a + 18) 1 = K 10 1 := h.r (by omega)
theorem RC.r2 (h : RC σ a K) : σ (a + 18) 2 = K 10 2 := h.r (by omega)
theorem RC.r3 (h : RC σ a K) : σ (a + 18) 3 = K 10 3 := h.r (by omega)
theorem RC.r4 (h : RC σ a K) : σ (a + 18) 4 = K 10 4 := h.r (by omega)
theorem RC.r5 (h : RC σ a K) : σ (a + 18) 5 = K 10 5 := h.r (by omega)
theorem RC.frame {σ' : Nat → Nat → Int} (h : RC σ a K) (hK : K 0 0 ≤ 3) (hf : ∀ c, a ≤ c → c < a + 19 → σ' c = σ c) : RC σ' a K := by
  refine ⟨?_, fun c h0 h1 => ?_, fun c p h0 h1 h2 h3 => ?_, fun v h0 h1 => ?_, fun t h0 h1 => ?_, fun r h1 => ?_⟩
  · rw [hf a (by omega) (by omega)]
    exact h.1
  · rw [hf (a + 1) (by omega) (by omega), hf (a + 2) (by omega) (by omega), hf (a + 3) (by omega) (by omega), hf (a + 4) (by omega) (by omega), hf (a + 5) (by omega) (by omega)]
    exact h.2.1 c h0 h1
  · rw [hf (a + 7 + c.toNat) (by omega) (by omega), hf (a + 11 + c.toNat) (by omega) (by omega)]
    exact h.2.2.1 c p h0 h1 h2 h3
  · rw [hf (a + 14) (by omega) (by omega)]
    exact h.2.2.2.1 v h0 h1
  · rw [hf (a + 15) (by omega) (by omega), hf (a + 16) (by omega) (by omega), hf (a + 17) (by omega) (by omega)]
    exact h.2.2.2.2.1 t h0 h1
  · rw [hf (a + 18) (by omega) (by omega)]
    exact h.r h1
end S_RC
/-- the reference's chip -/
def RM (σ : Nat → Nat → Int) (K : Nat → Nat → Int) : Prop :=
  (σ 758 21 = K 0 0 ∧ σ 758 23 = K 0 1 ∧ σ 758 25 = K 0 2 ∧ σ 758 26 = K 0 3) ∧
  (∀ c : Int, 0 ≤ c → c < 3 → σ 763 (4 * c).toNat = K 1 c.toNat ∧ σ 763 (4 * c + 1).toNat = K 2 c.toNat ∧ σ 763 (4 * c + 2).toNat = K 3 c.toNat ∧ σ 763 (4 * c + 3).toNat = K 4 c.toNat) ∧
  (∀ c p : Int, 0 ≤ c → c < 3 → 0 ≤ p → p < 5 → σ 765 (2 * (5 * c + p)).toNat = K 5 (5 * c + p).toNat ∧ σ 765 (2 * (5 * c + p) + 1).toNat = K 6 (5 * c + p).toNat) ∧
  (∀ t : Int, 0 ≤ t → t < 4 → σ 767 (2 * t).toNat = K 8 t.toNat ∧ σ 767 (2 * t + 1).toNat = K 9 t.toNat) ∧
  (∀ r, r < 6 → σ 761 r = K 10 r) ∧
  (∀ c : Int, 0 ≤ c → c < 3 → σ 770 c.toNat = K 11 c.toNat) ∧
  (∀ t : Int, 0 ≤ t → t < 4 → σ 772 t.toNat = K 12 t.toNat)
section S_RM
variable {σ K : Nat → Nat → Int}
theorem RM.n0 (h : RM σ K) : σ 758 21 = K 0 0 := h.1.1
theorem RM.n1 (h : RM σ K) : σ 758 23 = K 0 1 := h.1.2.1
theorem RM.n2 (h : RM σ K) : σ 758 25 = K 0 2 := h.1.2.2.1
theorem RM.n3 (h : RM σ K) : σ 758 26 = K 0 3 := h.1.2.2.2
theorem RM.c0 (h : RM σ K) {c : Int} (h0 : 0 ≤ c) (h1 : c < 3) : σ 763 (4 * c).toNat = K 1 c.toNat := (h.2.1 c h0 h1).1
theorem RM.c1 (h : RM σ K) {c : Int} (h0 : 0 ≤ c) (h1 : c < 3) : σ 763 (4 * c + 1).toNat = K 2 c.toNat := (h.2.1 c h0 h1).2.1
theorem RM.c2 (h : RM σ K) {c : Int} (h0 : 0 ≤ c) (h1 : c < 3) : σ 763 (4 * c + 2).toNat = K 3 c.toNat := (h.2.1 c h0 h1).2.2.1
theorem RM.c3 (h : RM σ K) {c : Int} (h0 : 0 ≤ c) (h1 : c < 3) : σ 763 (4 * c + 3).toNat = K 4 c.toNat := (h.2.1 c h0 h1).2.2.2
theorem RM.p0 (h : RM σ K) {c p : Int} (h0 : 0 ≤ c) (h1 : c < 3) (h2 : 0 ≤ p) (h3 : p < 5) : σ 765 (2 * (5 * c + p)).toNat = K 5 (5 * c + p).toNat := (h.2.2.1 c p h0 h1 h2 h3).1
theorem RM.p1 (h : RM σ K) {c p : Int} (h0 : 0 ≤ c) (h1 : c < 3) (h2 : 0 ≤ p) (h3 : p < 5) : σ 765 (2 * (5 * c + p) + 1).toNat = K 6 (5 * c + p).toNat := (h.2.2.1 c p h0 h1 h2 h3).2
theorem RM.t0 (h : RM σ K) {t : Int} (h0 : 0 ≤ t) (h1 : t < 4) : σ 767 (2 * t).toNat = K 8 t.toNat := (h.2.2.2.1 t h0 h1).1
theorem RM.t1 (h : RM σ K) {t : Int} (h0 : 0 ≤ t) (h1 : t < 4) : σ 767 (2 * t + 1).toNat = K 9 t.toNat := (h.2.2.2.1 t h0 h1).2
theorem RM.r (h : RM σ K) {r : Nat} (h1 : r < 6) : σ 761 r = K 10 r := h.2.2.2.2.1 r h1
theorem RM.r0 (h : RM σ K) : σ 761 0 = K 10 0 := h.r (by omega)
theorem RM.r1 (h : RM σ K) : σ 761 1 = K 10 1 := h.r (by omega)
theorem RM.r2 (h : RM σ K) : σ 761 2 = K 10 2 := h.r (by omega)
theorem RM.r3 (h : RM σ K) : σ 761 3 = K 10 3 := h.r (by omega)
theorem RM.r4 (h : RM σ K) : σ 761 4 = K 10 4 := h.r (by omega)
theorem RM.r5 (h : RM σ K) : σ 761 5 = K 10 5 := h.r (by omega)
theorem RM.x11 (h : RM σ K) {c : Int} (h0 : 0 ≤ c) (h1 : c < 3) : σ 770 c.toNat = K 11 c.toNat := h.2.2.2.2.2.1 c h0 h1
theorem RM.x12 (h : RM σ K) {t : Int} (h0 : 0 ≤ t) (h1 : t < 4) : σ 772 t.toNat = K 12 t.toNat := h.2.2.2.2.2.2 t h0 h1
theorem RM.frame {σ' : Nat → Nat → Int} (h : RM σ K) (hf : ∀ c, c = 761 ∨ c = 763 ∨ c = 765 ∨ c = 767 ∨ c = 770 ∨ c = 772 → σ' c = σ c) (h2 : ∀ j, j = 21 ∨ j = 23 ∨ j = 25 ∨ j = 26 → σ' 758 j = σ 758 j) : RM σ' K := by
  unfold RM
  rw [h2 21 (by omega), h2 23 (by omega), h2 25 (by omega), h2 26 (by omega), hf 761 (by omega), hf 763 (by omega), hf 765 (by omega), hf 767 (by omega), hf 770 (by omega), hf 772 (by omega)]
  exact h
end S_RM
/-- the class's state at a is the row w; tr, th: one more asks for the cluster tr by th (tr -1: nobody) -/
def RS (σ : Nat → Nat → Int) (a : Nat) (K : Nat → Nat → Int) (w : Nat → Int) (tr th : Int) : Prop :=
  (σ a 0 = w 41 ∧ σ a 1 = w 42 ∧ σ a 2 = w 43 ∧ σ a 4 = w 44 + (if tr = -1 then 0 else 1) ∧ σ a 3 = K 20 0) ∧
  BT (σ a 5) (K 0 1) (fun t => w (37 + t)) ∧ BT (σ a 6) (K 0 2) (fun v => w (9 + v)) ∧
  (∀ t : Int, 0 ≤ t → t < K 0 1 → σ (a + 1) t.toNat = w (21 + t).toNat ∧ σ (a + 2) t.toNat = w (25 + t).toNat ∧ σ (a + 3) t.toNat = w (29 + t).toNat ∧ σ (a + 4) t.toNat = w (33 + t).toNat) ∧
  (∀ c : Int, 0 ≤ c → c < K 0 0 → σ (a + 5) c.toNat = w c.toNat ∧ σ (a + 6) c.toNat = w (3 + c).toNat ∧ σ (a + 7) c.toNat = w (6 + c).toNat) ∧
  (∀ v : Int, 0 ≤ v → v < K 0 2 → σ (a + 8) v.toNat = w (15 + v).toNat) ∧
  (∀ k : Int, 0 ≤ k → k < w 44 → σ (a + 9) k.toNat = m_nm w k ∧ σ (a + 10) k.toNat = w (47 + 5 * k).toNat ∧ σ (a + 11) k.toNat = w (48 + 5 * k).toNat ∧ σ (a + 12) k.toNat = w (49 + 5 * k).toNat) ∧
  (tr ≠ -1 → σ (a + 9) (w 44).toNat = 0 ∧ σ (a + 10) (w 44).toNat = tr ∧ σ (a + 11) (w 44).toNat = 0 ∧ σ (a + 12) (w 44).toNat = th)
section S_RS
variable {σ K : Nat → Nat → Int} {a : Nat} {w : Nat → Int} {tr th : Int}
theorem RS.n0 (h : RS σ a K w tr th) : σ a 0 = w 41 := h.1.1
theorem RS.n1 (h : RS σ a K w tr th) : σ a 1 = w 42 := h.1.2.1
theorem RS.n2 (h : RS σ a K w tr th) : σ a 2 = w 43 := h.1.2.2.1
theorem RS.n4 (h : RS σ a K w tr th) : σ a 4 = w 44 + (if tr = -1 then 0 else 1) := h.1.2.2.2.1
theorem RS.n3 (h : RS σ a K w tr th) : σ a 3 = K 20 0 := h.1.2.2.2.2
theorem RS.b5 (h : RS σ a K w tr th) : BT (σ a 5) (K 0 1) (fun t => w (37 + t)) := h.2.1
theorem RS.b6 (h : RS σ a K w tr th) : BT (σ a 6) (K 0 2) (fun v => w (9 + v)) := h.2.2.1
theorem RS.t1 (h : RS σ a K w tr th) {t : Int} (h0 : 0 ≤ t) (h1 : t < K 0 1) : σ (a + 1) t.toNat = w (21 + t).toNat := (h.2.2.2.1 t h0 h1).1
theorem RS.t2 (h : RS σ a K w tr th) {t : Int} (h0 : 0 ≤ t) (h1 : t < K 0 1) : σ (a + 2) t.toNat = w (25 + t).toNat := (h.2.2.2.1 t h0 h1).2.1
theorem RS.t3 (h : RS σ a K w tr th) {t : Int} (h0 : 0 ≤ t) (h1 : t < K 0 1) : σ (a + 3) t.toNat = w (29 + t).toNat := (h.2.2.2.1 t h0 h1).2.2.1
theorem RS.t4 (h : RS σ a K w tr th) {t : Int} (h0 : 0 ≤ t) (h1 : t < K 0 1) : σ (a + 4) t.toNat = w (33 + t).toNat := (h.2.2.2.1 t h0 h1).2.2.2
theorem RS.c5 (h : RS σ a K w tr th) {c : Int} (h0 : 0 ≤ c) (h1 : c < K 0 0) : σ (a + 5) c.toNat = w c.toNat := (h.2.2.2.2.1 c h0 h1).1
theorem RS.c6 (h : RS σ a K w tr th) {c : Int} (h0 : 0 ≤ c) (h1 : c < K 0 0) : σ (a + 6) c.toNat = w (3 + c).toNat := (h.2.2.2.2.1 c h0 h1).2.1
theorem RS.c7 (h : RS σ a K w tr th) {c : Int} (h0 : 0 ≤ c) (h1 : c < K 0 0) : σ (a + 7) c.toNat = w (6 + c).toNat := (h.2.2.2.2.1 c h0 h1).2.2
theorem RS.v8 (h : RS σ a K w tr th) {v : Int} (h0 : 0 ≤ v) (h1 : v < K 0 2) : σ (a + 8) v.toNat = w (15 + v).toNat := h.2.2.2.2.2.1 v h0 h1
theorem RS.k9 (h : RS σ a K w tr th) {k : Int} (h0 : 0 ≤ k) (h1 : k < w 44) : σ (a + 9) k.toNat = m_nm w k := (h.2.2.2.2.2.2.1 k h0 h1).1
theorem RS.k10 (h : RS σ a K w tr th) {k : Int} (h0 : 0 ≤ k) (h1 : k < w 44) : σ (a + 10) k.toNat = w (47 + 5 * k).toNat := (h.2.2.2.2.2.2.1 k h0 h1).2.1
theorem RS.k11 (h : RS σ a K w tr th) {k : Int} (h0 : 0 ≤ k) (h1 : k < w 44) : σ (a + 11) k.toNat = w (48 + 5 * k).toNat := (h.2.2.2.2.2.2.1 k h0 h1).2.2.1
theorem RS.k12 (h : RS σ a K w tr th) {k : Int} (h0 : 0 ≤ k) (h1 : k < w 44) : σ (a + 12) k.toNat = w (49 + 5 * k).toNat := (h.2.2.2.2.2.2.1 k h0 h1).2.2.2
theorem RS.x (h : RS σ a K w tr th) (h0 : tr ≠ -1) : σ (a + 9) (w 44).toNat = 0 ∧ σ (a + 10) (w 44).toNat = tr ∧ σ (a + 11) (w 44).toNat = 0 ∧ σ (a + 12) (w 44).toNat = th := h.2.2.2.2.2.2.2 h0
theorem RS.frame {σ' : Nat → Nat → Int} (h : RS σ a K w tr th) (hf : ∀ c, a ≤ c → c < a + 13 → σ' c = σ c) : RS σ' a K w tr th := by
  unfold RS
  rw [hf a (by omega) (by omega), hf (a + 1) (by omega) (by omega), hf (a + 2) (by omega) (by omega), hf (a + 3) (by omega) (by omega), hf (a + 4) (by omega) (by omega), hf (a + 5) (by omega) (by omega), hf (a + 6) (by omega) (by omega), hf (a + 7) (by omega) (by omega), hf (a + 8) (by omega) (by omega), hf (a + 9) (by omega) (by omega), hf (a + 10) (by omega) (by omega), hf (a + 11) (by omega) (by omega), hf (a + 12) (by omega) (by omega)]
  exact h
end S_RS
/-- bits of small numbers, by looking -/
theorem z_bit_all : ∀ x : Fin 64, ∀ i : Fin 6, z_and (z_ushr (x.val : Int) (i.val : Int)) 1 = (x.val : Int) / 2 ^ i.val % 2 := by decide +kernel
theorem z_set_all : ∀ x : Fin 64, ∀ i : Fin 6, z_or (x.val : Int) (z_shl 1 (i.val : Int)) = (x.val : Int) + (1 - (x.val : Int) / 2 ^ i.val % 2) * 2 ^ i.val := by decide +kernel
theorem z_clr_all : ∀ x : Fin 64, ∀ i : Fin 6, z_and (x.val : Int) (z_xor (z_shl 1 (i.val : Int)) (-1)) = (x.val : Int) - ((x.val : Int) / 2 ^ i.val % 2) * 2 ^ i.val := by decide +kernel
theorem b_set_all : ∀ x : Fin 64, ∀ i : Fin 6, ∀ j : Fin 6, ((x.val : Int) + (1 - (x.val : Int) / 2 ^ i.val % 2) * 2 ^ i.val) / 2 ^ j.val % 2 = if j = i then 1 else (x.val : Int) / 2 ^ j.val % 2 := by decide +kernel
theorem b_clr_all : ∀ x : Fin 64, ∀ i : Fin 6, ∀ j : Fin 6, ((x.val : Int) - ((x.val : Int) / 2 ^ i.val % 2) * 2 ^ i.val) / 2 ^ j.val % 2 = if j = i then 0 else (x.val : Int) / 2 ^ j.val % 2 := by decide +kernel
theorem b_lt_all : ∀ n : Fin 7, ∀ x : Fin 64, ∀ i : Fin 6, i.val < n.val → (x.val : Int) < 2 ^ n.val → (x.val : Int) + (1 - (x.val : Int) / 2 ^ i.val % 2) * 2 ^ i.val < 2 ^ n.val := by decide +kernel
theorem b_ge_all : ∀ x : Fin 64, ∀ i : Fin 6, 0 ≤ (x.val : Int) - ((x.val : Int) / 2 ^ i.val % 2) * 2 ^ i.val ∧ (x.val : Int) - ((x.val : Int) / 2 ^ i.val % 2) * 2 ^ i.val ≤ x.val ∧ (x.val : Int) ≤ (x.val : Int) + (1 - (x.val : Int) / 2 ^ i.val % 2) * 2 ^ i.val := by decide +kernel
theorem BT.lt64 {x n : Int} {f : Nat → Int} (h : BT x n f) (hn : n ≤ 6) : 0 ≤ x ∧ x < 64 := by
  refine ⟨h.1, ?_⟩
  have h2 := h.2.1
  have : n.toNat = 0 ∨ n.toNat = 1 ∨ n.toNat = 2 ∨ n.toNat = 3 ∨ n.toNat = 4 ∨ n.toNat = 5 ∨ n.toNat = 6 := by omega
  rcases this with q | q | q | q | q | q | q <;> rw [q] at h2 <;> simp at h2 <;> omega
theorem BT.bit {x n : Int} {f : Nat → Int} (h : BT x n f) (hn : n ≤ 6) {i : Int} (h0 : 0 ≤ i) (h1 : i < n) : z_and (z_ushr x i) 1 = f i.toNat := by
  have hx := h.lt64 hn
  have := z_bit_all ⟨x.toNat, by omega⟩ ⟨i.toNat, by omega⟩
  simp only [Int.toNat_of_nonneg hx.1, Int.toNat_of_nonneg h0] at this
  rw [this, h.2.2 i h0 h1]
theorem BT.set {x n : Int} {f g : Nat → Int} (h : BT x n f) (hn : n ≤ 6) {i : Int} (h0 : 0 ≤ i) (h1 : i < n) (hg : ∀ j : Nat, g j = if j = i.toNat then 1 else f j) : BT (z_or x (z_shl 1 i)) n g := by
  have hx := h.lt64 hn
  have e := z_set_all ⟨x.toNat, by omega⟩ ⟨i.toNat, by omega⟩
  have e2 := b_lt_all ⟨n.toNat, by omega⟩ ⟨x.toNat, by omega⟩ ⟨i.toNat, by omega⟩ (by show i.toNat < n.toNat; omega)
  have e3 := b_ge_all ⟨x.toNat, by omega⟩ ⟨i.toNat, by omega⟩
  simp only [Int.toNat_of_nonneg hx.1, Int.toNat_of_nonneg h0] at e e2 e3
  rw [e]
  refine ⟨by omega, e2 h.2.1, fun j j0 j1 => ?_⟩
  have e4 := b_set_all ⟨x.toNat, by omega⟩ ⟨i.toNat, by omega⟩ ⟨j.toNat, by omega⟩
  simp only [Int.toNat_of_nonneg hx.1, Fin.mk.injEq] at e4
  rw [e4, hg]
  by_cases q : j.toNat = i.toNat
  · rw [if_pos q, if_pos q]
  · rw [if_neg q, if_neg q, h.2.2 j j0 j1]
theorem BT.clr {x n : Int} {f g : Nat → Int} (h : BT x n f) (hn : n ≤ 6) {i : Int} (h0 : 0 ≤ i) (h1 : i < n) (hg : ∀ j : Nat, g j = if j = i.toNat then 0 else f j) : BT (z_and x (z_xor (z_shl 1 i) (-1))) n g := by
  have hx := h.lt64 hn
  have e := z_clr_all ⟨x.toNat, by omega⟩ ⟨i.toNat, by omega⟩
  have e3 := b_ge_all ⟨x.toNat, by omega⟩ ⟨i.toNat, by omega⟩
  simp only [Int.toNat_of_nonneg hx.1, Int.toNat_of_nonneg h0] at e e3
  rw [e]
  refine ⟨by omega, by have := h.2.1; omega, fun j j0 j1 => ?_⟩
  have e4 := b_clr_all ⟨x.toNat, by omega⟩ ⟨i.toNat, by omega⟩ ⟨j.toNat, by omega⟩
  simp only [Int.toNat_of_nonneg hx.1, Fin.mk.injEq] at e4
  rw [e4, hg]
  by_cases q : j.toNat = i.toNat
  · rw [if_pos q, if_pos q]
  · rw [if_neg q, if_neg q, h.2.2 j j0 j1]
theorem BT.congr {x n : Int} {f g : Nat → Int} (h : BT x n f) (hg : ∀ i : Int, 0 ≤ i → i < n → g i.toNat = f i.toNat) : BT x n g := ⟨h.1, h.2.1, fun i h0 h1 => by rw [hg i h0 h1]; exact h.2.2 i h0 h1⟩
