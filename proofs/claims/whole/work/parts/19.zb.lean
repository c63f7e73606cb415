def tg_X6 (r : Nat) : Nat → List Nat
  | 0 => []
  | i + 1 => tg_X6 r i ++ [r + 1 + 2 * i]
theorem tg_X6_len (r : Nat) : ∀ i, (tg_X6 r i).length = i
  | 0 => rfl
  | i + 1 => by rw [tg_X6, List.length_append, tg_X6_len r i]; rfl
def it_X6 (a n : Nat) (sh : Nat → ax_S) : Nat → Nat → ax_S
  | 0 => shU (shU sh n (.inr (6, 12, []))) a (.inl (6, ([(4, 0), (0, 0)] : List (Nat × Nat)).set 0 (2, n)))
  | i + 1 => shU (mk_X8 (n + 1 + 2 * i) (n + 1 + 2 * i + 1) (shU (it_X6 a n sh i) (n + 1 + 2 * i) (.inl (8, [(4, 0), (0, 0), (1, 0)])))) n (.inr (6, 12, tg_X6 n i ++ [n + 1 + 2 * i]))
theorem it_X6_row (a n : Nat) (sh : Nat → ax_S) (ha : a < n) : ∀ i, it_X6 a n sh i n = .inr (6, 12, tg_X6 n i)
  | 0 => by rw [it_X6, shU_n (by omega), shU_s]; rfl
  | i + 1 => by rw [it_X6, shU_s]; rfl
theorem it_X6_self (a n : Nat) (sh : Nat → ax_S) (ha : a < n) : ∀ i, it_X6 a n sh i a = .inl (6, [(2, n), (0, 0)])
  | 0 => by rw [it_X6, shU_s]; rfl
  | i + 1 => by rw [it_X6, shU_n (by omega), mk_X8_oth _ _ _ _ (by omega) (by omega), shU_n (by omega)]; exact it_X6_self a n sh ha i
theorem it_X6_oth (a n : Nat) (sh : Nat → ax_S) (ha : a < n) (k : Nat) (h1 : k ≠ a) : ∀ i, k < n ∨ n + 1 + 2 * i ≤ k → it_X6 a n sh i k = sh k
  | 0, h2 => by rw [it_X6, shU_n (by omega), shU_n (by omega)]
  | i + 1, h2 => by rw [it_X6, shU_n (by omega), mk_X8_oth _ _ _ _ (by omega) (by omega), shU_n (by omega)]; exact it_X6_oth a n sh ha k h1 i (by omega)
def mk_X6 (a n : Nat) (sh : Nat → ax_S) : Nat → ax_S := it_X6 a n sh 12
theorem mk_X6_self (a n : Nat) (sh : Nat → ax_S) (ha : a < n) : mk_X6 a n sh a = .inl (6, [(2, n), (0, 0)]) := it_X6_self a n sh ha 12
theorem mk_X6_oth (a n : Nat) (sh : Nat → ax_S) (ha : a < n) (k : Nat) (h1 : k ≠ a) (h2 : k < n ∨ n + 25 ≤ k) : mk_X6 a n sh k = sh k := it_X6_oth a n sh ha k h1 12 (by omega)
section L_X6
variable {p : Program} {l : Launch} {e : Env} {s : State} {m : MethodId} {args : Array Value} {below : List Frame} {meth : Method} {c : Code} {D : va_G} {cA : Nat → ClassId} {sa : Nat → Nat} {bs : Nat}
set_option maxHeartbeats 4000000 in
set_option maxRecDepth 100000 in
theorem L_X6 (X : AX p s m args meth c D cA sa bs cX6_init 2 RX6) (hr : meth.sig.returnType = none) (hb0 : bs ≤ s.heap.size) (hO : ax_O s) (ad0 : Nat → Nat) (a n : Nat) (sh : Nat → ax_S) (σ : Nat → Nat → Int) (ha : a < n) (hz : ∀ i, n ≤ i → ∀ j, σ i j = 0) : ∀ (k i N KC KS : Nat), i + k = 12 → N = n + 1 + 2 * i → KC = 1 + 2 * i → KS = 12 + 6 * i → ∀ ad : Nat → Nat, (∀ k, k < n → ad k = ad0 k) → ax_cl N (it_X6 a n sh i) → AW p l e (ax_rm 2 25 84) s m args below meth c D cA ad bs N (it_X6 a n sh i) KC KS (ax_MG below args s D cA ad0 bs n (n + 25) (mk_X6 a n sh) σ (fun _ => none) (ax_cl (n + 25) (mk_X6 a n sh)) 25 84) 2 15 [(1, z_i (i : Int)), (0, .ref (ad a))] [] σ := by
  intro k
  induction k with
  | zero =>
    intro i N KC KS hi hN hKC hKS ad he hcl
    have hi2 : i = 12 := by omega
    subst hi2
    have e1 : N = n + 25 := by omega
    have e2 : KC = 25 := by omega
    have e3 : KS = 84 := by omega
    subst e1 e2 e3
    refine aw_iload_n X 0 dX6_init_15 rfl rfl ?_
    refine aw_aload_n X 1 dX6_init_16 rfl rfl ?_
    refine aw_getR X ⟨by omega, it_X6_self a n sh ha _⟩ fX6_11 rfl dX6_init_17 ?_
    refine aw_alenR X (kd := 2) (x := 12) ⟨by omega, it_X6_row a n sh ha _⟩ (by decide) rfl dX6_init_20 ?_
    refine aw_icmp_ge X (tgt := 43) (z_lit (by decide)) (z_lit (by decide)) dX6_init_21 (by decide) (fun h7 => ?_) (fun h7 => absurd (by decide) h7)
    exact aw_vretG X (PF := ax_cl (n + 25) (mk_X6 a n sh)) hcl he hr dX6_init_43
  | succ k ih =>
    intro i N KC KS hi hN hKC hKS ad he hcl
    have ci : Z_I (i : Int) := by unfold Z_I; omega
    refine aw_iload_n X 0 dX6_init_15 rfl rfl ?_
    refine aw_aload_n X 1 dX6_init_16 rfl rfl ?_
    refine aw_getR X ⟨by omega, it_X6_self a n sh ha _⟩ fX6_11 rfl dX6_init_17 ?_
    refine aw_alenR X (kd := 2) (x := 12) ⟨by omega, it_X6_row a n sh ha _⟩ (by decide) rfl dX6_init_20 ?_
    refine aw_icmp_ge X (tgt := 43) ci (z_lit (by decide)) dX6_init_21 (by decide) (fun h7 => absurd h7 (by omega)) (fun h7 => ?_)
    refine aw_aload_n X 1 dX6_init_24 rfl rfl ?_
    refine aw_getR X ⟨by omega, it_X6_self a n sh ha _⟩ fX6_11 rfl dX6_init_25 ?_
    refine aw_iload_n X 0 dX6_init_28 rfl rfl ?_
    refine aw_newZ X (ci := 8) (N := 3) (ty := tyX8) (f0 := [(4, 0), (0, 0), (1, 0)]) rfl inX8 tyX8_ok ⟨(ax_at 313 (by decide +kernel) rfl), (ax_at 315 (by decide +kernel) rfl), (ax_at 137 (by decide +kernel) rfl)⟩ z0_X8 hb0 (fun j => hz _ (by omega) j) hcl ⟨by show KC + 1 ≤ 25; omega, by show KS + 3 ≤ 84; omega⟩ dX6_init_29 (fun ad1 h1 cl1 => ?_)
    rw [show ad a = ad1 a from (h1 a (by omega)).symm, show ad n = ad1 n from (h1 n (by omega)).symm]
    refine aw_dup X dX6_init_32 rfl ?_
    refine aw_callIN X (host := "SpeedDesk") [.ref (ad1 N), z_i (i : Int), .ref (ad1 n)] ⟨(ax_inN 316 (by decide +kernel) rfl), (ax_at 317 (by decide +kernel) rfl), (ax_at 137 (by decide +kernel) rfl), (ax_at 318 (by decide +kernel) rfl)⟩ (by decide +kernel) hb0 hO (K_X8 l D cA sa ad1 bs N (N + 1) _ _ (by omega) shU_s cl1 (fun i hi j => hz i (by omega) j)) ⟨Nat.le_of_ble_eq_true rfl, Nat.le_of_ble_eq_true rfl, by show KC + 1 + 1 ≤ 25; omega, by show KS + 3 + 3 ≤ 84; omega⟩ (Nat.le_of_ble_eq_true rfl) dX6_init_33 (fun ad2 cl2 h2 => ?_)
    rw [show ad1 a = ad2 a from (h2 a (by omega)).symm, show ad1 n = ad2 n from (h2 n (by omega)).symm, show ad1 N = ad2 N from (h2 N (by omega)).symm]
    have hrow : mk_X8 N (N + 1) (shU (it_X6 a n sh i) N (.inl (8, [(4, 0), (0, 0), (1, 0)]))) n = .inr (6, 12, tg_X6 n i) := by
      rw [mk_X8_oth _ _ _ _ (by omega) (by omega), shU_n (by omega)]
      exact it_X6_row a n sh ha i
    refine aw_astZ X (kd := 2) (ci := 8) (r := (RX8, TX8, 3)) (x := (i : Int)) (by rw [tg_X6_len]) (by omega) ⟨by omega, hrow⟩ (by decide) rfl ⟨by omega, mk_X8_self _ _ _⟩ rfl (by rw [tg_X6_len]; omega) cl2 dX6_init_36 (fun cl3 => ?_)
    refine aw_iinc X 0 [(1, z_i ((i + 1 : Nat) : Int)), (0, .ref (ad2 a))] dX6_init_37 rfl (by decide) (by rw [z_w_id (by unfold Z_I; omega)]; rfl) ?_
    refine aw_goto X (tgt := 15) dX6_init_40 (by decide) ?_
    subst hN
    exact ih (i + 1) _ _ _ (by omega) (by omega) (by omega) (by omega) ad2 (fun k hk => by rw [h2 k (by omega), h1 k (by omega)]; exact he k hk) cl3
end L_X6
set_option maxHeartbeats 4000000 in
set_option maxRecDepth 100000 in
theorem K_X6 (l : Launch) (D : va_G) (cA : Nat → ClassId) (sa ad : Nat → Nat) (bs a n : Nat) (sh : Nat → ax_S) (σ : Nat → Nat → Int) (ha : a < n) (hs : sh a = .inl (6, [(4, 0), (0, 0)])) (hcl : ax_cl n sh) (hz : ∀ i, n ≤ i → ∀ j, σ i j = 0) : AMG l D cA sa ad bs yX6_init cX6_init 2 none 2 25 84 [.ref (ad a)] n sh σ (n + 25) (mk_X6 a n sh) σ (fun _ => none) (ax_cl (n + 25) (mk_X6 a n sh)) := by
  refine amg_of (by decide +kernel) (Nat.le_of_ble_eq_true rfl) (fun p e s m args below meth c X hr hmn hb0 hO => ?_)
  refine aw_lv (lv' := [(0, .ref (ad a))]) rfl ?_
  refine aw_aload_n X 0 dX6_init_0 rfl rfl ?_
  refine aw_objinit X (oi_hw _ _ (ax_at 312 (by decide +kernel) rfl)) ⟨Nat.le_of_ble_eq_true rfl, Nat.le_of_ble_eq_true rfl⟩ dX6_init_1 ?_
  refine aw_aload_n X 0 dX6_init_4 rfl rfl ?_
  refine aw_bipush X dX6_init_5 (by decide) ?_
  refine aw_anewZ X (kd := 2) (C := "SpeedDesk$Step") (len := 12) rfl (by decide) (by decide) rfl (ax_at 313 (by decide +kernel) rfl) hO.2.2.1 hb0 (fun j => hz _ (by omega) j) hcl ⟨Nat.le_of_ble_eq_true rfl, Nat.le_of_ble_eq_true rfl⟩ dX6_init_7 (fun ad1 h1 cl1 => ?_)
  rw [show ad a = ad1 a from (h1 a (by omega)).symm]
  refine aw_putQ X hmn ⟨by omega, (shU_n (by omega)).trans hs⟩ rfl qX6_11 ⟨by show (4 : Nat) ≠ 0; decide, by show (4 : Nat) ≠ 1; decide⟩ (by omega) cl1 dX6_init_10 (fun cl2 => ?_)
  refine aw_iconst X dX6_init_13 ?_
  refine aw_istore_n X [(1, z_i ((0 : Nat) : Int)), (0, .ref (ad1 a))] dX6_init_14 rfl (by decide) rfl ?_
  exact L_X6 X hr hb0 hO ad a n sh σ ha hz 12 0 _ _ _ (by omega) (by omega) (by omega) (by omega) ad1 h1 cl2
def tg_X3 (r : Nat) : Nat → List Nat
  | 0 => []
  | i + 1 => tg_X3 r i ++ [r + 1 + 13 * i]
theorem tg_X3_len (r : Nat) : ∀ i, (tg_X3 r i).length = i
  | 0 => rfl
  | i + 1 => by rw [tg_X3, List.length_append, tg_X3_len r i]; rfl
def it_X3 (a n : Nat) (sh : Nat → ax_S) : Nat → Nat → ax_S
  | 0 => shU (shU sh n (.inr (5, 40, []))) a (.inl (3, ([(4, 0), (0, 0), (0, 0)] : List (Nat × Nat)).set 0 (2, n)))
  | i + 1 => shU (mk_X7 (n + 1 + 13 * i) (n + 1 + 13 * i + 1) (shU (it_X3 a n sh i) (n + 1 + 13 * i) (.inl (7, [(0, 0), (0, 0), (0, 0), (0, 0), (0, 0), (0, 0), (0, 0), (4, 0), (4, 0), (4, 0), (4, 0), (4, 0), (4, 0), (4, 0), (4, 0), (4, 0), (4, 0), (4, 0), (4, 0)])))) n (.inr (5, 40, tg_X3 n i ++ [n + 1 + 13 * i]))
theorem it_X3_row (a n : Nat) (sh : Nat → ax_S) (ha : a < n) : ∀ i, it_X3 a n sh i n = .inr (5, 40, tg_X3 n i)
  | 0 => by rw [it_X3, shU_n (by omega), shU_s]; rfl
  | i + 1 => by rw [it_X3, shU_s]; rfl
theorem it_X3_self (a n : Nat) (sh : Nat → ax_S) (ha : a < n) : ∀ i, it_X3 a n sh i a = .inl (3, [(2, n), (0, 0), (0, 0)])
  | 0 => by rw [it_X3, shU_s]; rfl
  | i + 1 => by rw [it_X3, shU_n (by omega), mk_X7_oth _ _ _ _ (by omega) (by omega), shU_n (by omega)]; exact it_X3_self a n sh ha i
theorem it_X3_oth (a n : Nat) (sh : Nat → ax_S) (ha : a < n) (k : Nat) (h1 : k ≠ a) : ∀ i, k < n ∨ n + 1 + 13 * i ≤ k → it_X3 a n sh i k = sh k
  | 0, h2 => by rw [it_X3, shU_n (by omega), shU_n (by omega)]
  | i + 1, h2 => by rw [it_X3, shU_n (by omega), mk_X7_oth _ _ _ _ (by omega) (by omega), shU_n (by omega)]; exact it_X3_oth a n sh ha k h1 i (by omega)
def mk_X3 (a n : Nat) (sh : Nat → ax_S) : Nat → ax_S := it_X3 a n sh 40
theorem mk_X3_self (a n : Nat) (sh : Nat → ax_S) (ha : a < n) : mk_X3 a n sh a = .inl (3, [(2, n), (0, 0), (0, 0)]) := it_X3_self a n sh ha 40
theorem mk_X3_oth (a n : Nat) (sh : Nat → ax_S) (ha : a < n) (k : Nat) (h1 : k ≠ a) (h2 : k < n ∨ n + 521 ≤ k) : mk_X3 a n sh k = sh k := it_X3_oth a n sh ha k h1 40 (by omega)
section L_X3
variable {p : Program} {l : Launch} {e : Env} {s : State} {m : MethodId} {args : Array Value} {below : List Frame} {meth : Method} {c : Code} {D : va_G} {cA : Nat → ClassId} {sa : Nat → Nat} {bs : Nat}
set_option maxHeartbeats 4000000 in
set_option maxRecDepth 100000 in
theorem L_X3 (X : AX p s m args meth c D cA sa bs cX3_init 2 RX3) (hr : meth.sig.returnType = none) (hb0 : bs ≤ s.heap.size) (hO : ax_O s) (ad0 : Nat → Nat) (a n : Nat) (sh : Nat → ax_S) (σ : Nat → Nat → Int) (ha : a < n) (hz : ∀ i, n ≤ i → ∀ j, σ i j = 0) : ∀ (k i N KC KS : Nat), i + k = 40 → N = n + 1 + 13 * i → KC = 1 + 13 * i → KS = 40 + 78 * i → ∀ ad : Nat → Nat, (∀ k, k < n → ad k = ad0 k) → ax_cl N (it_X3 a n sh i) → AW p l e (ax_rm 2 521 3160) s m args below meth c D cA ad bs N (it_X3 a n sh i) KC KS (ax_MG below args s D cA ad0 bs n (n + 521) (mk_X3 a n sh) σ (fun _ => none) (ax_cl (n + 521) (mk_X3 a n sh)) 521 3160) 2 15 [(1, z_i (i : Int)), (0, .ref (ad a))] [] σ := by
  intro k
  induction k with
  | zero =>
    intro i N KC KS hi hN hKC hKS ad he hcl
    have hi2 : i = 40 := by omega
    subst hi2
    have e1 : N = n + 521 := by omega
    have e2 : KC = 521 := by omega
    have e3 : KS = 3160 := by omega
    subst e1 e2 e3
    refine aw_iload_n X 0 dX3_init_15 rfl rfl ?_
    refine aw_aload_n X 1 dX3_init_16 rfl rfl ?_
    refine aw_getR X ⟨by omega, it_X3_self a n sh ha _⟩ fX3_11 rfl dX3_init_17 ?_
    refine aw_alenR X (kd := 1) (x := 40) ⟨by omega, it_X3_row a n sh ha _⟩ (by decide) rfl dX3_init_20 ?_
    refine aw_icmp_ge X (tgt := 43) (z_lit (by decide)) (z_lit (by decide)) dX3_init_21 (by decide) (fun h7 => ?_) (fun h7 => absurd (by decide) h7)
    exact aw_vretG X (PF := ax_cl (n + 521) (mk_X3 a n sh)) hcl he hr dX3_init_43
  | succ k ih =>
    intro i N KC KS hi hN hKC hKS ad he hcl
    have ci : Z_I (i : Int) := by unfold Z_I; omega
    refine aw_iload_n X 0 dX3_init_15 rfl rfl ?_
    refine aw_aload_n X 1 dX3_init_16 rfl rfl ?_
    refine aw_getR X ⟨by omega, it_X3_self a n sh ha _⟩ fX3_11 rfl dX3_init_17 ?_
    refine aw_alenR X (kd := 1) (x := 40) ⟨by omega, it_X3_row a n sh ha _⟩ (by decide) rfl dX3_init_20 ?_
    refine aw_icmp_ge X (tgt := 43) ci (z_lit (by decide)) dX3_init_21 (by decide) (fun h7 => absurd h7 (by omega)) (fun h7 => ?_)
    refine aw_aload_n X 1 dX3_init_24 rfl rfl ?_
    refine aw_getR X ⟨by omega, it_X3_self a n sh ha _⟩ fX3_11 rfl dX3_init_25 ?_
    refine aw_iload_n X 0 dX3_init_28 rfl rfl ?_
    refine aw_newZ X (ci := 7) (N := 19) (ty := tyX7) (f0 := [(0, 0), (0, 0), (0, 0), (0, 0), (0, 0), (0, 0), (0, 0), (4, 0), (4, 0), (4, 0), (4, 0), (4, 0), (4, 0), (4, 0), (4, 0), (4, 0), (4, 0), (4, 0), (4, 0)]) rfl inX7 tyX7_ok ⟨(ax_at 471 (by decide +kernel) rfl), (ax_at 347 (by decide +kernel) rfl), (ax_at 138 (by decide +kernel) rfl)⟩ z0_X7 hb0 (fun j => hz _ (by omega) j) hcl ⟨by show KC + 1 ≤ 521; omega, by show KS + 19 ≤ 3160; omega⟩ dX3_init_29 (fun ad1 h1 cl1 => ?_)
    rw [show ad a = ad1 a from (h1 a (by omega)).symm, show ad n = ad1 n from (h1 n (by omega)).symm]
    refine aw_dup X dX3_init_32 rfl ?_
    refine aw_callIN X (host := "SpeedDesk") [.ref (ad1 N), z_i (i : Int), .ref (ad1 n)] ⟨(ax_inN 473 (by decide +kernel) rfl), (ax_at 349 (by decide +kernel) rfl), (ax_at 138 (by decide +kernel) rfl), (ax_at 350 (by decide +kernel) rfl)⟩ (by decide +kernel) hb0 hO (K_X7 l D cA sa ad1 bs N (N + 1) _ _ (by omega) shU_s cl1 (fun i hi j => hz i (by omega) j)) ⟨Nat.le_of_ble_eq_true rfl, Nat.le_of_ble_eq_true rfl, by show KC + 1 + 12 ≤ 521; omega, by show KS + 19 + 59 ≤ 3160; omega⟩ (Nat.le_of_ble_eq_true rfl) dX3_init_33 (fun ad2 cl2 h2 => ?_)
    rw [show ad1 a = ad2 a from (h2 a (by omega)).symm, show ad1 n = ad2 n from (h2 n (by omega)).symm, show ad1 N = ad2 N from (h2 N (by omega)).symm]
    have hrow : mk_X7 N (N + 1) (shU (it_X3 a n sh i) N (.inl (7, [(0, 0), (0, 0), (0, 0), (0, 0), (0, 0), (0, 0), (0, 0), (4, 0), (4, 0), (4, 0), (4, 0), (4, 0), (4, 0), (4, 0), (4, 0), (4, 0), (4, 0), (4, 0), (4, 0)]))) n = .inr (5, 40, tg_X3 n i) := by
      rw [mk_X7_oth _ _ _ _ (by omega) (by omega), shU_n (by omega)]
      exact it_X3_row a n sh ha i
    refine aw_astZ X (kd := 1) (ci := 7) (r := (RX7, TX7, 19)) (x := (i : Int)) (by rw [tg_X3_len]) (by omega) ⟨by omega, hrow⟩ (by decide) rfl ⟨by omega, mk_X7_self _ _ _⟩ rfl (by rw [tg_X3_len]; omega) cl2 dX3_init_36 (fun cl3 => ?_)
    refine aw_iinc X 0 [(1, z_i ((i + 1 : Nat) : Int)), (0, .ref (ad2 a))] dX3_init_37 rfl (by decide) (by rw [z_w_id (by unfold Z_I; omega)]; rfl) ?_
    refine aw_goto X (tgt := 15) dX3_init_40 (by decide) ?_
    subst hN
    exact ih (i + 1) _ _ _ (by omega) (by omega) (by omega) (by omega) ad2 (fun k hk => by rw [h2 k (by omega), h1 k (by omega)]; exact he k hk) cl3
end L_X3
set_option maxHeartbeats 4000000 in
set_option maxRecDepth 100000 in
theorem K_X3 (l : Launch) (D : va_G) (cA : Nat → ClassId) (sa ad : Nat → Nat) (bs a n : Nat) (sh : Nat → ax_S) (σ : Nat → Nat → Int) (ha : a < n) (hs : sh a = .inl (3, [(4, 0), (0, 0), (0, 0)])) (hcl : ax_cl n sh) (hz : ∀ i, n ≤ i → ∀ j, σ i j = 0) : AMG l D cA sa ad bs yX3_init cX3_init 2 none 2 521 3160 [.ref (ad a)] n sh σ (n + 521) (mk_X3 a n sh) σ (fun _ => none) (ax_cl (n + 521) (mk_X3 a n sh)) := by
  refine amg_of (by decide +kernel) (Nat.le_of_ble_eq_true rfl) (fun p e s m args below meth c X hr hmn hb0 hO => ?_)
  refine aw_lv (lv' := [(0, .ref (ad a))]) rfl ?_
  refine aw_aload_n X 0 dX3_init_0 rfl rfl ?_
  refine aw_objinit X (oi_hw _ _ (ax_at 470 (by decide +kernel) rfl)) ⟨Nat.le_of_ble_eq_true rfl, Nat.le_of_ble_eq_true rfl⟩ dX3_init_1 ?_
  refine aw_aload_n X 0 dX3_init_4 rfl rfl ?_
  refine aw_bipush X dX3_init_5 (by decide) ?_
  refine aw_anewZ X (kd := 1) (C := "SpeedDesk$State") (len := 40) rfl (by decide) (by decide) rfl (ax_at 471 (by decide +kernel) rfl) hO.2.1 hb0 (fun j => hz _ (by omega) j) hcl ⟨Nat.le_of_ble_eq_true rfl, Nat.le_of_ble_eq_true rfl⟩ dX3_init_7 (fun ad1 h1 cl1 => ?_)
  rw [show ad a = ad1 a from (h1 a (by omega)).symm]
  refine aw_putQ X hmn ⟨by omega, (shU_n (by omega)).trans hs⟩ rfl qX3_11 ⟨by show (4 : Nat) ≠ 0; decide, by show (4 : Nat) ≠ 1; decide⟩ (by omega) cl1 dX3_init_10 (fun cl2 => ?_)
  refine aw_iconst X dX3_init_13 ?_
  refine aw_istore_n X [(1, z_i ((0 : Nat) : Int)), (0, .ref (ad1 a))] dX3_init_14 rfl (by decide) rfl ?_
  exact L_X3 X hr hb0 hO ad a n sh σ ha hz 40 0 _ _ _ (by omega) (by omega) (by omega) (by omega) ad1 h1 cl2
