-- five scripts; the class's constructor, the reference's
def tg_S (r : Nat) : Nat → List Nat
  | 0 => []
  | i + 1 => tg_S r i ++ [r + 1 + 26 * i]
theorem tg_S_len (r : Nat) : ∀ i, (tg_S r i).length = i
  | 0 => rfl
  | i + 1 => by rw [tg_S, List.length_append, tg_S_len r i]; rfl
def it_S (n : Nat) (sh : Nat → ax_S) : Nat → Nat → ax_S
  | 0 => shU sh n (.inr (4, 5, []))
  | i + 1 => shU (mk_X6 (n + 1 + 26 * i) (n + 1 + 26 * i + 1) (shU (it_S n sh i) (n + 1 + 26 * i) (.inl (6, [(4, 0), (0, 0)])))) n (.inr (4, 5, tg_S n i ++ [n + 1 + 26 * i]))
theorem it_S_row (n : Nat) (sh : Nat → ax_S) : ∀ i, it_S n sh i n = .inr (4, 5, tg_S n i)
  | 0 => by rw [it_S, shU_s]; rfl
  | i + 1 => by rw [it_S, shU_s]; rfl
theorem it_S_oth (n : Nat) (sh : Nat → ax_S) (k : Nat) : ∀ i, k < n ∨ n + 1 + 26 * i ≤ k → it_S n sh i k = sh k
  | 0, h2 => by rw [it_S, shU_n (by omega)]
  | i + 1, h2 => by rw [it_S, shU_n (by omega), mk_X6_oth _ _ _ (by omega) _ (by omega) (by omega), shU_n (by omega)]; exact it_S_oth n sh k i (by omega)
def mk_scripts (n : Nat) (sh : Nat → ax_S) : Nat → ax_S := it_S n sh 5
theorem mk_scripts_oth (n : Nat) (sh : Nat → ax_S) (k : Nat) (h2 : k < n ∨ n + 131 ≤ k) : mk_scripts n sh k = sh k := it_S_oth n sh k 5 (by omega)
section L_S
variable {p : Program} {l : Launch} {e : Env} {s : State} {m : MethodId} {args : Array Value} {below : List Frame} {meth : Method} {c : Code} {D : va_G} {cA : Nat → ClassId} {sa : Nat → Nat} {bs : Nat}
set_option maxHeartbeats 4000000 in
set_option maxRecDepth 100000 in
theorem L_S (X : AX p s m args meth c D cA sa bs cX11_newScripts 2 RX11) (hr : meth.sig.returnType = (some (.array (.object "SpeedDesk$Script")))) (hb0 : bs ≤ s.heap.size) (hO : ax_O s) (ad0 : Nat → Nat) (n : Nat) (sh : Nat → ax_S) (σ : Nat → Nat → Int) (hz : ∀ i, n ≤ i → ∀ j, σ i j = 0) : ∀ (k i N KC KS : Nat), i + k = 5 → N = n + 1 + 26 * i → KC = 1 + 26 * i → KS = 5 + 86 * i → ∀ ad : Nat → Nat, (∀ k, k < n → ad k = ad0 k) → ax_cl N (it_S n sh i) → AW p l e (ax_rm 3 131 435) s m args below meth c D cA ad bs N (it_S n sh i) KC KS (ax_MG below args s D cA ad0 bs n (n + 131) (mk_scripts n sh) σ (fun ad => some (.ref (ad n))) (ax_cl (n + 131) (mk_scripts n sh)) 131 435) 2 7 [(1, z_i (i : Int)), (0, .ref (ad n))] [] σ := by
  intro k
  induction k with
  | zero =>
    intro i N KC KS hi hN hKC hKS ad he hcl
    have hi2 : i = 5 := by omega
    subst hi2
    have e1 : N = n + 131 := by omega
    have e2 : KC = 131 := by omega
    have e3 : KS = 435 := by omega
    subst e1 e2 e3
    refine aw_iload_n X 0 dX11_newScripts_7 rfl rfl ?_
    refine aw_aload_n X 1 dX11_newScripts_8 rfl rfl ?_
    refine aw_alenR X (kd := 0) (x := 5) ⟨by omega, it_S_row n sh _⟩ (by decide) rfl dX11_newScripts_9 ?_
    refine aw_icmp_ge X (tgt := 29) (z_lit (by decide)) (z_lit (by decide)) dX11_newScripts_10 (by decide) (fun h7 => ?_) (fun h7 => absurd (by decide) h7)
    refine aw_aload_n X 1 dX11_newScripts_29 rfl rfl ?_
    exact aw_aretG X (PF := ax_cl (n + 131) (mk_scripts n sh)) hcl he hr dX11_newScripts_30
  | succ k ih =>
    intro i N KC KS hi hN hKC hKS ad he hcl
    have ci : Z_I (i : Int) := by unfold Z_I; omega
    refine aw_iload_n X 0 dX11_newScripts_7 rfl rfl ?_
    refine aw_aload_n X 1 dX11_newScripts_8 rfl rfl ?_
    refine aw_alenR X (kd := 0) (x := 5) ⟨by omega, it_S_row n sh _⟩ (by decide) rfl dX11_newScripts_9 ?_
    refine aw_icmp_ge X (tgt := 29) ci (z_lit (by decide)) dX11_newScripts_10 (by decide) (fun h7 => absurd h7 (by omega)) (fun h7 => ?_)
    refine aw_aload_n X 1 dX11_newScripts_13 rfl rfl ?_
    refine aw_iload_n X 0 dX11_newScripts_14 rfl rfl ?_
    refine aw_newZ X (ci := 6) (N := 2) (ty := tyX6) (f0 := [(4, 0), (0, 0)]) rfl inX6 tyX6_ok ⟨(ax_at 306 (by decide +kernel) rfl), (ax_at 308 (by decide +kernel) rfl), (ax_at 136 (by decide +kernel) rfl)⟩ z0_X6 hb0 (fun j => hz _ (by omega) j) hcl ⟨by show KC + 1 ≤ 131; omega, by show KS + 2 ≤ 435; omega⟩ dX11_newScripts_15 (fun ad1 h1 cl1 => ?_)
    rw [show ad n = ad1 n from (h1 n (by omega)).symm]
    refine aw_dup X dX11_newScripts_18 rfl ?_
    refine aw_callI X [.ref (ad1 N), z_i (i : Int), .ref (ad1 n)] ⟨(ax_at 309 (by decide +kernel) rfl), (ax_at 310 (by decide +kernel) rfl), (ax_at 136 (by decide +kernel) rfl), (ax_at 311 (by decide +kernel) rfl)⟩ (by decide +kernel) hb0 hO (K_X6 l D cA sa ad1 bs N (N + 1) _ _ (by omega) shU_s cl1 (fun i hi j => hz i (by omega) j)) ⟨Nat.le_of_ble_eq_true rfl, Nat.le_of_ble_eq_true rfl, by show KC + 1 + 25 ≤ 131; omega, by show KS + 2 + 84 ≤ 435; omega⟩ (Nat.le_of_ble_eq_true rfl) dX11_newScripts_19 (fun ad2 cl2 h2 => ?_)
    rw [show ad1 n = ad2 n from (h2 n (by omega)).symm, show ad1 N = ad2 N from (h2 N (by omega)).symm]
    have hrow : mk_X6 N (N + 1) (shU (it_S n sh i) N (.inl (6, [(4, 0), (0, 0)]))) n = .inr (4, 5, tg_S n i) := by
      rw [mk_X6_oth _ _ _ (by omega) _ (by omega) (by omega), shU_n (by omega)]
      exact it_S_row n sh i
    refine aw_astZ X (kd := 0) (ci := 6) (r := (RX6, TX6, 2)) (x := (i : Int)) (by rw [tg_S_len]) (by omega) ⟨by omega, hrow⟩ (by decide) rfl ⟨by omega, mk_X6_self _ _ _ (by omega)⟩ rfl (by rw [tg_S_len]; omega) cl2 dX11_newScripts_22 (fun cl3 => ?_)
    refine aw_iinc X 0 [(1, z_i ((i + 1 : Nat) : Int)), (0, .ref (ad2 n))] dX11_newScripts_23 rfl (by decide) (by rw [z_w_id (by unfold Z_I; omega)]; rfl) ?_
    refine aw_goto X (tgt := 7) dX11_newScripts_26 (by decide) ?_
    subst hN
    exact ih (i + 1) _ _ _ (by omega) (by omega) (by omega) (by omega) ad2 (fun k hk => by rw [h2 k (by omega), h1 k (by omega)]; exact he k hk) cl3
end L_S
set_option maxHeartbeats 4000000 in
set_option maxRecDepth 100000 in
theorem K_scripts (l : Launch) (D : va_G) (cA : Nat → ClassId) (sa ad : Nat → Nat) (bs n : Nat) (sh : Nat → ax_S) (σ : Nat → Nat → Int) (hcl : ax_cl n sh) (hz : ∀ i, n ≤ i → ∀ j, σ i j = 0) : AMG l D cA sa ad bs yX11_newScripts cX11_newScripts 2 (some (.array (.object "SpeedDesk$Script"))) 3 131 435 [] n sh σ (n + 131) (mk_scripts n sh) σ (fun ad => some (.ref (ad n))) (ax_cl (n + 131) (mk_scripts n sh)) := by
  refine amg_of (by decide +kernel) (Nat.le_of_ble_eq_true rfl) (fun p e s m args below meth c X hr hmn hb0 hO => ?_)
  refine aw_lv (lv' := []) rfl ?_
  refine aw_iconst X dX11_newScripts_0 ?_
  refine aw_anewZ X (kd := 0) (C := "SpeedDesk$Script") (len := 5) rfl (by decide) (by decide) rfl (ax_at 306 (by decide +kernel) rfl) hO.1 hb0 (fun j => hz _ (by omega) j) hcl ⟨Nat.le_of_ble_eq_true rfl, Nat.le_of_ble_eq_true rfl⟩ dX11_newScripts_1 (fun ad1 h1 cl1 => ?_)
  refine aw_astore_n X [(0, .ref (ad1 n))] dX11_newScripts_4 rfl (by decide) rfl ?_
  refine aw_iconst X dX11_newScripts_5 ?_
  refine aw_istore_n X [(1, z_i ((0 : Nat) : Int)), (0, .ref (ad1 n))] dX11_newScripts_6 rfl (by decide) rfl ?_
  exact L_S X hr hb0 hO ad n sh σ hz 5 0 _ _ _ (by omega) (by omega) (by omega) (by omega) ad1 h1 cl1
