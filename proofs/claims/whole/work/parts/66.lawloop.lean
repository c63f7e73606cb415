-- the law: all its turns, out of one
section S_LL
variable {p : Program} {l : Launch} {e : Env} {s : State} {m : MethodId} {args : Array Value} {below : List Frame} {meth : Method} {c : Code} {D : va_G} {cA : Nat → ClassId} {sa ad : Nat → Nat} {bs : Nat} {Q : State → Prop} {b L C0 S0 C S : Nat} {xs : Nat → Int32}
theorem z_and63 (x : Int) : 0 ≤ z_and x 63 ∧ z_and x 63 < 64 := by
  unfold z_and
  rw [show Int32.ofInt 63 = nI (2 ^ 6 - 1) from by decide]
  obtain ⟨n, hn, e⟩ := wb_of32 (Int32.ofInt x)
  rw [e]
  have h1 : nI n &&& nI (2 ^ 6 - 1) = nI (n % 2 ^ 6) := by
    apply Int32.toBitVec_inj.mp
    rw [Int32.toBitVec_and]
    show BitVec.ofNat 32 n &&& BitVec.ofNat 32 (2 ^ 6 - 1) = BitVec.ofNat 32 _
    apply BitVec.eq_of_toNat_eq
    rw [BitVec.toNat_and, BitVec.toNat_ofNat, BitVec.toNat_ofNat, BitVec.toNat_ofNat, Nat.mod_eq_of_lt hn, Nat.mod_eq_of_lt (show 2 ^ 6 - 1 < 2 ^ 32 by omega), Nat.and_two_pow_sub_one_eq_mod]
    omega
  have h2 : (nI (n % 2 ^ 6)).toInt = ((n % 2 ^ 6 : Nat) : Int) := by
    show (Int32.ofNat _).toInt = _
    rw [← Int32.ofInt_eq_ofNat, z_t (by unfold Z_I; omega)]
  rw [h1, h2]
  omega
theorem LW_loop (X : AX p s m args meth c D cA sa bs cL_law 7 RLw) (hX : va_X b L xs s s.heap) (hbl : b < s.heap.size) (hbA : ¬ ax_A bs b) (hL : L ≤ 3072) 
    (hend : ∀ (i kc ks : Nat) (σ : Nat → Nat → Int), i ≤ 4000 → kc ≤ C0 + C * i → ks ≤ S0 + S * i → AW p l e room_1 s m args below meth c D cA ad bs 788 SHp kc ks Q 7 1450 (lw_lv b ad i) [] σ)
    (turn : ∀ (i kc ks : Nat) (σ : Nat → Nat → Int) (bb : Int), i + 5 < L → GV σ bb → 0 ≤ bb → bb ≤ 40 * i → kc ≤ C0 + C * i → ks ≤ S0 + S * i → (∀ (kc' ks' : Nat) (σ2 : Nat → Nat → Int) (bb' : Int), GV σ2 bb' → 0 ≤ bb' → bb' ≤ bb + 40 → kc' ≤ kc + C → ks' ≤ ks + S → AW p l e room_1 s m args below meth c D cA ad bs 788 SHp kc' ks' Q 7 1444 (lw_lv b ad i) [] σ2) → ∀ n, n < 37 → AW p l e room_1 s m args below meth c D cA ad bs 788 SHp kc ks Q 7 (lw_pc n) (lw_lv b ad i) [] σ) :
    ∀ (k i kc ks : Nat) (σ : Nat → Nat → Int) (bb : Int), L < i + 6 * k + 6 → i ≤ 3078 → GV σ bb → 0 ≤ bb → bb ≤ 40 * i → kc ≤ C0 + C * i → ks ≤ S0 + S * i → AW p l e room_1 s m args below meth c D cA ad bs 788 SHp kc ks Q 7 23 (lw_lv b ad i) [] σ := by
  intro k
  induction k with
  | zero =>
    intro i kc ks σ bb hk hi hG h0 hb hc hs
    exact LW_head X hX hbl hbA hL (by omega) (fun x _ => by have := z_and63 x; omega) (hend i kc ks σ (by omega) hc hs) (fun h => by omega) (fun h => by omega)
  | succ k ih =>
    intro i kc ks σ bb hk hi hG h0 hb hc hs
    have next : ∀ (kc' ks' : Nat) (σ2 : Nat → Nat → Int) (bb' : Int), i + 5 < L → GV σ2 bb' → 0 ≤ bb' → bb' ≤ bb + 40 → kc' ≤ kc + C → ks' ≤ ks + S → AW p l e room_1 s m args below meth c D cA ad bs 788 SHp kc' ks' Q 7 1444 (lw_lv b ad i) [] σ2 := fun kc' ks' σ2 bb' hi5 g1 g2 g3 g4 g5 => by
      have e1 : C * (i + 6) = C * i + 6 * C := by rw [Nat.mul_add, Nat.mul_comm C 6]
      have e2 : S * (i + 6) = S * i + 6 * S := by rw [Nat.mul_add, Nat.mul_comm S 6]
      exact LW_next X (by omega) (ih (i + 6) kc' ks' σ2 bb' (by omega) (by omega) g1 g2 (by omega) (by omega) (by omega))
    refine LW_head X hX hbl hbA hL (by omega) (fun x _ => by have := z_and63 x; omega) (hend i kc ks σ (by omega) hc hs) (fun h n hn => ?_) (fun h => next kc ks σ bb h hG h0 (by omega) (by omega) (by omega))
    exact turn i kc ks σ bb h hG h0 hb hc hs (fun kc' ks' σ2 bb' g1 g2 g3 g4 g5 => next kc' ks' σ2 bb' h g1 g2 g3 g4 g5) n hn
end S_LL
