-- the law: its script read, its room
section S_LW
variable {p : Program} {l : Launch} {e : Env} {R : Room} {s : State} {m : MethodId} {args : Array Value} {below : List Frame} {meth : Method} {c : Code} {D : va_G} {cA : Nat → ClassId} {sa ad : Nat → Nat} {bs n kc ks : Nat} {sh : Nat → ax_S} {Q : State → Prop} {cc : ByteArray} {nL pc : Nat} {own : String} {lv : List (Nat × Value)} {st st0 : List Value} {σ τ : Nat → Nat → Int} {b L : Nat} {xs : Nat → Int32}
theorem aw_xld (X : AX p s m args meth c D cA sa bs cc nL own) (hX : va_X b L xs s s.heap) (hbl : b < s.heap.size) (hbA : ¬ ax_A bs b) {i : Int} (ci : Z_I i) (h0 : 0 ≤ i) (h1 : i < L) (d : decode cc pc = .ok (.iaload, 1)) (k : AW p l e R s m args below meth c D cA ad bs n sh kc ks Q nL (pc + 1) lv (.int (xs i.toNat) :: st) σ) : AW p l e R s m args below meth c D cA ad bs n sh kc ks Q nL pc lv (z_i i :: .ref b :: st) σ :=
  fun H locs hP hS ls hl => va_sld X.1 X.2.1 hX hbl hbA hS (z_in ci h0 h1) d (by rw [z_cl ci]; exact k H locs hP hS ls hl)
theorem aw_xlen (X : AX p s m args meth c D cA sa bs cc nL own) (hX : va_X b L xs s s.heap) (hbl : b < s.heap.size) (hbA : ¬ ax_A bs b) (d : decode cc pc = .ok (.arraylength, 1)) (k : AW p l e R s m args below meth c D cA ad bs n sh kc ks Q nL (pc + 1) lv (z_i (L : Int) :: st) σ) : AW p l e R s m args below meth c D cA ad bs n sh kc ks Q nL pc lv (.ref b :: st) σ :=
  fun H locs hP hS ls hl => va_slen X.1 X.2.1 hX hbl hbA hS d (by
    rw [show Value.int (Int32.ofNat L) = z_i (L : Int) from congrArg Value.int Int32.ofInt_eq_ofNat.symm]
    exact k H locs hP hS ls hl)
/-- the law's locals -/
def lw_lv (b : Nat) (ad : Nat → Nat) (i : Nat) : List (Nat × Value) := [(0, .ref b), (1, .ref (ad 0)), (2, .ref (ad 758)), (3, .ref (ad 787)), (4, z_i (i : Int))]
theorem lw_num (x : Int32) : Value.int x = z_i x.toInt ∧ Z_I x.toInt := ⟨congrArg Value.int (Int32.ofInt_toInt x).symm, by
  have h1 := Int32.le_toInt x
  have h2 := Int32.toInt_lt x
  unfold Z_I
  omega⟩
/-- a number of the script: the j-th behind the i-th -/
theorem aw_arg (X : AX p s m args meth c D cA sa bs cc nL own) (hX : va_X b L xs s s.heap) (hbl : b < s.heap.size) (hbA : ¬ ax_A bs b) {i j : Nat} (hj : i + j < L) (hL : L ≤ 3072) (d0 : decode cc pc = .ok (.aload_n 0, 1)) (d1 : decode cc (pc + 1) = .ok (.iload 4, 2)) (d2 : decode cc (pc + 3) = .ok (.iconst (j : Int), 1)) (d3 : decode cc (pc + 4) = .ok (.iadd, 1)) (d4 : decode cc (pc + 5) = .ok (.iaload, 1)) (k : AW p l e R s m args below meth c D cA ad bs n sh kc ks Q nL (pc + 6) (lw_lv b ad i) (z_i (xs (i + j)).toInt :: st) σ) : AW p l e R s m args below meth c D cA ad bs n sh kc ks Q nL pc (lw_lv b ad i) st σ := by
  refine aw_aload_n X 0 d0 rfl rfl ?_
  refine aw_iload X (x := Int32.ofInt (i : Int)) 4 d1 rfl ?_
  refine aw_iconst X d2 ?_
  refine aw_iadd X (x := (i : Int)) d3 ?_
  rw [zid (x := (i : Int) + (j : Int)) (by omega) (by omega)]
  refine aw_xld X hX hbl hbA (by unfold Z_I; omega) (by omega) (by omega) d4 ?_
  rw [show ((i : Int) + (j : Int)).toNat = i + j from by omega, (lw_num _).1]
  exact k
end S_LW
