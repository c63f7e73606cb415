-- texts: the JDK's own methods over the classes' constant texts
/-- letter k of text i -/
def tx (i k : Nat) : Int := ((ax_byt.getD i []).getD k 0).toInt
theorem tx_all : ∀ i, i < 17 → ∀ k, k < ax_tl.getD i 0 → 0 < tx i k ∧ tx i k < 128 ∧ (ax_byt.getD i []).getD k 0 = Int32.ofInt (tx i k) ∧ ((((ax_byt.getD i []).getD k 0) &&& 255).toUInt32 % 65536).toInt32 = Int32.ofInt (tx i k) ∧ narrow .char (.int (Int32.ofInt (tx i k))) = .int (Int32.ofInt (tx i k)) := by decide +kernel
theorem tl_all : ∀ i, i < 17 → ax_tl.getD i 0 < 128 := by decide +kernel
theorem z_shr_0 {x : Int} (h : Z_I x) : z_shr x 0 = x := by
  unfold z_shr
  rw [show Int32.ofInt 0 &&& 31 = 0 from by decide, Int32.shiftRight_zero, z_t h]
section AWS
variable {p : Program} {l : Launch} {e : Env} {R : Room} {s : State} {m : MethodId} {args : Array Value} {below : List Frame} {meth : Method} {c : Code} {D : va_G} {cA : Nat → ClassId} {sa ad : Nat → Nat} {bs n kc ks : Nat} {sh : Nat → ax_S} {Q : State → Prop} {cc : ByteArray} {nL pc : Nat} {own : String} {lv : List (Nat × Value)} {st st0 : List Value} {σ τ : Nat → Nat → Int}
theorem aw_ldcS (X : AX p s m args meth c D cA sa bs cc nL own) {ix i : Nat} {tx0 : String} (hq : (own, ix, tx0, i) ∈ ax_sr) (d : decode cc pc = .ok (.ldc ix, 2)) (k : AW p l e R s m args below meth c D cA ad bs n sh kc ks Q nL (pc + 2) lv (.ref (sa (4 + i)) :: st) σ) : AW p l e R s m args below meth c D cA ad bs n sh kc ks Q nL pc lv st σ :=
  fun H locs hP hS ls hl => va_ldcS X.1 X.2.1 X.2.2.2.1 (X.2.2.2.2.2.1.2.2.2 _ hq) d (k H locs hP hS ls hl)
theorem aw_getsC (X : AX p s m args meth c D cA sa bs cc nL own) {ix : Nat} (hw : Cond.fieldLink own ix "java/lang/String" "COMPACT_STRINGS" "Z" ∈ ax_T) (d : decode cc pc = .ok (.getstatic ix, 3)) (k : AW p l e R s m args below meth c D cA ad bs n sh kc ks Q nL (pc + 3) lv (z_i 1 :: st) σ) : AW p l e R s m args below meth c D cA ad bs n sh kc ks Q nL pc lv st σ :=
  fun H locs hP hS ls hl => va_gets X.1 X.2.1 X.2.2.2.2.2.1.2.2.1.2.1 hS X.2.2.2.1 (X.2.2.2.2.1 _ hw) (fun _ h => h) d (k H locs hP hS ls hl)
theorem aw_getsQ (X : AX p s m args meth c D cA sa bs cc nL own) {ix : Nat} (hw : Cond.fieldLink own ix "jdk/internal/util/Preconditions" "SIOOBE_FORMATTER" "Ljava/util/function/BiFunction;" ∈ ax_T) (d : decode cc pc = .ok (.getstatic ix, 3)) (k : ∀ v : Value, v.category = 1 → AW p l e R s m args below meth c D cA ad bs n sh kc ks Q nL (pc + 3) lv (v :: st) σ) : AW p l e R s m args below meth c D cA ad bs n sh kc ks Q nL pc lv st σ :=
  fun H locs hP hS ls hl => by
    rcases X.2.2.2.2.2.1.2.2.1.2.2.1 with h | ⟨t, h⟩
    · exact va_gets X.1 X.2.1 h hS X.2.2.2.1 (X.2.2.2.2.1 _ hw) (fun _ h => h) d (k .null rfl H locs hP hS ls hl)
    · exact va_gets X.1 X.2.1 h hS X.2.2.2.1 (X.2.2.2.2.1 _ hw) (fun _ h => h) d (k (.ref t) rfl H locs hP hS ls hl)
theorem aw_scoder (X : AX p s m args meth c D cA sa bs cc nL own) {ix i : Nat} (hi : i < 17) (hw : Cond.fieldLink own ix "java/lang/String" "coder" "B" ∈ ax_T) (d : decode cc pc = .ok (.getfield ix, 3)) (k : AW p l e R s m args below meth c D cA ad bs n sh kc ks Q nL (pc + 3) lv (z_i 0 :: st) σ) : AW p l e R s m args below meth c D cA ad bs n sh kc ks Q nL pc lv (.ref (sa (4 + i)) :: st) σ :=
  fun H locs hP hS ls hl => vk_getf X.1 X.2.1 ((X.2.2.2.2.2.1.2.2.1.2.2.2.1 i hi).2.1) hS X.2.2.2.1 (X.2.2.2.2.1 _ hw) (fun _ h => h) d (k H locs hP hS ls hl)
theorem aw_svalue (X : AX p s m args meth c D cA sa bs cc nL own) {ix i : Nat} (hi : i < 17) (hw : Cond.fieldLink own ix "java/lang/String" "value" "[B" ∈ ax_T) (d : decode cc pc = .ok (.getfield ix, 3)) (k : AW p l e R s m args below meth c D cA ad bs n sh kc ks Q nL (pc + 3) lv (.ref (sa (21 + i)) :: st) σ) : AW p l e R s m args below meth c D cA ad bs n sh kc ks Q nL pc lv (.ref (sa (4 + i)) :: st) σ :=
  fun H locs hP hS ls hl => vk_getf X.1 X.2.1 ((X.2.2.2.2.2.1.2.2.1.2.2.2.1 i hi).2.2.1) hS X.2.2.2.1 (X.2.2.2.2.1 _ hw) (fun _ h => h) d (k H locs hP hS ls hl)
theorem aw_stlen (X : AX p s m args meth c D cA sa bs cc nL own) {i : Nat} (hi : i < 17) (d : decode cc pc = .ok (.arraylength, 1)) (k : AW p l e R s m args below meth c D cA ad bs n sh kc ks Q nL (pc + 1) lv (z_i ((ax_tl.getD i 0 : Nat) : Int) :: st) σ) : AW p l e R s m args below meth c D cA ad bs n sh kc ks Q nL pc lv (.ref (sa (21 + i)) :: st) σ :=
  fun H locs hP hS ls hl => va_tlen X.1 X.2.1 ((X.2.2.2.2.2.1.2.2.1.2.2.2.1 i hi).2.2.2) hS (Int32.ofInt_eq_ofNat).symm d (k H locs hP hS ls hl)
theorem aw_stbald (X : AX p s m args meth c D cA sa bs cc nL own) {i j : Nat} (hi : i < 17) (hj : j < ax_tl.getD i 0) (d : decode cc pc = .ok (.baload, 1)) (k : AW p l e R s m args below meth c D cA ad bs n sh kc ks Q nL (pc + 1) lv (.int ((ax_byt.getD i []).getD j 0) :: st) σ) : AW p l e R s m args below meth c D cA ad bs n sh kc ks Q nL pc lv (z_i (j : Int) :: .ref (sa (21 + i)) :: st) σ :=
  fun H locs hP hS ls hl => by
    have h1 := tl_all i hi
    have hz : Z_I (j : Int) := by unfold Z_I; omega
    exact va_tb X.1 X.2.1 ((X.2.2.2.2.2.1.2.2.1.2.2.2.1 i hi).2.2.2) hS (z_in hz (by omega) (by omega)) (by rw [z_cl hz]; rfl) d (k H locs hP hS ls hl)
theorem aw_iandN (X : AX p s m args meth c D cA sa bs cc nL own) {x y : Int32} (d : decode cc pc = .ok (.iand, 1)) (k : AW p l e R s m args below meth c D cA ad bs n sh kc ks Q nL (pc + 1) lv (.int (x &&& y) :: st) σ) : AW p l e R s m args below meth c D cA ad bs n sh kc ks Q nL pc lv (.int y :: .int x :: st) σ :=
  fun H locs hP hS ls hl => lv_iand X.1 X.2.1 d (k H locs hP hS ls hl)
theorem aw_i2cN (X : AX p s m args meth c D cA sa bs cc nL own) {x v : Int32} (d : decode cc pc = .ok (.i2c, 1)) (hv : (x.toUInt32 % 65536).toInt32 = v) (k : AW p l e R s m args below meth c D cA ad bs n sh kc ks Q nL (pc + 1) lv (.int v :: st) σ) : AW p l e R s m args below meth c D cA ad bs n sh kc ks Q nL pc lv (.int x :: st) σ :=
  fun H locs hP hS ls hl => lv_i2c X.1 X.2.1 d hv (k H locs hP hS ls hl)
theorem aw_popN (X : AX p s m args meth c D cA sa bs cc nL own) {v : Value} (hv : v.category = 1) (d : decode cc pc = .ok (.pop, 1)) (k : AW p l e R s m args below meth c D cA ad bs n sh kc ks Q nL (pc + 1) lv st σ) : AW p l e R s m args below meth c D cA ad bs n sh kc ks Q nL pc lv (v :: st) σ :=
  fun H locs hP hS ls hl => lv_pop X.1 X.2.1 d hv (k H locs hP hS ls hl)
theorem aw_nret (X : AX p s m args meth c D cA sa bs cc nL own) {r : Int} {ty : FieldType} {rv : Option Value} {PF : Prop} (hp : PF) (hr : meth.sig.returnType = some ty) (hn : narrow ty (z_i r) = z_i r) (hrv : rv = some (z_i r)) (d : decode cc pc = .ok (.ireturn, 1)) : AW p l e R s m args below meth c D cA ad bs n sh kc ks (ax_MQ below args s D cA ad bs n sh kc ks rv PF σ) nL pc lv [z_i r] σ :=
  fun H locs hP hS ls hl => by
    subst hrv
    exact W.zret X.1 X.2.1 hr hn (fun t ht _ => ⟨⟨rfl, hp⟩, by rw [ht]; exact hP, hS.F ht⟩) hS.2.2 d X.2.2.2.2.2.2
theorem aw_sret (X : AX p s m args meth c D cA sa bs cc nL own) {b : Nat} {CC : String} {rv : Option Value} {PF : Prop} (hp : PF) (hr : meth.sig.returnType = some (.object CC)) (hrv : rv = some (.ref b)) (d : decode cc pc = .ok (.areturn, 1)) : AW p l e R s m args below meth c D cA ad bs n sh kc ks (ax_MQ below args s D cA ad bs n sh kc ks rv PF σ) nL pc lv [.ref b] σ :=
  fun H locs hP hS ls hl => by
    subst hrv
    exact W.aret X.1 X.2.1 hr (Or.inl ⟨_, rfl⟩) (Or.inr ⟨_, rfl⟩) (fun t ht _ => ⟨⟨rfl, hp⟩, by rw [ht]; exact hP, hS.F ht⟩) hS.2.2 d X.2.2.2.2.2.2
theorem aw_callT (X : AX p s m args meth c D cA sa bs cc nL own) {ix i nL' np d' : Nat} {y : MethodName} {cc' : ByteArray} {ret' : Option FieldType} {rv : Option Value} {PF : Prop} (As : List Value) (st st1 : List Value) (hC : ax_cv own ix y cc' nL' ret' np) (hi : i < 17) (hyc : y.cls = "java/lang/String") (hM : AM l D cA sa ad bs n sh y cc' nL' ret' d' (.ref (sa (4 + i)) :: As) σ rv PF τ) (hnp : As.length = np) (hR : d' + 1 ≤ R.frames ∧ 8 + (nL' + 11) + 40 * d' ≤ R.locals ∧ kc ≤ R.cells ∧ ks ≤ R.slots) (hst : st0 = As.reverse ++ .ref (sa (4 + i)) :: st) (hcat : (st.map fun v => v.category).sum ≤ 8) (hst1 : rv.toList ++ st = st1) (d : decode cc pc = .ok (.invokevirtual ix, 3)) (k : PF → AW p l e R s m args below meth c D cA ad bs n sh kc ks Q nL (pc + 3) lv st1 τ) : AW p l e R s m args below meth c D cA ad bs n sh kc ks Q nL pc lv st0 σ :=
  fun H locs hP hS ls hl => by
    subst hst
    subst hst1
    refine aw_cont (a := (Value.ref (sa (4 + i)) :: As).toArray) (va_runV (As := As) (rest := st) (C := y.cls) (n := np) ⟨X.1, X.2.1, X.2.2.1, X.2.2.2.1, X.2.2.2.2.1⟩ hM (cwV np X.2.2.2.2.1 ?_ rfl rfl rfl ⟨rfl, hC.2⟩ ⟨hR.1, hR.2.1⟩) ⟨ax_blind, ?_, fun U hU hW => ⟨rfl, by rw [hU]; exact hP, X.2.2.2.2.2.1.warm hS hU hW⟩⟩ rfl hnp hl.1 rfl (lv_room hcat) d hR.2.2) hS hl k
    · exact ax_good_cons hC.1.1 (ax_good_cons hC.1.2.1 (ax_good_cons hC.1.2.2.1 (ax_good_cons hC.1.2.2.2.1 (ax_good_cons hC.1.2.2.2.2 ax_T_good))))
    · rw [hyc]
      exact vk_recv (adK := fun i => sa (4 + i)) (i := i) X.2.2.2.2.2.1.2.2.1.2.2.2 hi hS
end AWS
