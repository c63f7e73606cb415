-- what is still wanting: the copy of a static row, Math.floorMod, the words' numbers
theorem st_in0 (i : Int) : Z_I (([0, 0, 1, 0, 1, 2] : List Int).getD i.toNat 0) := by
  have h : ∀ x ∈ ([0, 0, 1, 0, 1, 2] : List Int), Z_I x := by unfold Z_I; decide
  rw [List.getD_eq_getElem?_getD]
  cases e : ([0, 0, 1, 0, 1, 2] : List Int)[i.toNat]? with
  | none => exact Z_I0
  | some x => exact h x (List.mem_of_getElem? e)
theorem st_in1 (i : Int) : Z_I (([100, 20, 20, 9, 9999, 16] : List Int).getD i.toNat 0) := by
  have h : ∀ x ∈ ([100, 20, 20, 9, 9999, 16] : List Int), Z_I x := by unfold Z_I; decide
  rw [List.getD_eq_getElem?_getD]
  cases e : ([100, 20, 20, 9, 9999, 16] : List Int)[i.toNat]? with
  | none => exact Z_I0
  | some x => exact h x (List.mem_of_getElem? e)
theorem st_in2 (i : Int) : Z_I (([25, 3, 2, 0, 9999, 8] : List Int).getD i.toNat 0) := by
  have h : ∀ x ∈ ([25, 3, 2, 0, 9999, 8] : List Int), Z_I x := by unfold Z_I; decide
  rw [List.getD_eq_getElem?_getD]
  cases e : ([25, 3, 2, 0, 9999, 8] : List Int)[i.toNat]? with
  | none => exact Z_I0
  | some x => exact h x (List.mem_of_getElem? e)
theorem st_in3 (i : Int) : Z_I (([1, 2, 3, 1, 1, 1, 0] : List Int).getD i.toNat 0) := by
  have h : ∀ x ∈ ([1, 2, 3, 1, 1, 1, 0] : List Int), Z_I x := by unfold Z_I; decide
  rw [List.getD_eq_getElem?_getD]
  cases e : ([1, 2, 3, 1, 1, 1, 0] : List Int)[i.toNat]? with
  | none => exact Z_I0
  | some x => exact h x (List.mem_of_getElem? e)
def z_fmod (x y : Int) : Int := (fmv (Int32.ofInt x) (Int32.ofInt y)).toInt
theorem z_fmod_in (x y : Int) : Z_I (z_fmod x y) := z_tI _
def z_cpyS (σ : Nat → Nat → Int) (r : List Int) (a sp dp n : Nat) : Nat → Nat → Int := fun c j => if c = a ∧ dp ≤ j ∧ j < dp + n then r.getD (sp + (j - dp)) 0 else σ c j
section AWX
variable {p : Program} {l : Launch} {e : Env} {R : Room} {s : State} {m : MethodId} {args : Array Value} {below : List Frame} {meth : Method} {c : Code} {D : va_G} {cA : Nat → ClassId} {sa ad : Nat → Nat} {bs n kc ks : Nat} {sh : Nat → ax_S} {Q : State → Prop} {cc : ByteArray} {nL pc : Nat} {own : String} {lv : List (Nat × Value)} {st st0 : List Value} {σ τ : Nat → Nat → Int}
theorem aw_fmod (X : AX p s m args meth c D cA sa bs cc nL own) {ix : Nat} {x y : Int} (cx : Z_I x) (cy : Z_I y) (h0 : ¬ y = 0) (hw : Cond.methodLink own ix yJ9_floorMod_7cf53 ∈ ax_T ∧ Cond.static yJ9_floorMod_7cf53 ∈ ax_T ∧ Cond.code yJ9_floorMod_7cf53 cJ9_floorMod_7cf53 3 (some .int) ∈ ax_T ∧ Cond.initialized "java/lang/Math" ∈ ax_T) (hR : 1 ≤ R.frames ∧ 22 ≤ R.locals) (hcat : (st.map fun v => v.category).sum ≤ 8) (d : decode cc pc = .ok (.invokestatic ix, 3)) (k : AW p l e R s m args below meth c D cA ad bs n sh kc ks Q nL (pc + 3) lv (z_i (z_fmod x y) :: st) σ) : AW p l e R s m args below meth c D cA ad bs n sh kc ks Q nL pc lv (z_i y :: z_i x :: st) σ := by
  sorry
theorem aw_cpyS (X : AX p s m args meth c D cA sa bs cc nL own) {a len ix r : Nat} {tg : List Nat} {sp dp ln : Int} {q : String × String × List Int} {rws : List Int} (hq : ax_st[r]? = some q) (hrw : q.2.2 = rws) (hw : Cond.methodLink own ix arraycopyName ∈ ax_T ∧ Cond.native arraycopyName ∈ ax_T ∧ Cond.static arraycopyName ∈ ax_T ∧ Cond.initialized "java/lang/System" ∈ ax_T) (hs : a < n ∧ sh a = .inr (0, len, tg)) (c1 : Z_I sp) (c2 : Z_I dp) (c3 : Z_I ln) (h1 : 0 ≤ sp) (h2 : 0 ≤ dp) (h3 : 0 ≤ ln) (h4 : sp + ln ≤ q.2.2.length) (h5 : dp + ln ≤ len) (hR : 1 ≤ R.frames ∧ (st.map fun v => v.category).sum + (nativeFrameWords "java/lang/System" "arraycopy" 5 + 11) ≤ R.locals) (d : decode cc pc = .ok (.invokestatic ix, 3)) (k : AW p l e R s m args below meth c D cA ad bs n sh kc ks Q nL (pc + 3) lv st (z_cpyS σ rws a sp.toNat dp.toNat ln.toNat)) : AW p l e R s m args below meth c D cA ad bs n sh kc ks Q nL pc lv (z_i ln :: z_i dp :: .ref (ad a) :: z_i sp :: .ref (sa r) :: st) σ := by
  sorry
end AWX
theorem wX4_21 : Cond.methodLink RX4 21 yJ9_floorMod_7cf53 ∈ ax_T ∧ Cond.static yJ9_floorMod_7cf53 ∈ ax_T ∧ Cond.code yJ9_floorMod_7cf53 cJ9_floorMod_7cf53 3 (some .int) ∈ ax_T ∧ Cond.initialized "java/lang/Math" ∈ ax_T := ⟨(ax_at 1192 (by decide +kernel) rfl), (ax_at 1193 (by decide +kernel) rfl), (ax_at 1194 (by decide +kernel) rfl), (ax_at 152 (by decide +kernel) rfl)⟩
/-- which word a packed name is, of the class and of the reference: NOT YET PROVED -/
def z_words : List Int := [27985274398336370, 482905517684, 1952543595, 120265298635118, 1752132708, 495739823472, 422776370036, 465625246068, 1668247404, 1953063787, 1836021349, 6386539, 1685221232, 1937010544, 495873782388, 126879582678117]
def f_X10_wordNumber (v : Int) (_ : Nat → Nat → Int) : Option Int := some ((z_words.idxOf? v).elim (-1) (fun i => (i : Int)))
def f_X12_known (v : Int) (_ : Nat → Nat → Int) : Option Int := some ((z_words.idxOf? v).elim (-1) (fun i => (i : Int)))
theorem C_X10_wordNumber (l : Launch) (D : va_G) (cA : Nat → ClassId) (sa ad : Nat → Nat) (bs : Nat) (v0 : Int) (c_v0 : Z_L v0) (σ : Nat → Nat → Int) (q : Int) (hf : f_X10_wordNumber v0 σ = some q) : AM l D cA sa ad bs 787 SH yX10_wordNumber cX10_wordNumber 3 (some .int) 6 [z_v v0] σ (some (z_i q)) (Z_I q) σ := by
  sorry
theorem C_X12_known (l : Launch) (D : va_G) (cA : Nat → ClassId) (sa ad : Nat → Nat) (bs : Nat) (v0 : Int) (c_v0 : Z_L v0) (σ : Nat → Nat → Int) (q : Int) (hf : f_X12_known v0 σ = some q) : AM l D cA sa ad bs 787 SH yX12_known cX12_known 6 (some .int) 6 [z_v v0] σ (some (z_i q)) (Z_I q) σ := by
  sorry
def ax_len (s : ax_S) : Nat := match s with
  | .inr (_, n, _) => n
  | _ => 0
theorem z_len0 : ∀ a, a < 787 → ax_len (SH a) < 100000 := by decide +kernel
theorem z_len {a k n : Nat} {tg : List Nat} (h : a < 787 ∧ SH a = .inr (k, n, tg)) : Z_I (n : Int) := by
  have h2 := z_len0 a h.1
  rw [h.2] at h2
  have h3 : n < 100000 := h2
  unfold Z_I
  omega
