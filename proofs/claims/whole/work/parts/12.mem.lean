-- rules of the abstract machine that read and write memory, call and return
theorem ax_fv0 {ad : Nat → Nat} {q : Nat × Nat} {x : Int} (h : q.1 = 0) : ax_fv ad q x = z_i x := by
  obtain ⟨k, t⟩ := q
  cases h
  rfl
theorem ax_fv1 {ad : Nat → Nat} {q : Nat × Nat} {x : Int} (h : q.1 = 1) : ax_fv ad q x = z_v x := by
  obtain ⟨k, t⟩ := q
  cases h
  rfl
theorem ax_fv2 {ad : Nat → Nat} {t : Nat} {q : Nat × Nat} {x : Int} (h : q = (2, t)) : ax_fv ad q x = .ref (ad t) := by
  subst h
  rfl
theorem ax_fv3 {ad : Nat → Nat} {q : Nat × Nat} {x : Int} (h : q.1 = 3) : ax_fv ad q x = .ref (ad x.toNat) := by
  obtain ⟨k, t⟩ := q
  cases h
  rfl
theorem ax_ws_obj {cA : Nat → ClassId} {ad : Nat → Nat} {n a ci : Nat} {fs : List (Nat × Nat)} {sh : Nat → ax_S} {σ : Nat → Nat → Int} (hs : a < n ∧ sh a = .inl (ci, fs)) : (ax_ws cA ad n sh σ)[a]? = some (ad a, .inr (ci, (List.range fs.length).map (fun k => ax_fv ad (fs.getD k (4, 0)) (σ a k)))) := by
  rw [ax_ws_get hs.1, hs.2]
  rfl
theorem ax_fs_get {ad : Nat → Nat} {j : Nat} {fs : List (Nat × Nat)} {row : Nat → Int} (hj : j < fs.length) : ((List.range fs.length).map (fun k => ax_fv ad (fs.getD k (4, 0)) (row k)))[j]? = some (ax_fv ad (fs.getD j (4, 0)) (row j)) := by
  simp [hj]
theorem ax_fs_set {ad : Nat → Nat} {j : Nat} {fs : List (Nat × Nat)} {row row' : Nat → Int} {v : Value} (hv : v = ax_fv ad (fs.getD j (4, 0)) (row' j)) (ho : ∀ k, k ≠ j → row' k = row k) : ((List.range fs.length).map (fun k => ax_fv ad (fs.getD k (4, 0)) (row k))).set j v = (List.range fs.length).map (fun k => ax_fv ad (fs.getD k (4, 0)) (row' k)) := by
  refine List.ext_getElem? fun k => ?_
  rw [List.getElem?_set]
  by_cases h : j = k
  · subst h
    rw [if_pos rfl]
    by_cases h2 : j < fs.length
    · rw [if_pos (by simpa using h2), ax_fs_get h2, hv]
    · rw [if_neg (by simpa using h2)]
      symm
      rw [List.getElem?_eq_none_iff]
      simpa using h2
  · rw [if_neg h]
    by_cases h2 : k < fs.length
    · rw [ax_fs_get h2, ax_fs_get h2, ho k (fun q => h q.symm)]
    · rw [List.getElem?_eq_none (by simpa using h2), List.getElem?_eq_none (by simpa using h2)]
theorem ax_P_put {D : va_G} {cA : Nat → ClassId} {ad : Nat → Nat} {bs n a j ci : Nat} {fs : List (Nat × Nat)} {sh : Nat → ax_S} {σ : Nat → Nat → Int} {x : Int} {v : Value} {H H1 : Heap} (hP : ax_P D cA ad bs n sh σ H) (hs : a < n ∧ sh a = .inl (ci, fs)) (hj : j < fs.length) (hv : v = ax_fv ad (fs.getD j (4, 0)) x) (hr : ((fs.getD j (4, 0)).1 = 0 → Z_I x) ∧ ((fs.getD j (4, 0)).1 = 1 → Z_L x))
    (h : va_P D vwCl ((ax_ws cA ad n sh σ).set a (ad a, .inr (ci, ((List.range fs.length).map (fun k => ax_fv ad (fs.getD k (4, 0)) (σ a k))).set j v))) H1) (hd : va_D (ax_A bs) ((ax_ws cA ad n sh σ).set a (ad a, .inr (ci, ((List.range fs.length).map (fun k => ax_fv ad (fs.getD k (4, 0)) (σ a k))).set j v)))) : ax_P D cA ad bs n sh (u2 σ a j x) H1 := by
  refine ⟨?_, ?_, fun k hk => ?_⟩
  · rw [ax_ws_set (τ := u2 σ a j x) (e := .inr (ci, ((List.range fs.length).map (fun k => ax_fv ad (fs.getD k (4, 0)) (σ a k))).set j v)) ?_ (fun c hc => u2_ne hc)] at h
    · exact h
    · rw [hs.2, ax_fs_set (row' := u2 σ a j x a) (by rw [u2_s]; exact hv) (fun k hk => u2_n (Or.inr hk))]
      rfl
  · rw [ax_ws_set (τ := u2 σ a j x) (e := .inr (ci, ((List.range fs.length).map (fun k => ax_fv ad (fs.getD k (4, 0)) (σ a k))).set j v)) ?_ (fun c hc => u2_ne hc)] at hd
    · exact hd
    · rw [hs.2, ax_fs_set (row' := u2 σ a j x a) (by rw [u2_s]; exact hv) (fun k hk => u2_n (Or.inr hk))]
      rfl
  · by_cases e : k = a
    · subst e
      have h0 := hP.2.2 k hk
      rw [hs.2] at h0 ⊢
      intro i hi
      by_cases e2 : i = j
      · subst e2
        rw [u2_s]
        exact hr
      · rw [u2_n (Or.inr e2)]
        exact h0 i hi
    · rw [u2_ne e]
      exact hP.2.2 k hk
theorem ax_ws_arr {cA : Nat → ClassId} {ad : Nat → Nat} {n a k len : Nat} {tg : List Nat} {sh : Nat → ax_S} {σ : Nat → Nat → Int} (hs : a < n ∧ sh a = .inr (k, len, tg)) : (ax_ws cA ad n sh σ)[a]? = some (ad a, ax_e cA ad (.inr (k, len, tg)) (σ a)) := by
  rw [ax_ws_get hs.1, hs.2]
theorem ax_P_set {D : va_G} {cA : Nat → ClassId} {ad : Nat → Nat} {bs n a j k len : Nat} {tg : List Nat} {sh : Nat → ax_S} {σ : Nat → Nat → Int} {x : Int} {H H1 : Heap} {E : va_E} (hP : ax_P D cA ad bs n sh σ H) (hs : a < n ∧ sh a = .inr (k, len, tg)) (hE : E = ax_e cA ad (.inr (k, len, tg)) (u2 σ a j x a)) (hr : (k = 0 → Z_I x) ∧ (k = 1 → Z_L x) ∧ (k = 2 → -128 ≤ x ∧ x < 128) ∧ (k = 3 → x = 0 ∨ x = 1))
    (h : va_P D vwCl ((ax_ws cA ad n sh σ).set a (ad a, E)) H1) (hd : va_D (ax_A bs) ((ax_ws cA ad n sh σ).set a (ad a, E))) : ax_P D cA ad bs n sh (u2 σ a j x) H1 := by
  refine ⟨?_, ?_, fun b hb => ?_⟩
  · rw [ax_ws_set (τ := u2 σ a j x) (e := E) (by rw [hs.2]; exact hE) (fun c hc => u2_ne hc)] at h
    exact h
  · rw [ax_ws_set (τ := u2 σ a j x) (e := E) (by rw [hs.2]; exact hE) (fun c hc => u2_ne hc)] at hd
    exact hd
  · by_cases e : b = a
    · subst e
      have h0 := hP.2.2 b hb
      rw [hs.2] at h0 ⊢
      intro i hi
      by_cases e2 : i = j
      · subst e2
        rw [u2_s]
        exact hr
      · rw [u2_n (Or.inr e2)]
        exact h0 i hi
    · rw [u2_ne e]
      exact hP.2.2 b hb
theorem ax_upd (σ : Nat → Nat → Int) (a j : Nat) (x : Int) : (fun i => Int32.ofInt (u2 σ a j x a i)) = upd (fun i => Int32.ofInt (σ a i)) j (Int32.ofInt x) := by
  funext i
  unfold upd
  by_cases e : i = j
  · subst e
    rw [u2_s, if_pos rfl]
  · rw [u2_n (Or.inr e), if_neg e]
theorem ax_updL (σ : Nat → Nat → Int) (a j : Nat) (x : Int) : (fun i => Int64.ofInt (u2 σ a j x a i)) = vp_updL (fun i => Int64.ofInt (σ a i)) j (Int64.ofInt x) := by
  funext i
  unfold vp_updL
  by_cases e : i = j
  · subst e
    rw [u2_s, if_pos rfl]
  · rw [u2_n (Or.inr e), if_neg e]
theorem ax_P_cpy {D : va_G} {cA : Nat → ClassId} {ad : Nat → Nat} {bs n a a0 k len len0 sp dp ln : Nat} {tg tg0 : List Nat} {sh : Nat → ax_S} {σ : Nat → Nat → Int} {H H1 : Heap} {E : va_E} (hP : ax_P D cA ad bs n sh σ H) (hs : a < n ∧ sh a = .inr (k, len, tg)) (hs0 : a0 < n ∧ sh a0 = .inr (k, len0, tg0)) (hE : E = ax_e cA ad (.inr (k, len, tg)) (z_cpy σ a0 a sp dp ln a)) (h1 : sp + ln ≤ len0)
    (h : va_P D vwCl ((ax_ws cA ad n sh σ).set a (ad a, E)) H1) (hd : va_D (ax_A bs) ((ax_ws cA ad n sh σ).set a (ad a, E))) : ax_P D cA ad bs n sh (z_cpy σ a0 a sp dp ln) H1 := by
  refine ⟨?_, ?_, fun b hb => ?_⟩
  · rw [ax_ws_set (τ := z_cpy σ a0 a sp dp ln) (e := E) (by rw [hs.2]; exact hE) (fun c hc => z_cpy_ne hc)] at h
    exact h
  · rw [ax_ws_set (τ := z_cpy σ a0 a sp dp ln) (e := E) (by rw [hs.2]; exact hE) (fun c hc => z_cpy_ne hc)] at hd
    exact hd
  · by_cases e : b = a
    · subst e
      have h0 := hP.2.2 b hb
      have h2 := hP.2.2 a0 hs0.1
      rw [hs.2] at h0 ⊢
      rw [hs0.2] at h2
      intro i hi
      by_cases e2 : dp ≤ i ∧ i < dp + ln
      · rw [show z_cpy σ a0 b sp dp ln b i = σ a0 (sp + (i - dp)) from if_pos ⟨rfl, e2⟩]
        exact h2 (sp + (i - dp)) (by omega)
      · rw [show z_cpy σ a0 b sp dp ln b i = σ b i from if_neg (fun q => e2 q.2)]
        exact h0 i hi
    · rw [z_cpy_ne e]
      exact hP.2.2 b hb
theorem ax_cpy (σ : Nat → Nat → Int) (a0 a sp dp n : Nat) : (fun i => Int32.ofInt (z_cpy σ a0 a sp dp n a i)) = va_cpy (fun i => Int32.ofInt (σ a0 i)) (fun i => Int32.ofInt (σ a i)) sp dp n := by
  funext i
  unfold va_cpy
  by_cases e : dp ≤ i ∧ i < dp + n
  · rw [if_pos e, show z_cpy σ a0 a sp dp n a i = σ a0 (sp + (i - dp)) from if_pos ⟨rfl, e⟩]
  · rw [if_neg e, show z_cpy σ a0 a sp dp n a i = σ a i from if_neg (fun q => e q.2)]
theorem ax_cpyL (σ : Nat → Nat → Int) (a0 a sp dp n : Nat) : (fun i => Int64.ofInt (z_cpy σ a0 a sp dp n a i)) = va_cpy (fun i => Int64.ofInt (σ a0 i)) (fun i => Int64.ofInt (σ a i)) sp dp n := by
  funext i
  unfold va_cpy
  by_cases e : dp ≤ i ∧ i < dp + n
  · rw [if_pos e, show z_cpy σ a0 a sp dp n a i = σ a0 (sp + (i - dp)) from if_pos ⟨rfl, e⟩]
  · rw [if_neg e, show z_cpy σ a0 a sp dp n a i = σ a i from if_neg (fun q => e q.2)]
theorem z_narB {x : Int} (h : -128 ≤ x ∧ x < 128) : vp_nar .byte (Int32.ofInt x) = Int32.ofInt x := by
  rw [vp_nar_byte]
  have hb : x = -128 ∨ -127 ≤ x := by omega
  have key : ∀ k : Fin 256, (Int32.ofInt ((k.val : Int) - 128)).toInt8.toInt32 = Int32.ofInt ((k.val : Int) - 128) := by decide +kernel
  have := key ⟨(x + 128).toNat, by omega⟩
  rw [show (((⟨(x + 128).toNat, by omega⟩ : Fin 256).val : Int) - 128) = x from by show (((x + 128).toNat : Int) - 128) = x; omega] at this
  exact this
theorem z_narZ {x : Int} (h : x = 0 ∨ x = 1) : vp_nar .boolean (Int32.ofInt x) = Int32.ofInt x := by rcases h with rfl | rfl <;> rfl
section AWM
variable {p : Program} {l : Launch} {e : Env} {R : Room} {s : State} {m : MethodId} {args : Array Value} {below : List Frame} {meth : Method} {c : Code} {D : va_G} {cA : Nat → ClassId} {sa : Nat → Nat} {ad : Nat → Nat} {bs n kc ks : Nat} {sh : Nat → ax_S} {Q : State → Prop} {cc : ByteArray} {nL pc : Nat} {own : String} {lv : List (Nat × Value)} {st : List Value} {σ : Nat → Nat → Int}
theorem aw_getI (X : AX p s m args meth c D cA sa bs cc nL own) {a ix ci j : Nat} {fs : List (Nat × Nat)} (hs : a < n ∧ sh a = .inl (ci, fs)) (hF : ax_fld own ix ci j fs.length) (hk : (fs.getD j (4, 0)).1 = 0) (d : decode cc pc = .ok (.getfield ix, 3)) (k : Z_I (σ a j) → AW p l e R s m args below meth c D cA ad bs n sh kc ks Q nL (pc + 3) lv (z_i (σ a j) :: st) σ) : AW p l e R s m args below meth c D cA ad bs n sh kc ks Q nL pc lv (.ref (ad a) :: st) σ :=
  fun H locs hP hS ls hl => by
    obtain ⟨C, T, hc, hin, hj, hlk⟩ := hF
    refine va_get X.1 X.2.1 X.2.2.2.2.1 hin X.2.2.2.1 X.2.2.2.2.2.1.1 hP.1 a (ax_ws_obj hs) hc j hj (X.2.2.2.2.1 _ hlk) (fun _ h => h) (ax_fs_get hj) d ?_
    have hR := hP.2.2 a hs.1
    rw [hs.2] at hR
    rw [ax_fv0 hk]
    exact k ((hR j hj).1 hk) H locs hP hS ls hl
theorem aw_getL (X : AX p s m args meth c D cA sa bs cc nL own) {a ix ci j : Nat} {fs : List (Nat × Nat)} (hs : a < n ∧ sh a = .inl (ci, fs)) (hF : ax_fld own ix ci j fs.length) (hk : (fs.getD j (4, 0)).1 = 1) (d : decode cc pc = .ok (.getfield ix, 3)) (k : Z_L (σ a j) → AW p l e R s m args below meth c D cA ad bs n sh kc ks Q nL (pc + 3) lv (z_v (σ a j) :: st) σ) : AW p l e R s m args below meth c D cA ad bs n sh kc ks Q nL pc lv (.ref (ad a) :: st) σ :=
  fun H locs hP hS ls hl => by
    obtain ⟨C, T, hc, hin, hj, hlk⟩ := hF
    refine va_get X.1 X.2.1 X.2.2.2.2.1 hin X.2.2.2.1 X.2.2.2.2.2.1.1 hP.1 a (ax_ws_obj hs) hc j hj (X.2.2.2.2.1 _ hlk) (fun _ h => h) (ax_fs_get hj) d ?_
    have hR := hP.2.2 a hs.1
    rw [hs.2] at hR
    rw [ax_fv1 hk]
    exact k ((hR j hj).2 hk) H locs hP hS ls hl
theorem aw_getR (X : AX p s m args meth c D cA sa bs cc nL own) {a ix ci j : Nat} {fs : List (Nat × Nat)} {t : Nat} (hs : a < n ∧ sh a = .inl (ci, fs)) (hF : ax_fld own ix ci j fs.length) (hk : fs.getD j (4, 0) = (2, t)) (d : decode cc pc = .ok (.getfield ix, 3)) (k : AW p l e R s m args below meth c D cA ad bs n sh kc ks Q nL (pc + 3) lv (.ref (ad t) :: st) σ) : AW p l e R s m args below meth c D cA ad bs n sh kc ks Q nL pc lv (.ref (ad a) :: st) σ :=
  fun H locs hP hS ls hl => by
    obtain ⟨C, T, hc, hin, hj, hlk⟩ := hF
    refine va_get X.1 X.2.1 X.2.2.2.2.1 hin X.2.2.2.1 X.2.2.2.2.2.1.1 hP.1 a (ax_ws_obj hs) hc j hj (X.2.2.2.2.1 _ hlk) (fun _ h => h) (ax_fs_get hj) d ?_
    have hR := hP.2.2 a hs.1
    rw [hs.2] at hR
    rw [ax_fv2 hk]
    exact k H locs hP hS ls hl
theorem aw_getV (X : AX p s m args meth c D cA sa bs cc nL own) {a ix ci j : Nat} {fs : List (Nat × Nat)} (hs : a < n ∧ sh a = .inl (ci, fs)) (hF : ax_fld own ix ci j fs.length) (hk : (fs.getD j (4, 0)).1 = 3) (d : decode cc pc = .ok (.getfield ix, 3)) (k : AW p l e R s m args below meth c D cA ad bs n sh kc ks Q nL (pc + 3) lv (.ref (ad ((σ a j).toNat)) :: st) σ) : AW p l e R s m args below meth c D cA ad bs n sh kc ks Q nL pc lv (.ref (ad a) :: st) σ :=
  fun H locs hP hS ls hl => by
    obtain ⟨C, T, hc, hin, hj, hlk⟩ := hF
    refine va_get X.1 X.2.1 X.2.2.2.2.1 hin X.2.2.2.1 X.2.2.2.2.2.1.1 hP.1 a (ax_ws_obj hs) hc j hj (X.2.2.2.2.1 _ hlk) (fun _ h => h) (ax_fs_get hj) d ?_
    have hR := hP.2.2 a hs.1
    rw [hs.2] at hR
    rw [ax_fv3 hk]
    exact k H locs hP hS ls hl
theorem aw_putI (X : AX p s m args meth c D cA sa bs cc nL own) {a ix ci j : Nat} {fs : List (Nat × Nat)} {x : Int} (hs : a < n ∧ sh a = .inl (ci, fs)) (hF : ax_fldP own ix ci j fs.length .int) (hk : (fs.getD j (4, 0)).1 = 0) (cx : Z_I x) (d : decode cc pc = .ok (.putfield ix, 3)) (k : AW p l e R s m args below meth c D cA ad bs n sh kc ks Q nL (pc + 3) lv st (u2 σ a j x)) : AW p l e R s m args below meth c D cA ad bs n sh kc ks Q nL pc lv (z_i x :: .ref (ad a) :: st) σ :=
  fun H locs hP hS ls hl => by
    obtain ⟨C, T, ty0, hc, hin, hj, hlk, hty, hnm, hfin, hpd⟩ := hF
    refine va_put X.1 X.2.1 X.2.2.2.2.1 hin ty0 hty hnm X.2.2.2.1 X.2.2.2.2.2.1.1 hP.1 hP.2.1 hS a (ax_ws_obj hs) hc j hj (X.2.2.2.2.1 _ hlk) (fun _ h => h) hfin hpd rfl rfl (by simpa using hj) d (fun H1 locs1 hP1 hD1 hS1 => ?_)
    exact k H1 locs1 (ax_P_put hP hs hj (ax_fv0 hk).symm ⟨fun _ => cx, fun h => absurd (hk.symm.trans h) (by decide)⟩ hP1 hD1) hS1 ls hl
theorem aw_putL (X : AX p s m args meth c D cA sa bs cc nL own) {a ix ci j : Nat} {fs : List (Nat × Nat)} {x : Int} (hs : a < n ∧ sh a = .inl (ci, fs)) (hF : ax_fldP own ix ci j fs.length .long) (hk : (fs.getD j (4, 0)).1 = 1) (cx : Z_L x) (d : decode cc pc = .ok (.putfield ix, 3)) (k : AW p l e R s m args below meth c D cA ad bs n sh kc ks Q nL (pc + 3) lv st (u2 σ a j x)) : AW p l e R s m args below meth c D cA ad bs n sh kc ks Q nL pc lv (z_v x :: .ref (ad a) :: st) σ :=
  fun H locs hP hS ls hl => by
    obtain ⟨C, T, ty0, hc, hin, hj, hlk, hty, hnm, hfin, hpd⟩ := hF
    refine va_put X.1 X.2.1 X.2.2.2.2.1 hin ty0 hty hnm X.2.2.2.1 X.2.2.2.2.2.1.1 hP.1 hP.2.1 hS a (ax_ws_obj hs) hc j hj (X.2.2.2.2.1 _ hlk) (fun _ h => h) hfin hpd rfl rfl (by simpa using hj) d (fun H1 locs1 hP1 hD1 hS1 => ?_)
    exact k H1 locs1 (ax_P_put hP hs hj (ax_fv1 hk).symm ⟨fun h => absurd (hk.symm.trans h) (by decide), fun _ => cx⟩ hP1 hD1) hS1 ls hl
theorem aw_putZ (X : AX p s m args meth c D cA sa bs cc nL own) {a ix ci j : Nat} {fs : List (Nat × Nat)} {x : Int} (hs : a < n ∧ sh a = .inl (ci, fs)) (hF : ax_fldP own ix ci j fs.length .boolean) (hk : (fs.getD j (4, 0)).1 = 0) (cb : x = 0 ∨ x = 1) (d : decode cc pc = .ok (.putfield ix, 3)) (k : AW p l e R s m args below meth c D cA ad bs n sh kc ks Q nL (pc + 3) lv st (u2 σ a j x)) : AW p l e R s m args below meth c D cA ad bs n sh kc ks Q nL pc lv (z_i x :: .ref (ad a) :: st) σ :=
  fun H locs hP hS ls hl => by
    obtain ⟨C, T, ty0, hc, hin, hj, hlk, hty, hnm, hfin, hpd⟩ := hF
    refine va_put X.1 X.2.1 X.2.2.2.2.1 hin ty0 hty hnm X.2.2.2.1 X.2.2.2.2.2.1.1 hP.1 hP.2.1 hS a (ax_ws_obj hs) hc j hj (X.2.2.2.2.1 _ hlk) (fun _ h => h) hfin hpd (by rcases cb with rfl | rfl <;> rfl) (by rcases cb with rfl | rfl <;> rfl) (by simpa using hj) d (fun H1 locs1 hP1 hD1 hS1 => ?_)
    exact k H1 locs1 (ax_P_put hP hs hj (ax_fv0 hk).symm ⟨fun _ => by rcases cb with rfl | rfl <;> (unfold Z_I; omega), fun h => absurd (hk.symm.trans h) (by decide)⟩ hP1 hD1) hS1 ls hl
theorem aw_putV (X : AX p s m args meth c D cA sa bs cc nL own) {a ix ci j : Nat} {fs : List (Nat × Nat)} {t : Nat} {CC : String} (hs : a < n ∧ sh a = .inl (ci, fs)) (hF : ax_fldP own ix ci j fs.length (.object CC)) (hk : (fs.getD j (4, 0)).1 = 3) (d : decode cc pc = .ok (.putfield ix, 3)) (k : AW p l e R s m args below meth c D cA ad bs n sh kc ks Q nL (pc + 3) lv st (u2 σ a j (t : Int))) : AW p l e R s m args below meth c D cA ad bs n sh kc ks Q nL pc lv (.ref (ad t) :: .ref (ad a) :: st) σ :=
  fun H locs hP hS ls hl => by
    obtain ⟨C, T, ty0, hc, hin, hj, hlk, hty, hnm, hfin, hpd⟩ := hF
    refine va_put X.1 X.2.1 X.2.2.2.2.1 hin ty0 hty hnm X.2.2.2.1 X.2.2.2.2.2.1.1 hP.1 hP.2.1 hS a (ax_ws_obj hs) hc j hj (X.2.2.2.2.1 _ hlk) (fun _ h => h) hfin hpd rfl rfl (by simpa using hj) d (fun H1 locs1 hP1 hD1 hS1 => ?_)
    exact k H1 locs1 (ax_P_put hP hs hj (ax_fv3 hk).symm ⟨fun h => absurd (hk.symm.trans h) (by decide), fun h => absurd (hk.symm.trans h) (by decide)⟩ hP1 hD1) hS1 ls hl
theorem aw_iald (X : AX p s m args meth c D cA sa bs cc nL own) {a len : Nat} {tg : List Nat} {i : Int} (hs : a < n ∧ sh a = .inr (0, len, tg)) (ci : Z_I i) (h0 : 0 ≤ i) (h1 : i < len) {j : Nat} (hj : i.toNat = j) (d : decode cc pc = .ok (.iaload, 1)) (k : Z_I (σ a j) → AW p l e R s m args below meth c D cA ad bs n sh kc ks Q nL (pc + 1) lv (z_i (σ a j) :: st) σ) : AW p l e R s m args below meth c D cA ad bs n sh kc ks Q nL pc lv (z_i i :: .ref (ad a) :: st) σ :=
  fun H locs hP hS ls hl => by
    subst hj
    refine va_iald X.1 X.2.1 X.2.2.2.2.2.1.1 hP.1 a 0 (ax_ws_arr hs) (by rfl) (z_in ci h0 h1) d ?_
    have hR := hP.2.2 a hs.1
    rw [hs.2] at hR
    have h2 : i.toNat < len := by omega
    rw [z_cl ci]
    exact k ((hR i.toNat h2).1 rfl) H locs hP hS ls hl
theorem aw_lald (X : AX p s m args meth c D cA sa bs cc nL own) {a len : Nat} {tg : List Nat} {i : Int} (hs : a < n ∧ sh a = .inr (1, len, tg)) (ci : Z_I i) (h0 : 0 ≤ i) (h1 : i < len) {j : Nat} (hj : i.toNat = j) (d : decode cc pc = .ok (.laload, 1)) (k : Z_L (σ a j) → AW p l e R s m args below meth c D cA ad bs n sh kc ks Q nL (pc + 1) lv (z_v (σ a j) :: st) σ) : AW p l e R s m args below meth c D cA ad bs n sh kc ks Q nL pc lv (z_i i :: .ref (ad a) :: st) σ :=
  fun H locs hP hS ls hl => by
    subst hj
    refine va_lald X.1 X.2.1 X.2.2.2.2.2.1.1 hP.1 a 1 (ax_ws_arr hs) (by rfl) (z_in ci h0 h1) d ?_
    have hR := hP.2.2 a hs.1
    rw [hs.2] at hR
    have h2 : i.toNat < len := by omega
    rw [z_cl ci]
    exact k ((hR i.toNat h2).2.1 rfl) H locs hP hS ls hl
theorem aw_bald (X : AX p s m args meth c D cA sa bs cc nL own) {a len : Nat} {tg : List Nat} {i : Int} (hs : a < n ∧ sh a = .inr (2, len, tg)) (ci : Z_I i) (h0 : 0 ≤ i) (h1 : i < len) {j : Nat} (hj : i.toNat = j) (d : decode cc pc = .ok (.baload, 1)) (k : -128 ≤ σ a j ∧ σ a j < 128 → AW p l e R s m args below meth c D cA ad bs n sh kc ks Q nL (pc + 1) lv (z_i (σ a j) :: st) σ) : AW p l e R s m args below meth c D cA ad bs n sh kc ks Q nL pc lv (z_i i :: .ref (ad a) :: st) σ :=
  fun H locs hP hS ls hl => by
    subst hj
    refine va_bald X.1 X.2.1 X.2.2.2.2.2.1.1 hP.1 a 2 (ax_ws_arr hs) (by rfl) (z_in ci h0 h1) d ?_
    have hR := hP.2.2 a hs.1
    rw [hs.2] at hR
    have h2 : i.toNat < len := by omega
    rw [z_cl ci]
    exact k ((hR i.toNat h2).2.2.1 rfl) H locs hP hS ls hl
theorem aw_zald (X : AX p s m args meth c D cA sa bs cc nL own) {a len : Nat} {tg : List Nat} {i : Int} (hs : a < n ∧ sh a = .inr (3, len, tg)) (ci : Z_I i) (h0 : 0 ≤ i) (h1 : i < len) {j : Nat} (hj : i.toNat = j) (d : decode cc pc = .ok (.baload, 1)) (k : σ a j = 0 ∨ σ a j = 1 → AW p l e R s m args below meth c D cA ad bs n sh kc ks Q nL (pc + 1) lv (z_i (σ a j) :: st) σ) : AW p l e R s m args below meth c D cA ad bs n sh kc ks Q nL pc lv (z_i i :: .ref (ad a) :: st) σ :=
  fun H locs hP hS ls hl => by
    subst hj
    refine va_zald X.1 X.2.1 X.2.2.2.2.2.1.1 hP.1 a 3 (ax_ws_arr hs) (by rfl) (z_in ci h0 h1) d ?_
    have hR := hP.2.2 a hs.1
    rw [hs.2] at hR
    have h2 : i.toNat < len := by omega
    rw [z_cl ci]
    exact k ((hR i.toNat h2).2.2.2 rfl) H locs hP hS ls hl
theorem aw_iast (X : AX p s m args meth c D cA sa bs cc nL own) {a len : Nat} {tg : List Nat} {i x : Int} (hs : a < n ∧ sh a = .inr (0, len, tg)) (ci : Z_I i) (h0 : 0 ≤ i) (h1 : i < len) {j : Nat} (hj : i.toNat = j) (cx : Z_I x) (d : decode cc pc = .ok (.iastore, 1)) (k : AW p l e R s m args below meth c D cA ad bs n sh kc ks Q nL (pc + 1) lv st (u2 σ a j x)) : AW p l e R s m args below meth c D cA ad bs n sh kc ks Q nL pc lv (z_i x :: z_i i :: .ref (ad a) :: st) σ :=
  fun H locs hP hS ls hl => by
    subst hj
    refine va_iast X.1 X.2.1 X.2.2.2.2.2.1.1 hP.1 hP.2.1 hS a 0 (ax_ws_arr hs) (by rfl) (z_in ci h0 h1) d (fun H1 locs1 hP1 hD1 hS1 => ?_)
    rw [z_cl ci] at hP1 hD1
    exact k H1 locs1 (ax_P_set hP hs (congrArg (fun f => (Sum.inl (cA 0, len, Sum.inl f) : va_E)) (ax_upd σ a i.toNat x).symm) ⟨fun _ => cx, fun h => absurd h (by decide), fun h => absurd h (by decide), fun h => absurd h (by decide)⟩ hP1 hD1) hS1 ls hl
theorem aw_last (X : AX p s m args meth c D cA sa bs cc nL own) {a len : Nat} {tg : List Nat} {i x : Int} (hs : a < n ∧ sh a = .inr (1, len, tg)) (ci : Z_I i) (h0 : 0 ≤ i) (h1 : i < len) {j : Nat} (hj : i.toNat = j) (cx : Z_L x) (d : decode cc pc = .ok (.lastore, 1)) (k : AW p l e R s m args below meth c D cA ad bs n sh kc ks Q nL (pc + 1) lv st (u2 σ a j x)) : AW p l e R s m args below meth c D cA ad bs n sh kc ks Q nL pc lv (z_v x :: z_i i :: .ref (ad a) :: st) σ :=
  fun H locs hP hS ls hl => by
    subst hj
    refine va_last X.1 X.2.1 X.2.2.2.2.2.1.1 hP.1 hP.2.1 hS a 1 (ax_ws_arr hs) (by rfl) (z_in ci h0 h1) d (fun H1 locs1 hP1 hD1 hS1 => ?_)
    rw [z_cl ci] at hP1 hD1
    exact k H1 locs1 (ax_P_set hP hs (congrArg (fun f => (Sum.inl (cA 1, len, Sum.inr (Sum.inl f)) : va_E)) (ax_updL σ a i.toNat x).symm) ⟨fun h => absurd h (by decide), fun _ => cx, fun h => absurd h (by decide), fun h => absurd h (by decide)⟩ hP1 hD1) hS1 ls hl
theorem aw_bast (X : AX p s m args meth c D cA sa bs cc nL own) {a len : Nat} {tg : List Nat} {i x : Int} (hs : a < n ∧ sh a = .inr (2, len, tg)) (ci : Z_I i) (h0 : 0 ≤ i) (h1 : i < len) {j : Nat} (hj : i.toNat = j) (cx : -128 ≤ x ∧ x < 128) (d : decode cc pc = .ok (.bastore, 1)) (k : AW p l e R s m args below meth c D cA ad bs n sh kc ks Q nL (pc + 1) lv st (u2 σ a j x)) : AW p l e R s m args below meth c D cA ad bs n sh kc ks Q nL pc lv (z_i x :: z_i i :: .ref (ad a) :: st) σ :=
  fun H locs hP hS ls hl => by
    subst hj
    refine va_bast X.1 X.2.1 X.2.2.2.2.2.1.1 hP.1 hP.2.1 hS a 2 (ax_ws_arr hs) (by rfl) (z_in ci h0 h1) d (fun H1 locs1 hP1 hD1 hS1 => ?_)
    rw [z_cl ci, z_narB cx] at hP1 hD1
    exact k H1 locs1 (ax_P_set hP hs (congrArg (fun f => (Sum.inl (cA 2, len, Sum.inl f) : va_E)) (ax_upd σ a i.toNat x).symm) ⟨fun h => absurd h (by decide), fun h => absurd h (by decide), fun _ => cx, fun h => absurd h (by decide)⟩ hP1 hD1) hS1 ls hl
theorem aw_zast (X : AX p s m args meth c D cA sa bs cc nL own) {a len : Nat} {tg : List Nat} {i x : Int} (hs : a < n ∧ sh a = .inr (3, len, tg)) (ci : Z_I i) (h0 : 0 ≤ i) (h1 : i < len) {j : Nat} (hj : i.toNat = j) (cx : x = 0 ∨ x = 1) (d : decode cc pc = .ok (.bastore, 1)) (k : AW p l e R s m args below meth c D cA ad bs n sh kc ks Q nL (pc + 1) lv st (u2 σ a j x)) : AW p l e R s m args below meth c D cA ad bs n sh kc ks Q nL pc lv (z_i x :: z_i i :: .ref (ad a) :: st) σ :=
  fun H locs hP hS ls hl => by
    subst hj
    refine va_zast X.1 X.2.1 X.2.2.2.2.2.1.1 hP.1 hP.2.1 hS a 3 (ax_ws_arr hs) (by rfl) (z_in ci h0 h1) d (fun H1 locs1 hP1 hD1 hS1 => ?_)
    rw [z_cl ci, z_narZ cx] at hP1 hD1
    exact k H1 locs1 (ax_P_set hP hs (congrArg (fun f => (Sum.inl (cA 3, len, Sum.inl f) : va_E)) (ax_upd σ a i.toNat x).symm) ⟨fun h => absurd h (by decide), fun h => absurd h (by decide), fun h => absurd h (by decide), fun _ => cx⟩ hP1 hD1) hS1 ls hl
theorem aw_aald (X : AX p s m args meth c D cA sa bs cc nL own) {a len kd t : Nat} {tg : List Nat} {i : Int} (hs : a < n ∧ sh a = .inr (kd + 4, len, tg)) (hkd : kd < 4) (ci : Z_I i) (h0 : 0 ≤ i) (h1 : i < len) (ht : tg[i.toNat]? = some t) (d : decode cc pc = .ok (.aaload, 1)) (k : AW p l e R s m args below meth c D cA ad bs n sh kc ks Q nL (pc + 1) lv (.ref (ad t) :: st) σ) : AW p l e R s m args below meth c D cA ad bs n sh kc ks Q nL pc lv (z_i i :: .ref (ad a) :: st) σ :=
  fun H locs hP hS ls hl => by
    have ha := ax_ws_arr (cA := cA) (ad := ad) (σ := σ) hs
    have hin : vp_in (Int32.ofInt i) len := z_in ci h0 h1
    have hlt : (Int32.ofInt i).toNatClampNeg < len := Nat.not_le.mp fun q => hin (Or.inr q)
    obtain ⟨ty, hty, hrf⟩ : ∃ ty : FieldType, (ax_tys cA)[kd + 4]? = some (cA (kd + 4), ty) ∧ ty.isReference = true := by
      have : kd = 0 ∨ kd = 1 ∨ kd = 2 ∨ kd = 3 := by omega
      rcases this with rfl | rfl | rfl | rfl <;> exact ⟨_, rfl, rfl⟩
    refine W.aald (v := .ref (ad t)) (ty := ty) X.1 X.2.1 (hP.1 a _ ha) ((X.2.2.2.2.2.1.1.2 (kd + 4) _ hty).1 len (fun j => va_rf ((tg[j]?).map ad))) hrf (fun q => by cases q) (by show ¬ (Int32.ofInt i < 0 ∨ (arrV _ _ _).slots.size ≤ _); rw [arrV_size]; exact hin) (by show (arrV _ _ _).slots[_]? = _; rw [arrV_read _ _ hlt, z_cl ci]; show some (va_rf ((tg[i.toNat]?).map ad)) = _; rw [ht]; rfl) rfl rfl d (k H locs hP hS ls hl)
theorem aw_alenI (X : AX p s m args meth c D cA sa bs cc nL own) {a len : Nat} {tg : List Nat} (hs : a < n ∧ sh a = .inr (0, len, tg)) {x : Int} (hx : (len : Int) = x) (d : decode cc pc = .ok (.arraylength, 1)) (k : AW p l e R s m args below meth c D cA ad bs n sh kc ks Q nL (pc + 1) lv (z_i x :: st) σ) : AW p l e R s m args below meth c D cA ad bs n sh kc ks Q nL pc lv (.ref (ad a) :: st) σ :=
  fun H locs hP hS ls hl => by
    subst hx
    exact va_alen X.1 X.2.1 X.2.2.2.2.2.1.1 hP.1 a 0 (ax_ws_arr hs) (by rfl) (Int32.ofInt_eq_ofNat).symm d (k H locs hP hS ls hl)
theorem aw_alenL (X : AX p s m args meth c D cA sa bs cc nL own) {a len : Nat} {tg : List Nat} (hs : a < n ∧ sh a = .inr (1, len, tg)) {x : Int} (hx : (len : Int) = x) (d : decode cc pc = .ok (.arraylength, 1)) (k : AW p l e R s m args below meth c D cA ad bs n sh kc ks Q nL (pc + 1) lv (z_i x :: st) σ) : AW p l e R s m args below meth c D cA ad bs n sh kc ks Q nL pc lv (.ref (ad a) :: st) σ :=
  fun H locs hP hS ls hl => by
    subst hx
    exact va_alen X.1 X.2.1 X.2.2.2.2.2.1.1 hP.1 a 1 (ax_ws_arr hs) (by rfl) (Int32.ofInt_eq_ofNat).symm d (k H locs hP hS ls hl)
theorem aw_alenR (X : AX p s m args meth c D cA sa bs cc nL own) {a len kd : Nat} {tg : List Nat} (hs : a < n ∧ sh a = .inr (kd + 4, len, tg)) (hkd : kd < 4) {x : Int} (hx : (len : Int) = x) (d : decode cc pc = .ok (.arraylength, 1)) (k : AW p l e R s m args below meth c D cA ad bs n sh kc ks Q nL (pc + 1) lv (z_i x :: st) σ) : AW p l e R s m args below meth c D cA ad bs n sh kc ks Q nL pc lv (.ref (ad a) :: st) σ :=
  fun H locs hP hS ls hl => by
    subst hx
    obtain ⟨ty, hty⟩ : ∃ ty : FieldType, (ax_tys cA)[kd + 4]? = some (cA (kd + 4), ty) := by
      have : kd = 0 ∨ kd = 1 ∨ kd = 2 ∨ kd = 3 := by omega
      rcases this with rfl | rfl | rfl | rfl <;> exact ⟨_, rfl⟩
    exact va_alen X.1 X.2.1 X.2.2.2.2.2.1.1 hP.1 a (kd + 4) (ax_ws_arr hs) hty (Int32.ofInt_eq_ofNat).symm d (k H locs hP hS ls hl)
/-- a static row: which one, read at i -/
theorem aw_gets (X : AX p s m args meth c D cA sa bs cc nL own) {ix r : Nat} {q : String × String × List Int} (hq : ax_st[r]? = some q) (hw : Cond.fieldLink own ix q.1 q.2.1 "[I" ∈ ax_T) (d : decode cc pc = .ok (.getstatic ix, 3)) (k : AW p l e R s m args below meth c D cA ad bs n sh kc ks Q nL (pc + 3) lv (.ref (sa r) :: st) σ) : AW p l e R s m args below meth c D cA ad bs n sh kc ks Q nL pc lv st σ :=
  fun H locs hP hS ls hl => va_gets X.1 X.2.1 (X.2.2.2.2.2.1.2.2.1.1 r q hq).1 hS X.2.2.2.1 (X.2.2.2.2.1 _ hw) (fun _ h => h) d (k H locs hP hS ls hl)
theorem aw_getsN (X : AX p s m args meth c D cA sa bs cc nL own) {ix r : Nat} {host : String} {q : String × String × List Int} (hq : ax_st[r]? = some q) (hw : Cond.fieldLinkNest own ix q.1 q.2.1 "[I" host ∈ ax_N) (d : decode cc pc = .ok (.getstatic ix, 3)) (k : AW p l e R s m args below meth c D cA ad bs n sh kc ks Q nL (pc + 3) lv (.ref (sa r) :: st) σ) : AW p l e R s m args below meth c D cA ad bs n sh kc ks Q nL pc lv st σ :=
  fun H locs hP hS ls hl => va_getsN X.1 X.2.1 (X.2.2.2.2.2.1.2.2.1.1 r q hq).1 hS X.2.2.2.1 ((X.2.2.2.2.2.1.2.1 _ hw).use rfl) (fun _ h => h) d (k H locs hP hS ls hl)
theorem aw_sald (X : AX p s m args meth c D cA sa bs cc nL own) {r : Nat} {i : Int} {q : String × String × List Int} (hq : ax_st[r]? = some q) (ci : Z_I i) (h0 : 0 ≤ i) (h1 : i < q.2.2.length) {x : Int} (hx : q.2.2.getD i.toNat 0 = x) (d : decode cc pc = .ok (.iaload, 1)) (k : AW p l e R s m args below meth c D cA ad bs n sh kc ks Q nL (pc + 1) lv (z_i x :: st) σ) : AW p l e R s m args below meth c D cA ad bs n sh kc ks Q nL pc lv (z_i i :: .ref (sa r) :: st) σ :=
  fun H locs hP hS ls hl => by
    subst hx
    exact va_ti X.1 X.2.1 (X.2.2.2.2.2.1.2.2.1.1 r q hq).2 hS (z_in ci h0 h1) (by rw [z_cl ci]) d (k H locs hP hS ls hl)
theorem aw_slen (X : AX p s m args meth c D cA sa bs cc nL own) {r : Nat} {q : String × String × List Int} (hq : ax_st[r]? = some q) {x : Int} (hx : (q.2.2.length : Int) = x) (d : decode cc pc = .ok (.arraylength, 1)) (k : AW p l e R s m args below meth c D cA ad bs n sh kc ks Q nL (pc + 1) lv (z_i x :: st) σ) : AW p l e R s m args below meth c D cA ad bs n sh kc ks Q nL pc lv (.ref (sa r) :: st) σ :=
  fun H locs hP hS ls hl => by
    subst hx
    exact va_tlen X.1 X.2.1 (X.2.2.2.2.2.1.2.2.1.1 r q hq).2 hS (Int32.ofInt_eq_ofNat).symm d (k H locs hP hS ls hl)
theorem aw_max (X : AX p s m args meth c D cA sa bs cc nL own) {ix : Nat} {x y : Int} (cx : Z_I x) (cy : Z_I y) (hw : Cond.methodLink own ix Lib.Math.max.name ∈ ax_T ∧ Cond.static Lib.Math.max.name ∈ ax_T ∧ Cond.initialized "java/lang/Math" ∈ ax_T ∧ Cond.code Lib.Math.max.name Lib.Math.max.code 2 (some .int) ∈ ax_T) (hR : 1 ≤ R.frames ∧ (st.map fun v => v.category).sum + 13 ≤ R.locals ∧ kc ≤ R.cells ∧ ks ≤ R.slots) (d : decode cc pc = .ok (.invokestatic ix, 3)) (k : AW p l e R s m args below meth c D cA ad bs n sh kc ks Q nL (pc + 3) lv (z_i (max x y) :: st) σ) : AW p l e R s m args below meth c D cA ad bs n sh kc ks Q nL pc lv (z_i y :: z_i x :: st) σ :=
  fun H locs hP hS ls hl => va_mmax X.1 X.2.1 (X.2.2.1.trans hl.1.symm) X.2.2.2.1 (X.2.2.2.2.1 _ hw.1) (X.2.2.2.2.1 _ hw.2.1) (X.2.2.2.2.1 _ hw.2.2.1) (X.2.2.2.2.1 _ hw.2.2.2) hR.1 hR.2.1 hR.2.2.1 hR.2.2.2 d (by
    have e : (if (Int32.ofInt x) < (Int32.ofInt y) then (Int32.ofInt y) else (Int32.ofInt x) : Int32) = Int32.ofInt (max x y) := by
      by_cases h : x < y
      · rw [if_pos ((z_lt cx cy).mpr h), show max x y = y from by omega]
      · rw [if_neg (fun q => h ((z_lt cx cy).mp q)), show max x y = x from by omega]
    rw [e]
    exact k H locs hP hS ls hl)
theorem aw_min (X : AX p s m args meth c D cA sa bs cc nL own) {ix : Nat} {x y : Int} (cx : Z_I x) (cy : Z_I y) (hw : Cond.methodLink own ix Lib.Math.min.name ∈ ax_T ∧ Cond.static Lib.Math.min.name ∈ ax_T ∧ Cond.initialized "java/lang/Math" ∈ ax_T ∧ Cond.code Lib.Math.min.name Lib.Math.min.code 2 (some .int) ∈ ax_T) (hR : 1 ≤ R.frames ∧ (st.map fun v => v.category).sum + 13 ≤ R.locals ∧ kc ≤ R.cells ∧ ks ≤ R.slots) (d : decode cc pc = .ok (.invokestatic ix, 3)) (k : AW p l e R s m args below meth c D cA ad bs n sh kc ks Q nL (pc + 3) lv (z_i (min x y) :: st) σ) : AW p l e R s m args below meth c D cA ad bs n sh kc ks Q nL pc lv (z_i y :: z_i x :: st) σ :=
  fun H locs hP hS ls hl => va_mmin X.1 X.2.1 (X.2.2.1.trans hl.1.symm) X.2.2.2.1 (X.2.2.2.2.1 _ hw.1) (X.2.2.2.2.1 _ hw.2.1) (X.2.2.2.2.1 _ hw.2.2.1) (X.2.2.2.2.1 _ hw.2.2.2) hR.1 hR.2.1 hR.2.2.1 hR.2.2.2 d (by
    have e : (if (Int32.ofInt y) < (Int32.ofInt x) then (Int32.ofInt y) else (Int32.ofInt x) : Int32) = Int32.ofInt (min x y) := by
      by_cases h : y < x
      · rw [if_pos ((z_lt cy cx).mpr h), show min x y = y from by omega]
      · rw [if_neg (fun q => h ((z_lt cy cx).mp q)), show min x y = x from by omega]
    rw [e]
    exact k H locs hP hS ls hl)
theorem aw_cpyI (X : AX p s m args meth c D cA sa bs cc nL own) {a a0 len len0 ix : Nat} {tg tg0 : List Nat} {sp dp ln : Int} (hw : Cond.methodLink own ix arraycopyName ∈ ax_T ∧ Cond.native arraycopyName ∈ ax_T ∧ Cond.static arraycopyName ∈ ax_T ∧ Cond.initialized "java/lang/System" ∈ ax_T) (hs0 : a0 < n ∧ sh a0 = .inr (0, len0, tg0)) (hs : a < n ∧ sh a = .inr (0, len, tg)) (c1 : Z_I sp) (c2 : Z_I dp) (c3 : Z_I ln) (h1 : 0 ≤ sp) (h2 : 0 ≤ dp) (h3 : 0 ≤ ln) (h4 : sp + ln ≤ len0) (h5 : dp + ln ≤ len) (hR : 1 ≤ R.frames ∧ (st.map fun v => v.category).sum + (nativeFrameWords "java/lang/System" "arraycopy" 5 + 11) ≤ R.locals) (d : decode cc pc = .ok (.invokestatic ix, 3)) (k : AW p l e R s m args below meth c D cA ad bs n sh kc ks Q nL (pc + 3) lv st (z_cpy σ a0 a sp.toNat dp.toNat ln.toNat)) : AW p l e R s m args below meth c D cA ad bs n sh kc ks Q nL pc lv (z_i ln :: z_i dp :: .ref (ad a) :: z_i sp :: .ref (ad a0) :: st) σ :=
  fun H locs hP hS ls hl => by
    have ng : ∀ {x : Int}, Z_I x → 0 ≤ x → ¬ Int32.ofInt x < 0 := fun {x} hx h q => by
      rw [← z_0, z_lt hx Z_I0] at q
      omega
    refine va_copyi X.1 X.2.1 (X.2.2.1.trans hl.1.symm) X.2.2.2.1 (X.2.2.2.2.1 _ hw.1) (X.2.2.2.2.1 _ hw.2.1) (X.2.2.2.2.1 _ hw.2.2.1) (X.2.2.2.2.1 _ hw.2.2.2) X.2.2.2.2.2.1.1 hP.1 hP.2.1 hS a0 a 0 0 (ax_ws_arr hs0) (ax_ws_arr hs) (by rfl) (by rfl) rfl (ng c1 h1) (ng c2 h2) (ng c3 h3) (by rw [z_cl c1, z_cl c3]; omega) (by rw [z_cl c2, z_cl c3]; omega) (fun i _ => rfl) hR.1 hR.2 d (fun H1 locs1 hP1 hD1 hS1 => ?_)
    rw [z_cl c1, z_cl c2, z_cl c3] at hP1 hD1
    exact k H1 locs1 (ax_P_cpy hP hs hs0 (congrArg (fun f => (Sum.inl (cA 0, len, Sum.inl f) : va_E)) (ax_cpy σ a0 a sp.toNat dp.toNat ln.toNat).symm) (by omega) hP1 hD1) hS1 ls hl
theorem aw_cpyL (X : AX p s m args meth c D cA sa bs cc nL own) {a a0 len len0 ix : Nat} {tg tg0 : List Nat} {sp dp ln : Int} (hw : Cond.methodLink own ix arraycopyName ∈ ax_T ∧ Cond.native arraycopyName ∈ ax_T ∧ Cond.static arraycopyName ∈ ax_T ∧ Cond.initialized "java/lang/System" ∈ ax_T) (hs0 : a0 < n ∧ sh a0 = .inr (1, len0, tg0)) (hs : a < n ∧ sh a = .inr (1, len, tg)) (c1 : Z_I sp) (c2 : Z_I dp) (c3 : Z_I ln) (h1 : 0 ≤ sp) (h2 : 0 ≤ dp) (h3 : 0 ≤ ln) (h4 : sp + ln ≤ len0) (h5 : dp + ln ≤ len) (hR : 1 ≤ R.frames ∧ (st.map fun v => v.category).sum + (nativeFrameWords "java/lang/System" "arraycopy" 5 + 11) ≤ R.locals) (d : decode cc pc = .ok (.invokestatic ix, 3)) (k : AW p l e R s m args below meth c D cA ad bs n sh kc ks Q nL (pc + 3) lv st (z_cpy σ a0 a sp.toNat dp.toNat ln.toNat)) : AW p l e R s m args below meth c D cA ad bs n sh kc ks Q nL pc lv (z_i ln :: z_i dp :: .ref (ad a) :: z_i sp :: .ref (ad a0) :: st) σ :=
  fun H locs hP hS ls hl => by
    have ng : ∀ {x : Int}, Z_I x → 0 ≤ x → ¬ Int32.ofInt x < 0 := fun {x} hx h q => by
      rw [← z_0, z_lt hx Z_I0] at q
      omega
    refine va_copyl X.1 X.2.1 (X.2.2.1.trans hl.1.symm) X.2.2.2.1 (X.2.2.2.2.1 _ hw.1) (X.2.2.2.2.1 _ hw.2.1) (X.2.2.2.2.1 _ hw.2.2.1) (X.2.2.2.2.1 _ hw.2.2.2) X.2.2.2.2.2.1.1 hP.1 hP.2.1 hS a0 a 1 1 (ax_ws_arr hs0) (ax_ws_arr hs) (by rfl) (by rfl) rfl (ng c1 h1) (ng c2 h2) (ng c3 h3) (by rw [z_cl c1, z_cl c3]; omega) (by rw [z_cl c2, z_cl c3]; omega) (fun i _ => rfl) hR.1 hR.2 d (fun H1 locs1 hP1 hD1 hS1 => ?_)
    rw [z_cl c1, z_cl c2, z_cl c3] at hP1 hD1
    exact k H1 locs1 (ax_P_cpy hP hs hs0 (congrArg (fun f => (Sum.inl (cA 1, len, Sum.inr (Sum.inl f)) : va_E)) (ax_cpyL σ a0 a sp.toNat dp.toNat ln.toNat).symm) (by omega) hP1 hD1) hS1 ls hl
/-- a method's end: its answer rv, the memory τ -/
def ax_Qc (D : va_G) (cA : Nat → ClassId) (ad : Nat → Nat) (bs n : Nat) (sh : Nat → ax_S) (rv : Option Value) (PF : Prop) (τ : Nat → Nat → Int) : Array Value → State → Outcome → State → Prop := fun _ st o t => (o = .returned rv ∧ PF) ∧ ax_P D cA ad bs n sh τ t.heap ∧ va_F (ax_A bs) st t
abbrev ax_MQ (below : List Frame) (args : Array Value) (s : State) (D : va_G) (cA : Nat → ClassId) (ad : Nat → Nat) (bs n : Nat) (sh : Nat → ax_S) (kc ks : Nat) (rv : Option Value) (PF : Prop) (τ : Nat → Nat → Int) : State → Prop := MQ below (ax_Qc D cA ad bs n sh rv PF τ) args s kc ks (ax_A bs)
theorem aw_iret (X : AX p s m args meth c D cA sa bs cc nL own) {r : Int} {rv : Option Value} {PF : Prop} (hp : PF) (hr : meth.sig.returnType = some .int) (hrv : rv = some (z_i r)) (d : decode cc pc = .ok (.ireturn, 1)) : AW p l e R s m args below meth c D cA ad bs n sh kc ks (ax_MQ below args s D cA ad bs n sh kc ks rv PF σ) nL pc lv [z_i r] σ :=
  fun H locs hP hS ls hl => by
    subst hrv
    exact W.iret X.1 X.2.1 hr (fun t ht _ => ⟨⟨rfl, hp⟩, by rw [ht]; exact hP, hS.F ht⟩) hS.2.2 d X.2.2.2.2.2.2
theorem aw_zret (X : AX p s m args meth c D cA sa bs cc nL own) {r : Int} {rv : Option Value} {PF : Prop} (hp : PF) (hr : meth.sig.returnType = some .boolean) (cb : r = 0 ∨ r = 1) (hrv : rv = some (z_i r)) (d : decode cc pc = .ok (.ireturn, 1)) : AW p l e R s m args below meth c D cA ad bs n sh kc ks (ax_MQ below args s D cA ad bs n sh kc ks rv PF σ) nL pc lv [z_i r] σ :=
  fun H locs hP hS ls hl => by
    subst hrv
    exact W.zret X.1 X.2.1 hr (by rcases cb with rfl | rfl <;> rfl) (fun t ht _ => ⟨⟨rfl, hp⟩, by rw [ht]; exact hP, hS.F ht⟩) hS.2.2 d X.2.2.2.2.2.2
theorem aw_lret (X : AX p s m args meth c D cA sa bs cc nL own) {r : Int} {rv : Option Value} {PF : Prop} (hp : PF) (hr : meth.sig.returnType = some .long) (hrv : rv = some (z_v r)) (d : decode cc pc = .ok (.lreturn, 1)) : AW p l e R s m args below meth c D cA ad bs n sh kc ks (ax_MQ below args s D cA ad bs n sh kc ks rv PF σ) nL pc lv [z_v r] σ :=
  fun H locs hP hS ls hl => by
    subst hrv
    exact W.lret X.1 X.2.1 hr (fun t ht _ => ⟨⟨rfl, hp⟩, by rw [ht]; exact hP, hS.F ht⟩) hS.2.2 d X.2.2.2.2.2.2
theorem aw_vret (X : AX p s m args meth c D cA sa bs cc nL own) {rv : Option Value} {PF : Prop} (hp : PF) (hr : meth.sig.returnType = none) (hrv : rv = none) (d : decode cc pc = .ok (.return_, 1)) : AW p l e R s m args below meth c D cA ad bs n sh kc ks (ax_MQ below args s D cA ad bs n sh kc ks rv PF σ) nL pc lv [] σ :=
  fun H locs hP hS ls hl => by
    subst hrv
    exact W.vret X.1 X.2.1 hr (fun t ht _ => ⟨⟨rfl, hp⟩, by rw [ht]; exact hP, hS.F ht⟩) hS.2.2 d X.2.2.2.2.2.2
theorem aw_aret (X : AX p s m args meth c D cA sa bs cc nL own) {t0 : Nat} {CC : String} {rv : Option Value} {PF : Prop} (hp : PF) (hr : meth.sig.returnType = some (.object CC)) (hrv : rv = some (.ref (ad t0))) (d : decode cc pc = .ok (.areturn, 1)) : AW p l e R s m args below meth c D cA ad bs n sh kc ks (ax_MQ below args s D cA ad bs n sh kc ks rv PF σ) nL pc lv [.ref (ad t0)] σ :=
  fun H locs hP hS ls hl => by
    subst hrv
    exact W.aret X.1 X.2.1 hr (Or.inl ⟨_, rfl⟩) (Or.inr ⟨_, rfl⟩) (fun t ht _ => ⟨⟨rfl, hp⟩, by rw [ht]; exact hP, hS.F ht⟩) hS.2.2 d X.2.2.2.2.2.2
end AWM
/-- a method's contract: from these arguments and the memory σ, d calls deep, it returns rv and leaves τ -/
def AM (l : Launch) (D : va_G) (cA : Nat → ClassId) (sa : Nat → Nat) (ad : Nat → Nat) (bs n : Nat) (sh : Nat → ax_S) (y : MethodName) (cc : ByteArray) (nL : Nat) (ret : Option FieldType) (d : Nat) (av : List Value) (σ : Nat → Nat → Int) (rv : Option Value) (PF : Prop) (τ : Nat → Nat → Int) : Prop :=
  Met l y (Cond.code y cc nL ret :: ax_T) (ax_rm d 0 0) (va_Pc av (fun U => ax_P D cA ad bs n sh σ U.heap ∧ ax_F D cA sa bs U)) (ax_Qc D cA ad bs n sh rv PF τ) 0 0 (ax_A bs)
theorem am_of {l : Launch} {D : va_G} {cA : Nat → ClassId} {sa ad : Nat → Nat} {bs n : Nat} {sh : Nat → ax_S} {y : MethodName} {cc : ByteArray} {nL : Nat} {ret : Option FieldType} {d : Nat} {av : List Value} {σ τ : Nat → Nat → Int} {rv : Option Value} {PF : Prop} (hy : plainName y.cls = true) (hlen : (lg_sl av).length ≤ nL)
    (body : ∀ (p : Program) (e : Env) (s : State) (m : MethodId) (args : Array Value) (below : List Frame) (meth : Method) (c : Code), AX p s m args meth c D cA sa bs cc nL y.cls → meth.sig.returnType = ret → AW p l e (ax_rm d 0 0) s m args below meth c D cA ad bs n sh 0 0 (ax_MQ below args s D cA ad bs n sh 0 0 rv PF τ) nL 0 (lv_args 0 av) [] σ) : AM l D cA sa ad bs n sh y cc nL ret d av σ rv PF τ := by
  refine Met.ofW (cc := cc) (maxL := nL) (ret := ret) hy rfl ?_
  intro p e s m args below meth c s₁ B hml hv
  obtain ⟨rfl, hP, hF⟩ := hv
  have hts := atoms_spec (ws := Cond.code y cc nL ret :: ax_T) B.pre
  have X : AX p s m av.toArray meth c D cA sa bs cc nL y.cls := ⟨B.exec, B.bytes, hml, findClass_of_methodNamed B.named, fun w hw => hts w (List.mem_cons_of_mem _ hw), hF, B.notSynchronized⟩
  rw [lg_entry_eq]
  exact body p e s m _ below meth c X B.returns s.heap [] hP va_S.rf _ (lv_entry av hlen)
