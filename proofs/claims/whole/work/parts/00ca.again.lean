-- the changed pictures said as of old: what calls less deep do is what the former methods did
theorem ca_eta {α β : Type} (x : Option (α × β)) : (x.bind fun q => some (q.1, q.2)) = x := by
  cases x <;> rfl
theorem f_X1_hasPoint_e (a0 : Nat) (v1 : Int) (v2 : Int) (σ : Nat → Nat → Int) : f_X1_hasPoint a0 v1 v2 σ = (f_X1_hasCluster a0 v1 σ).bind fun q1 => if q1 = 0 then (some 0) else (if v2 < 0 then (some 0) else (if 0 ≤ v1 ∧ v1 < 3 then if (σ (a0 + 5) v1.toNat) ≤ v2 then (some 0) else (some 1) else none)) := by
  unfold f_X1_hasPoint f_X1_hasCluster
  by_cases c1 : v1 < 0
  · rw [if_pos c1, if_pos c1, Option.bind_some, if_pos rfl]
  · rw [if_neg c1, if_neg c1]
    by_cases c2 : σ a0 0 ≤ v1
    · rw [if_pos c2, if_pos c2, Option.bind_some, if_pos rfl]
    · rw [if_neg c2, if_neg c2, Option.bind_some, if_neg (show ¬ (1 : Int) = 0 by omega)]
theorem f_X1_firstPointFor_e (a0 : Nat) (v1 : Int) (v2 : Int) (σ : Nat → Nat → Int) : f_X1_firstPointFor a0 v1 v2 σ = (f_X1_hasCluster a0 v1 σ).bind fun q1 => if q1 = 0 then (f_X1_firstPointFor_26 100000 a0 v1 v2 0 0 σ) else (if 0 ≤ v1 ∧ v1 < 3 then f_X1_firstPointFor_26 100000 a0 v1 v2 (σ (a0 + 5) v1.toNat) 0 σ else none) := by
  unfold f_X1_firstPointFor f_X1_hasCluster
  by_cases c1 : v1 < 0
  · rw [if_pos c1, if_pos c1, Option.bind_some, if_pos rfl]
  · rw [if_neg c1, if_neg c1]
    by_cases c2 : σ a0 0 ≤ v1
    · rw [if_pos c2, if_pos c2, Option.bind_some, if_pos rfl]
    · rw [if_neg c2, if_neg c2, Option.bind_some, if_neg (show ¬ (1 : Int) = 0 by omega)]
def f_X2_loadOn_6 : Nat → Nat → Nat → Int → Int → Int → (Nat → Nat → Int) → Option Int
  | 0, _, _, _, _, _, _ => none
  | k + 1, a1, a2, v3, v4, v5, σ => if (σ a1 1) ≤ v5 then (some v4) else (if 0 ≤ v5 ∧ v5 < 4 then if (σ (a2 + 1) v5.toNat) = v3 then (if 0 ≤ v5 ∧ v5 < 4 then (f_X2_loadOn_6 k) a1 a2 v3 (z_w (v4 + (σ (a2 + 3) v5.toNat))) (z_w (v5 + 1)) σ else none) else ((f_X2_loadOn_6 k) a1 a2 v3 (z_w (v4 + 0)) (z_w (v5 + 1)) σ) else none)
def f_X2_loadOn (a1 : Nat) (a2 : Nat) (v3 : Int) (σ : Nat → Nat → Int) : Option Int := f_X2_loadOn_6 100000 a1 a2 v3 0 0 σ
theorem f_X2_needOf_21_e (K6 : Nat → Nat → Int → Int → Int → (Nat → Nat → Int) → Option Int) : ∀ (k a1 a2 : Nat) (v3 v4 v5 v6 v7 : Int) (σ : Nat → Nat → Int), f_X2_needOf_21 K6 k a1 a2 v3 v4 v5 v6 v7 σ = (f_X2_loadOn_6 k a1 a2 v5 v6 v7 σ).bind fun q => if 0 ≤ v5 ∧ v5 < 6 then K6 a1 a2 v3 (if (σ (a1 + 14) v5.toNat) = v3 then (max v4 q) else v4) (z_w (v5 + 1)) σ else none := by
  intro k
  induction k with
  | zero => intros; rfl
  | succ k ih =>
    intro a1 a2 v3 v4 v5 v6 v7 σ
    rw [f_X2_needOf_21, f_X2_loadOn_6]
    by_cases c1 : σ a1 1 ≤ v7
    · rw [if_pos c1, if_pos c1, Option.bind_some]
    · rw [if_neg c1, if_neg c1]
      by_cases c2 : 0 ≤ v7 ∧ v7 < 4
      · by_cases c3 : σ (a2 + 1) v7.toNat = v5
        · simp only [if_pos c2, if_pos c3]
          exact ih _ _ _ _ _ _ _ _
        · simp only [if_pos c2, if_neg c3]
          exact ih _ _ _ _ _ _ _ _
      · simp only [if_neg c2]
        rfl
theorem f_X2_needOf_6_e (k a1 a2 : Nat) (v3 v4 v5 : Int) (σ : Nat → Nat → Int) : f_X2_needOf_6 (k + 1) a1 a2 v3 v4 v5 σ = if (σ a1 2) ≤ v5 then ((f_X11_roundedUp (z_w ((z_w (v4 * (σ a1 3))) * (z_w (100 + (σ (a1 + 18) 0))))) 102400 σ).bind fun q5 => some q5) else ((f_X2_loadOn a1 a2 v5 σ).bind fun q => if 0 ≤ v5 ∧ v5 < 6 then f_X2_needOf_6 k a1 a2 v3 (if (σ (a1 + 14) v5.toNat) = v3 then (max v4 q) else v4) (z_w (v5 + 1)) σ else none) := by
  rw [f_X2_needOf_6, f_X2_needOf_21_e]
  rfl
def f_X2_choosePoint (a1 : Nat) (a2 : Nat) (v3 : Int) (σ : Nat → Nat → Int) : Option (Nat → Nat → Int) := (f_X2_wantOf a1 a2 v3 σ).bind fun q1 => f_X2_goTowards a1 a2 v3 q1 σ
def f_X2_passOne_42 : Nat → Nat → Nat → Int → Int → (Nat → Nat → Int) → Option (Int × (Nat → Nat → Int))
  | 0, _, _, _, _, _ => none
  | k + 1, a1, a2, v3, v4, σ => if (σ a1 2) ≤ v4 then ((f_X2_fadeLoads a1 a2 σ).bind fun q14 => (f_X11_cut (q14 a2 1) (q14 (a1 + 18) 5) q14).bind fun q20 => some (v3, u2 (u2 (u2 q14 a2 1 (z_w ((q14 a2 1) + (z_w (v3 - q20))))) a2 2 (z_w (((u2 q14 a2 1 (z_w ((q14 a2 1) + (z_w (v3 - q20))))) a2 2) + v3))) a2 0 (z_w (((u2 (u2 q14 a2 1 (z_w ((q14 a2 1) + (z_w (v3 - q20))))) a2 2 (z_w (((u2 q14 a2 1 (z_w ((q14 a2 1) + (z_w (v3 - q20))))) a2 2) + v3))) a2 0) + 1)))) else ((f_X2_work a1 a2 v4 σ).bind fun q25 => (f_X2_passOne_42 k) a1 a2 (z_w (v3 + q25.1)) (z_w (v4 + 1)) q25.2)
def f_X2_passOne_16 : Nat → Nat → Nat → Int → Int → (Nat → Nat → Int) → Option (Int × (Nat → Nat → Int))
  | 0, _, _, _, _, _ => none
  | k + 1, a1, a2, v3, v4, σ => if (σ a1 0) ≤ v4 then (f_X2_passOne_42 100000 a1 a2 v3 0 σ) else ((f_X2_choosePoint a1 a2 v4 σ).bind fun q9 => (f_X2_passOne_16 k) a1 a2 v3 (z_w (v4 + 1)) q9)
def f_X2_passOne (a1 : Nat) (a2 : Nat) (σ : Nat → Nat → Int) : Option (Int × (Nat → Nat → Int)) := (f_X2_release a1 a2 σ).bind fun q1 => (f_X2_wakeCores a1 a2 q1).bind fun q4 => f_X2_passOne_16 100000 a1 a2 q4.1 0 q4.2
theorem f_X2_passMany_66_e (K9 : Nat → Nat → Int → Int → Int → (Nat → Nat → Int) → Option (Int × (Nat → Nat → Int))) : ∀ (k a1 a2 : Nat) (v3 v4 v5 v6 v7 : Int) (σ : Nat → Nat → Int), f_X2_passMany_66 K9 k a1 a2 v3 v4 v5 v6 v7 σ = (f_X2_passOne_42 k a1 a2 v6 v7 σ).bind fun q => K9 a1 a2 v3 v4 (z_w (v5 + 1)) q.2 := by
  intro k
  induction k with
  | zero => intros; rfl
  | succ k ih =>
    intro a1 a2 v3 v4 v5 v6 v7 σ
    rw [f_X2_passMany_66, f_X2_passOne_42]
    by_cases c1 : σ a1 2 ≤ v7
    · rw [if_pos c1, if_pos c1]
      simp only [Option.bind_assoc, Option.bind_some]
    · rw [if_neg c1, if_neg c1]
      simp only [Option.bind_assoc, ih]
theorem f_X2_passMany_32_e (K9 : Nat → Nat → Int → Int → Int → (Nat → Nat → Int) → Option (Int × (Nat → Nat → Int))) : ∀ (k a1 a2 : Nat) (v3 v4 v5 v6 v7 : Int) (σ : Nat → Nat → Int), f_X2_passMany_32 K9 k a1 a2 v3 v4 v5 v6 v7 σ = (f_X2_passOne_16 k a1 a2 v6 v7 σ).bind fun q => K9 a1 a2 v3 v4 (z_w (v5 + 1)) q.2 := by
  intro k
  induction k with
  | zero => intros; rfl
  | succ k ih =>
    intro a1 a2 v3 v4 v5 v6 v7 σ
    rw [f_X2_passMany_32, f_X2_passOne_16]
    by_cases c1 : σ a1 0 ≤ v7
    · rw [if_pos c1, if_pos c1]
      exact f_X2_passMany_66_e K9 _ _ _ _ _ _ _ _ _
    · rw [if_neg c1, if_neg c1]
      unfold f_X2_choosePoint
      simp only [Option.bind_assoc, ih]
theorem f_X2_passMany_9_e (k a1 a2 : Nat) (v3 v4 v5 : Int) (σ : Nat → Nat → Int) : f_X2_passMany_9 (k + 1) a1 a2 v3 v4 v5 σ = if v3 ≤ v5 then (some (z_w ((σ a2 2) - v4), σ)) else ((f_X2_passOne a1 a2 σ).bind fun q => f_X2_passMany_9 k a1 a2 v3 v4 (z_w (v5 + 1)) q.2) := by
  rw [f_X2_passMany_9]
  unfold f_X2_passOne
  simp only [Option.bind_assoc, f_X2_passMany_32_e]
def f_X11_takeChip  (σ : Nat → Nat → Int) : Option (Int × (Nat → Nat → Int)) := if (σ 0 3).toNat ∈ ax_iX1 then (f_X10_readChip ((σ 0 3).toNat) σ).bind fun q2 => if q2.1 = (-1) then (if (q2.2 0 2).toNat ∈ ax_iX1 then if (q2.2 0 3).toNat ∈ ax_iX1 then (f_X7_begin 173 (u2 (u2 q2.2 0 2 ((((q2.2 0 3).toNat) : Nat) : Int)) 0 3 ((((q2.2 0 2).toNat) : Nat) : Int))).bind fun q8 => (f_X3_forget q8).bind fun q11 => if ((u2 (u2 q11 0 9 0) 2 1 0) 0 2).toNat ∈ ax_iX1 then some ((u2 (u2 q11 0 9 0) 2 1 0) (((u2 (u2 q11 0 9 0) 2 1 0) 0 2).toNat) 0, u2 (u2 q11 0 9 0) 2 1 0) else none else none else none) else (some ((-1), q2.2)) else none
def f_X11_takeScript  (σ : Nat → Nat → Int) : Option (Int × (Nat → Nat → Int)) := if 4 ≤ (σ 0 5) then (some ((-1), σ)) else ((f_X11_spareScript σ).bind fun q3 => (f_X10_readScript q3 σ).bind fun q6 => if q6.1 = (-1) then (some (z_w (((u2 (u2 q6.2 2 1 0) 0 5 (z_w (((u2 q6.2 2 1 0) 0 5) + 1))) 0 5) - 1), u2 (u2 q6.2 2 1 0) 0 5 (z_w (((u2 q6.2 2 1 0) 0 5) + 1)))) else (some ((-1), q6.2)))
theorem f_X11_text_e (v1 : Int) (σ : Nat → Nat → Int) : f_X11_text v1 σ = if v1 = 0 then ((f_X11_takeChip σ).bind fun q6 => some (q6.1, q6.2)) else (if v1 = 1 then ((f_X11_takeScript σ).bind fun q3 => some (q3.1, q3.2)) else (some ((-1), σ))) := by
  unfold f_X11_text f_X11_takeChip f_X11_takeScript f_X11_takeDraft f_X11_takeSpareScript
  simp only [ca_eta]
  by_cases c1 : v1 = 0
  · rw [if_pos c1, if_pos c1]
  · rw [if_neg c1, if_neg c1]
    by_cases c2 : v1 = 1
    · rw [if_pos c2, if_pos c2]
      by_cases c3 : σ 0 5 < 4
      · rw [if_pos c3, if_neg (show ¬ 4 ≤ σ 0 5 by omega)]
      · rw [if_neg c3, if_pos (show 4 ≤ σ 0 5 by omega)]
    · rw [if_neg c2, if_neg c2]
def f_X11_doOrRefuseAsker (a1 : Nat) (σ : Nat → Nat → Int) : Option (Int × (Nat → Nat → Int)) := (f_X11_doOrRefuse a1 σ).bind fun q1 => if q1.1 = (-1) then (some (q1.1, q1.2)) else (some (q1.1, u2 q1.2 2 1 0))
theorem f_X11_ask_e (v1 : Int) (v2 : Int) (v3 : Int) (σ : Nat → Nat → Int) : f_X11_ask v1 v2 v3 σ = (f_X10_readAsker σ).bind fun q1 => (f_X8_put 755 2 v1 v2 v3 q1.1 q1.2).bind fun q4 => (f_X11_doOrRefuseAsker 755 q4).bind fun q7 => some (q7.1, q7.2) := by
  unfold f_X11_ask f_X11_doOrRefuseAsker f_X11_useUpTapeFor
  simp only [Option.bind_assoc, ca_eta]
theorem f_X11_drop_e (v1 : Int) (σ : Nat → Nat → Int) : f_X11_drop v1 σ = (f_X10_readAsker σ).bind fun q1 => (f_X8_put 755 3 v1 0 0 q1.1 q1.2).bind fun q4 => (f_X11_doOrRefuseAsker 755 q4).bind fun q7 => some (q7.1, q7.2) := by
  unfold f_X11_drop f_X11_doOrRefuseAsker f_X11_useUpTapeFor
  simp only [Option.bind_assoc, ca_eta]
