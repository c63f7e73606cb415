-- the law: a turn, all its cases but the cluster's
section S_LU
variable {p : Program} {l : Launch} {e : Env} {s : State} {m : MethodId} {args : Array Value} {below : List Frame} {meth : Method} {c : Code} {D : va_G} {cA : Nat → ClassId} {sa ad : Nat → Nat} {bs kc ks : Nat} {Q : State → Prop} {σ : Nat → Nat → Int} {b L i : Nat} {xs : Nat → Int32} {bb : Int}
theorem LW_turn (X : AX p s m args meth c D cA sa bs cL_law 7 RLw) (hX : va_X b L xs s s.heap) (hbl : b < s.heap.size) (hbA : ¬ ax_A bs b) (hi : i + 5 < L) (hL : L ≤ 3072) (hk : kc ≤ room_1.cells ∧ ks ≤ room_1.slots) (hG : GV σ bb) (h0 : 0 ≤ bb) (hbb : bb ≤ 40 * i) (k : ∀ (σ2 : Nat → Nat → Int) (bb' : Int), GV σ2 bb' → 0 ≤ bb' → bb' ≤ bb + 40 → AW p l e room_1 s m args below meth c D cA ad bs 788 SHp kc ks Q 7 1444 (lw_lv b ad i) [] σ2) (hcl : AW p l e room_1 s m args below meth c D cA ad bs 788 SHp kc ks Q 7 377 (lw_lv b ad i) [] σ) : ∀ n, n < 37 → AW p l e room_1 s m args below meth c D cA ad bs 788 SHp kc ks Q 7 (lw_pc n) (lw_lv b ad i) [] σ := by
  have hb : bb < 2147483000 := by omega
  have hx : -2147483648 ≤ (xs (i + 1)).toInt ∧ (xs (i + 1)).toInt < 2147483648 := ⟨Int32.le_toInt _, Int32.toInt_lt _⟩
  intro n hn
  have hz01 : ∀ {q : Int}, q = 0 ∨ q = 1 → Z_I q := fun h => by unfold Z_I; omega
  match n, hn with
  | 0, _ =>
    obtain ⟨r, σ1, σ2, g1, g2, g3⟩ := G_feed (v1 := (xs (i + 1)).toInt) (v2 := (xs (i + 2)).toInt) (v3 := (xs (i + 3)).toInt) (v4 := (xs (i + 4)).toInt) (v5 := (xs (i + 5)).toInt) hG
    exact LW_feed X hX hbl hbA hi hL hk id (C_X11_feed l D cA sa ad bs ((xs (i + 1)).toInt) (lw_num _).2 ((xs (i + 2)).toInt) (lw_num _).2 ((xs (i + 3)).toInt) (lw_num _).2 ((xs (i + 4)).toInt) (lw_num _).2 ((xs (i + 5)).toInt) (lw_num _).2 σ (r, σ1) g1) (C_X12_feed l D cA sa ad bs ((xs (i + 1)).toInt) (lw_num _).2 ((xs (i + 2)).toInt) (lw_num _).2 ((xs (i + 3)).toInt) (lw_num _).2 ((xs (i + 4)).toInt) (lw_num _).2 ((xs (i + 5)).toInt) (lw_num _).2 σ1 (r, σ2) g2) (k σ2 bb g3 (by omega) (by omega))
  | 1, _ =>
    obtain ⟨r, σ1, σ2, g1, g2, g3⟩ := G_end (v1 := (xs (i + 1)).toInt) hG
    exact LW_end X hX hbl hbA hi hL hk hz01 (C_X11_end l D cA sa ad bs ((xs (i + 1)).toInt) (lw_num _).2 σ (r, σ1) g1) (C_X12_end l D cA sa ad bs ((xs (i + 1)).toInt) (lw_num _).2 σ1 (r, σ2) g2) (k σ2 bb g3 (by omega) (by omega))
  | 2, _ =>
    obtain ⟨r, σ1, σ2, g1, g2, g3⟩ := G_fault (v1 := (xs (i + 1)).toInt) hG
    exact LW_fault X hX hbl hbA hi hL hk id (C_X11_fault l D cA sa ad bs ((xs (i + 1)).toInt) (lw_num _).2 σ (r, σ1) g1) (C_X12_fault l D cA sa ad bs ((xs (i + 1)).toInt) (lw_num _).2 σ1 (r, σ2) g2) (k σ2 bb g3 (by omega) (by omega))
  | 3, _ =>
    obtain ⟨r, σ1, σ2, g1, g2, g3⟩ := G_text (v1 := (xs (i + 1)).toInt) hG h0
    exact LW_text X hX hbl hbA hi hL hk id (C_X11_text l D cA sa ad bs ((xs (i + 1)).toInt) (lw_num _).2 σ (r, σ1) g1) (C_X12_text l D cA sa ad bs ((xs (i + 1)).toInt) (lw_num _).2 σ1 (r, σ2) g2) (k σ2 bb g3 (by omega) (by omega))
  | 4, _ =>
    obtain ⟨r, σ2, g1, g2, g3⟩ := G_rule (v1 := (xs (i + 1)).toInt) hG
    exact LW_rule X hX hbl hbA hi hL hk id (C_X11_rule l D cA sa ad bs ((xs (i + 1)).toInt) (lw_num _).2 σ r g1) (C_X12_rule l D cA sa ad bs ((xs (i + 1)).toInt) (lw_num _).2 σ (r, σ2) g2) (k σ2 bb g3 (by omega) (by omega))
  | 5, _ => exact hcl
  | 6, _ =>
    obtain ⟨r, σ2, g1, g2, g3⟩ := G_point (v1 := (xs (i + 1)).toInt) (v2 := (xs (i + 2)).toInt) (v3 := (xs (i + 3)).toInt) hG
    exact LW_point X hX hbl hbA hi hL hk id (C_X11_point l D cA sa ad bs ((xs (i + 1)).toInt) (lw_num _).2 ((xs (i + 2)).toInt) (lw_num _).2 ((xs (i + 3)).toInt) (lw_num _).2 σ r g1) (C_X12_point l D cA sa ad bs ((xs (i + 1)).toInt) (lw_num _).2 ((xs (i + 2)).toInt) (lw_num _).2 ((xs (i + 3)).toInt) (lw_num _).2 σ (r, σ2) g2) (k σ2 bb g3 (by omega) (by omega))
  | 7, _ =>
    obtain ⟨r, σ2, g1, g2, g3⟩ := G_core (v1 := (xs (i + 1)).toInt) (v2 := (xs (i + 2)).toInt) hG
    exact LW_core X hX hbl hbA hi hL hk id (C_X11_core l D cA sa ad bs ((xs (i + 1)).toInt) (lw_num _).2 ((xs (i + 2)).toInt) (lw_num _).2 σ r g1) (C_X12_core l D cA sa ad bs ((xs (i + 1)).toInt) (lw_num _).2 ((xs (i + 2)).toInt) (lw_num _).2 σ (r, σ2) g2) (k σ2 bb g3 (by omega) (by omega))
  | 8, _ =>
    obtain ⟨r, σ2, g1, g2, g3⟩ := G_task (v1 := (xs (i + 1)).toInt) (v2 := (xs (i + 2)).toInt) hG
    exact LW_task X hX hbl hbA hi hL hk id (C_X11_task l D cA sa ad bs ((xs (i + 1)).toInt) (lw_num _).2 ((xs (i + 2)).toInt) (lw_num _).2 σ r g1) (C_X12_task l D cA sa ad bs ((xs (i + 1)).toInt) (lw_num _).2 ((xs (i + 2)).toInt) (lw_num _).2 σ (r, σ2) g2) (k σ2 bb g3 (by omega) (by omega))
  | 9, _ =>
    obtain ⟨r, σ2, g1, g2, g3⟩ := G_name (v1 := (xs (i + 1)).toInt) (v2 := (xs (i + 2)).toInt) (v3 := (xs (i + 3)).toInt) hG
    exact LW_name X hX hbl hbA hi hL hk id (C_X11_name l D cA sa ad bs ((xs (i + 1)).toInt) (lw_num _).2 ((xs (i + 2)).toInt) (lw_num _).2 ((xs (i + 3)).toInt) (lw_num _).2 σ r g1) (C_X12_name l D cA sa ad bs ((xs (i + 1)).toInt) (lw_num _).2 ((xs (i + 2)).toInt) (lw_num _).2 ((xs (i + 3)).toInt) (lw_num _).2 σ (r, σ2) g2) (k σ2 bb g3 (by omega) (by omega))
  | 10, _ =>
    obtain ⟨r, σ2, g1, g2, g3⟩ := G_asked (v1 := (xs (i + 1)).toInt) (v2 := (xs (i + 2)).toInt) hG
    exact LW_asked X hX hbl hbA hi hL hk id (C_X11_asked l D cA sa ad bs ((xs (i + 1)).toInt) (lw_num _).2 ((xs (i + 2)).toInt) (lw_num _).2 σ r g1) (C_X12_asked l D cA sa ad bs ((xs (i + 1)).toInt) (lw_num _).2 ((xs (i + 2)).toInt) (lw_num _).2 σ (r, σ2) g2) (k σ2 bb g3 (by omega) (by omega))
  | 11, _ =>
    obtain ⟨r, σ1, σ2, g1, g2, g3⟩ := G_tick (v1 := (xs (i + 1)).toInt) hG hx hb
    exact LW_tick X hX hbl hbA hi hL hk id (C_X11_tick l D cA sa ad bs ((xs (i + 1)).toInt) (lw_num _).2 σ (r, σ1) g1) (C_X12_tick l D cA sa ad bs ((xs (i + 1)).toInt) (lw_num _).2 σ1 (r, σ2) g2) (k σ2 (bb + 40) g3 (by omega) (by omega))
  | 12, _ =>
    obtain ⟨r, σ1, σ2, g1, g2, g3⟩ := G_move (v1 := (xs (i + 1)).toInt) (v2 := (xs (i + 2)).toInt) hG hx hb
    exact LW_move X hX hbl hbA hi hL hk id (C_X11_move l D cA sa ad bs ((xs (i + 1)).toInt) (lw_num _).2 ((xs (i + 2)).toInt) (lw_num _).2 σ (r, σ1) g1) (C_X12_move l D cA sa ad bs ((xs (i + 1)).toInt) (lw_num _).2 ((xs (i + 2)).toInt) (lw_num _).2 σ1 (r, σ2) g2) (k σ2 (bb + 40) g3 (by omega) (by omega))
  | 13, _ =>
    obtain ⟨r, σ1, σ2, g1, g2, g3⟩ := G_ask (v1 := (xs (i + 1)).toInt) (v2 := (xs (i + 2)).toInt) (v3 := (xs (i + 3)).toInt) hG hx hb
    exact LW_ask X hX hbl hbA hi hL hk id (C_X11_ask l D cA sa ad bs ((xs (i + 1)).toInt) (lw_num _).2 ((xs (i + 2)).toInt) (lw_num _).2 ((xs (i + 3)).toInt) (lw_num _).2 σ (r, σ1) g1) (C_X12_ask l D cA sa ad bs ((xs (i + 1)).toInt) (lw_num _).2 ((xs (i + 2)).toInt) (lw_num _).2 ((xs (i + 3)).toInt) (lw_num _).2 σ1 (r, σ2) g2) (k σ2 (bb + 40) g3 (by omega) (by omega))
  | 14, _ =>
    obtain ⟨r, σ1, σ2, g1, g2, g3⟩ := G_drop (v1 := (xs (i + 1)).toInt) hG hx hb
    exact LW_drop X hX hbl hbA hi hL hk id (C_X11_drop l D cA sa ad bs ((xs (i + 1)).toInt) (lw_num _).2 σ (r, σ1) g1) (C_X12_drop l D cA sa ad bs ((xs (i + 1)).toInt) (lw_num _).2 σ1 (r, σ2) g2) (k σ2 (bb + 40) g3 (by omega) (by omega))
  | 15, _ =>
    obtain ⟨r, σ1, σ2, g1, g2, g3⟩ := G_stop (v1 := (xs (i + 1)).toInt) hG hx hb
    exact LW_stop X hX hbl hbA hi hL hk id (C_X11_stop l D cA sa ad bs ((xs (i + 1)).toInt) (lw_num _).2 σ (r, σ1) g1) (C_X12_stop l D cA sa ad bs ((xs (i + 1)).toInt) (lw_num _).2 σ1 (r, σ2) g2) (k σ2 (bb + 40) g3 (by omega) (by omega))
  | 16, _ =>
    obtain ⟨r, σ1, σ2, g1, g2, g3⟩ := G_start (v1 := (xs (i + 1)).toInt) hG hx hb
    exact LW_start X hX hbl hbA hi hL hk id (C_X11_start l D cA sa ad bs ((xs (i + 1)).toInt) (lw_num _).2 σ (r, σ1) g1) (C_X12_start l D cA sa ad bs ((xs (i + 1)).toInt) (lw_num _).2 σ1 (r, σ2) g2) (k σ2 (bb + 40) g3 (by omega) (by omega))
  | 17, _ =>
    obtain ⟨r, σ1, σ2, g1, g2, g3⟩ := G_settle  hG hb
    exact LW_settle X hX hbl hbA hi hL hk id (C_X11_settle l D cA sa ad bs  σ (r, σ1) g1) (C_X12_settle l D cA sa ad bs  σ1 (r, σ2) g2) (k σ2 (bb + 40) g3 (by omega) (by omega))
  | 18, _ =>
    obtain ⟨r, σ1, σ2, g1, g2, g3⟩ := G_years (v1 := (xs (i + 1)).toInt) (v2 := (lw_seed i xs)) hG hb
    exact LW_years X hX hbl hbA hi hL hk id (C_X11_years l D cA sa ad bs ((xs (i + 1)).toInt) (lw_num _).2 ((lw_seed i xs)) (z_orL_in _ _) σ (r, σ1) g1) (C_X12_years l D cA sa ad bs ((xs (i + 1)).toInt) (lw_num _).2 ((lw_seed i xs)) (z_orL_in _ _) σ1 (r, σ2) g2) (k σ2 (bb + 40) g3 (by omega) (by omega))
  | 19, _ =>
    obtain ⟨r, σ2, g1, g2, g3⟩ := G_status (v1 := (xs (i + 1)).toInt) hG
    exact LW_status X hX hbl hbA hi hL hk id (C_X11_status l D cA sa ad bs ((xs (i + 1)).toInt) (lw_num _).2 σ r g1) (C_X12_status l D cA sa ad bs ((xs (i + 1)).toInt) (lw_num _).2 σ (r, σ2) g2) (k σ2 bb g3 (by omega) (by omega))
  | 20, _ =>
    obtain ⟨r, σ1, σ2, g1, g2, g3⟩ := G_undo  hG
    exact LW_undo X hX hbl hbA hi hL hk id (C_X11_undo l D cA sa ad bs  σ (r, σ1) g1) (C_X12_undo l D cA sa ad bs  σ1 (r, σ2) g2) (k σ2 bb g3 (by omega) (by omega))
  | 21, _ =>
    obtain ⟨r, σ2, g1, g2, g3⟩ := G_log (v1 := (xs (i + 1)).toInt) (v2 := (xs (i + 2)).toInt) hG hb
    exact LW_log X hX hbl hbA hi hL hk id (C_X11_log l D cA sa ad bs ((xs (i + 1)).toInt) (lw_num _).2 ((xs (i + 2)).toInt) (lw_num _).2 σ r g1) (C_X12_log l D cA sa ad bs ((xs (i + 1)).toInt) (lw_num _).2 ((xs (i + 2)).toInt) (lw_num _).2 σ (r, σ2) g2) (k σ2 bb g3 (by omega) (by omega))
  | 22, _ =>
    obtain ⟨r, σ1, σ2, g1, g2, g3⟩ := G_price  hG
    exact LW_price X hX hbl hbA hi hL hk id (C_X11_price l D cA sa ad bs  σ (r, σ1) g1) (C_X12_price l D cA sa ad bs  σ1 (r, σ2) g2) (k σ2 bb g3 (by omega) (by omega))
  | 23, _ =>
    obtain ⟨r, σ1, σ2, g1, g2, g3⟩ := G_best (v1 := (xs (i + 1)).toInt) (v2 := (xs (i + 2)).toInt) hG
    exact LW_best X hX hbl hbA hi hL hk id (C_X11_best l D cA sa ad bs ((xs (i + 1)).toInt) (lw_num _).2 ((xs (i + 2)).toInt) (lw_num _).2 σ (r, σ1) g1) (C_X12_best l D cA sa ad bs ((xs (i + 1)).toInt) (lw_num _).2 ((xs (i + 2)).toInt) (lw_num _).2 σ1 (r, σ2) g2) (k σ2 bb g3 (by omega) (by omega))
  | 24, _ =>
    obtain ⟨r, σ1, σ2, g1, g2, g3⟩ := G_greedy (v1 := (xs (i + 1)).toInt) (v2 := (xs (i + 2)).toInt) hG
    exact LW_greedy X hX hbl hbA hi hL hk id (C_X11_greedy l D cA sa ad bs ((xs (i + 1)).toInt) (lw_num _).2 ((xs (i + 2)).toInt) (lw_num _).2 σ (r, σ1) g1) (C_X12_greedy l D cA sa ad bs ((xs (i + 1)).toInt) (lw_num _).2 ((xs (i + 2)).toInt) (lw_num _).2 σ1 (r, σ2) g2) (k σ2 bb g3 (by omega) (by omega))
  | 25, _ =>
    obtain ⟨r, σ1, σ2, g1, g2, g3⟩ := G_moves  hG
    exact LW_moves X hX hbl hbA hi hL hk id (C_X11_moves l D cA sa ad bs  σ (r, σ1) g1) (C_X12_moves l D cA sa ad bs  σ1 (r, σ2) g2) (k σ2 bb g3 (by omega) (by omega))
  | 26, _ =>
    obtain ⟨r, σ2, g1, g2, g3⟩ := G_race (v1 := (xs (i + 1)).toInt) (v2 := (xs (i + 2)).toInt) (v3 := (xs (i + 3)).toInt) (v4 := (xs (i + 4)).toInt) hG
    exact LW_race X hX hbl hbA hi hL hk id (C_X11_race l D cA sa ad bs ((xs (i + 1)).toInt) (lw_num _).2 ((xs (i + 2)).toInt) (lw_num _).2 ((xs (i + 3)).toInt) (lw_num _).2 ((xs (i + 4)).toInt) (lw_num _).2 σ r g1) (C_X12_race l D cA sa ad bs ((xs (i + 1)).toInt) (lw_num _).2 ((xs (i + 2)).toInt) (lw_num _).2 ((xs (i + 3)).toInt) (lw_num _).2 ((xs (i + 4)).toInt) (lw_num _).2 σ (r, σ2) g2) (k σ2 bb g3 (by omega) (by omega))
  | 27, _ =>
    obtain ⟨r, σ1, σ2, g1, g2, g3⟩ := G_ahead (v1 := (xs (i + 1)).toInt) (v2 := (xs (i + 2)).toInt) hG
    exact LW_ahead X hX hbl hbA hi hL hk id (C_X11_ahead l D cA sa ad bs ((xs (i + 1)).toInt) (lw_num _).2 ((xs (i + 2)).toInt) (lw_num _).2 σ (r, σ1) g1) (C_X12_ahead l D cA sa ad bs ((xs (i + 1)).toInt) (lw_num _).2 ((xs (i + 2)).toInt) (lw_num _).2 σ1 (r, σ2) g2) (k σ2 bb g3 (by omega) (by omega))
  | 28, _ =>
    obtain ⟨r, σ1, σ2, g1, g2, g3⟩ := G_bound (v1 := (xs (i + 1)).toInt) (v2 := (xs (i + 2)).toInt) hG
    exact LW_bound X hX hbl hbA hi hL hk id (C_X11_bound l D cA sa ad bs ((xs (i + 1)).toInt) (lw_num _).2 ((xs (i + 2)).toInt) (lw_num _).2 σ (r, σ1) g1) (C_X12_bound l D cA sa ad bs ((xs (i + 1)).toInt) (lw_num _).2 ((xs (i + 2)).toInt) (lw_num _).2 σ1 (r, σ2) g2) (k σ2 bb g3 (by omega) (by omega))
  | 29, _ =>
    obtain ⟨r, σ1, σ2, g1, g2, g3⟩ := G_odds (v1 := (xs (i + 1)).toInt) hG
    exact LW_odds X hX hbl hbA hi hL hk id (C_X11_odds l D cA sa ad bs ((xs (i + 1)).toInt) (lw_num _).2 σ (r, σ1) g1) (C_X12_odds l D cA sa ad bs ((xs (i + 1)).toInt) (lw_num _).2 σ1 (r, σ2) g2) (k σ2 bb g3 (by omega) (by omega))
  | 30, _ =>
    obtain ⟨r, σ2, g1, g2, g3⟩ := G_step (v1 := (xs (i + 1)).toInt) (v2 := (xs (i + 2)).toInt) (v3 := (xs (i + 3)).toInt) hG
    exact LW_step X hX hbl hbA hi hL hk id (C_X11_step l D cA sa ad bs ((xs (i + 1)).toInt) (lw_num _).2 ((xs (i + 2)).toInt) (lw_num _).2 ((xs (i + 3)).toInt) (lw_num _).2 σ r g1) (C_X12_step l D cA sa ad bs ((xs (i + 1)).toInt) (lw_num _).2 ((xs (i + 2)).toInt) (lw_num _).2 ((xs (i + 3)).toInt) (lw_num _).2 σ (r, σ2) g2) (k σ2 bb g3 (by omega) (by omega))
  | 31, _ =>
    obtain ⟨r, σ1, σ2, g1, g2, g3⟩ := G_run (v1 := (xs (i + 1)).toInt) (v2 := (xs (i + 2)).toInt) hG
    exact LW_run X hX hbl hbA hi hL hk id (C_X11_run l D cA sa ad bs ((xs (i + 1)).toInt) (lw_num _).2 ((xs (i + 2)).toInt) (lw_num _).2 σ (r, σ1) g1) (C_X12_run l D cA sa ad bs ((xs (i + 1)).toInt) (lw_num _).2 ((xs (i + 2)).toInt) (lw_num _).2 σ1 (r, σ2) g2) (k σ2 bb g3 (by omega) (by omega))
  | 32, _ =>
    obtain ⟨r, σ1, σ2, g1, g2, g3⟩ := G_perform (v1 := (xs (i + 1)).toInt) hG hb
    exact LW_perform X hX hbl hbA hi hL hk id (C_X11_perform l D cA sa ad bs ((xs (i + 1)).toInt) (lw_num _).2 σ (r, σ1) g1) (C_X12_perform l D cA sa ad bs ((xs (i + 1)).toInt) (lw_num _).2 σ1 (r, σ2) g2) (k σ2 (bb + 40) g3 (by omega) (by omega))
  | 33, _ =>
    obtain ⟨r, σ2, g1, g2, g3⟩ := G_all (v1 := (xs (i + 1)).toInt) hG
    exact LW_all X hX hbl hbA hi hL hk id (C_X11_all l D cA sa ad bs ((xs (i + 1)).toInt) (lw_num _).2 σ r g1) (C_X12_all l D cA sa ad bs ((xs (i + 1)).toInt) (lw_num _).2 σ (r, σ2) g2) (k σ2 bb g3 (by omega) (by omega))
  | 34, _ =>
    obtain ⟨r, σ1, σ2, g1, g2, g3⟩ := G_image  hG
    exact LW_image X hX hbl hbA hi hL hk id (C_X11_image l D cA sa ad bs  σ (r, σ1) g1) (C_X12_image l D cA sa ad bs  σ1 (r, σ2) g2) (k σ2 bb g3 (by omega) (by omega))
  | 35, _ =>
    obtain ⟨r, σ1, σ2, g1, g2, g3⟩ := G_back  hG
    exact LW_back X hX hbl hbA hi hL hk id (C_X11_back l D cA sa ad bs  σ (r, σ1) g1) (C_X12_back l D cA sa ad bs  σ1 (r, σ2) g2) (k σ2 bb g3 (by omega) (by omega))
  | 36, _ =>
    obtain ⟨r, σ2, g1, g2, g3⟩ := G_count (v1 := (xs (i + 1)).toInt) hG
    exact LW_count X hX hbl hbA hi hL hk id (C_X11_count l D cA sa ad bs ((xs (i + 1)).toInt) (lw_num _).2 σ r g1) (C_X12_count l D cA sa ad bs ((xs (i + 1)).toInt) (lw_num _).2 σ (r, σ2) g2) (k σ2 bb g3 (by omega) (by omega))
  | n + 37, hn => exact absurd hn (by omega)
end S_LU
