/-! LedTables, stands (made by wip/gen/auto2.py) -/
def f_Led_stands (F : Nat) (x1 : Int32) (x2 : Int32) (m : aM) : Option oX :=
  o_tp (f_Led_checkNode x1 x2 m) fun y1 =>
  o_b (f_Pla_isStanding F x1 x2 m) fun y3 =>
  o_gd (isb y3) <|
  some (.inl y3 : oX)
theorem s_Led_stands {K : aK} {d bc bs : Nat} {g : aG} (s : Sys g) (F : Nat) (x1 : Int32) (x2 : Int32) (m : aM) {r : oX} (e : f_Led_stands F x1 x2 m = some r) (hd : 8 ≤ d) (hc : 2 ≤ bc) (hs : 12 ≤ bs) : SpE K M_Led_stands d bc bs [.ref 0, .int x1, .int x2] (g, m) (o_out r) (g, m) := by
  refine spe_of ok_Led_stands rfl (Nat.le_of_ble_eq_true rfl) (by simp [Value.category]) (fun Q hq => ?_)
  unfold f_Led_stands at e
  refine g_aload_n k_Led_stands_0 rfl rfl ?_
  refine g_iload_n k_Led_stands_1 rfl rfl ?_
  refine g_iload_n k_Led_stands_2 rfl rfl ?_
  rcases o_tp_ex e with ⟨y1, e_y1, e⟩ | ⟨E2, e_y1, e⟩
  rotate_left
  · refine g_cvx k_Led_stands_3 lv_Led_192 (by decide +kernel) (T := F_Led) (N := 10) (ci := 9) rfl (sk_Led s) (s_Led_checkNode (bc := 2) (bs := 12) s x1 x2 m e_y1 (by omega) (by omega) (by omega)) rfl rfl (Nat.le_of_ble_eq_true rfl) (by simp [Value.category]) (by omega) (by omega) (by omega) rfl ?_
    exact (by cases e; exact hq)
  refine g_cv k_Led_stands_3 lv_Led_192 (by decide +kernel) (T := F_Led) (N := 10) (ci := 9) rfl (sk_Led s) (s_Led_checkNode (bc := 2) (bs := 12) s x1 x2 m e_y1 (by omega) (by omega) (by omega)) rfl rfl (Nat.le_of_ble_eq_true rfl) (by simp [Value.category]) (by omega) (by omega) (by omega) ?_
  refine g_aload_n k_Led_stands_6 rfl rfl ?_
  refine p_getr k_Led_stands_7 fl_Led_50 rfl (sk_Led s) (by decide) (sr_Led_6 s) ?_
  refine g_iload_n k_Led_stands_10 rfl rfl ?_
  refine g_iload_n k_Led_stands_11 rfl rfl ?_
  obtain ⟨y3, e_y3, e⟩ := o_b_ex e
  refine g_cv k_Led_stands_12 lv_Led_196 (by decide +kernel) (T := F_Pla) (N := 8) (ci := 4) rfl (sk_Pla (sy_Pla s)) (s_Pla_isStanding (bc := 0) (bs := 0) s F x1 x2 m e_y3 (by omega)) rfl rfl (Nat.le_of_ble_eq_true rfl) (by simp [Value.category]) (by omega) (by omega) (by omega) ?_
  obtain ⟨q4, e⟩ := o_gd_ex e
  refine g_zret k_Led_stands_15 rfl (isb_or q4) ?_
  exact (by cases e; exact hq)
