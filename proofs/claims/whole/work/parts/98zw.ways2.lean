/-! THE CALLS that may make Ways or Likes: what they cost where it is there (made by wip/gen/ways2.py) -/
def WQX (w : Nat) (r : oX) (g g' : aG) : Prop := match r with
  | .inl _ => WR w g g'
  | .inr _ => g' = g
theorem s_Led_workedX {K : aK} {d bc bs w : Nat} {g : aG} (s : Sys g) (hb : 242 ≤ g.1) (F : Nat) {m mw : aM} (W : Wh g w m mw) {r : Int32} {m1 : aM} (e : f_Way_workIfStale F w mw = some (r, m1)) (hd : 5 ≤ d) (hc : WAt g w ∨ (7 ≤ bc ∧ 27876 ≤ bs)) : SpR K M_Led_worked d bc bs [.ref 0] (g, m) (fun v h' => ∃ g', v = some (.ref w) ∧ h' = (g', m1) ∧ WR w g g') := by
  refine spr_of ok_Led_worked rfl (Nat.le_of_ble_eq_true rfl) (by simp [Value.category]) (fun Q hq => ?_)
  have tail : ∀ (g' : aG) (bc bs : Nat), Sys g' → WR w g g' → G K M_Led_worked d bc bs 22 [.ref 0] [] (g', mw) Q := fun g' bc bs s' R => by
    have A := R.2.1
    refine g_aload_n k_Led_worked_22 rfl rfl ?_
    refine p_getr k_Led_worked_23 fl_Led_54 rfl (sk_Led s') (by decide) A.1 ?_
    refine g_cv k_Led_worked_26 lv_Led_222 (by decide +kernel) (T := F_Way) (N := 9) (ci := 8) rfl (sk_Way A.2.1) (s_Way_workIfStale (bc := 0) (bs := 0) s' F w A.2.1 mw e (by omega)) rfl rfl (Nat.le_of_ble_eq_true rfl) (by simp [Value.category]) (by omega) (by omega) (by omega) ?_
    refine g_aload_n k_Led_worked_29 rfl rfl ?_
    refine p_getr k_Led_worked_30 fl_Led_54 rfl (sk_Led s') (by decide) A.1 ?_
    refine g_aret k_Led_worked_33 rfl ?_
    exact hq _ (g', m1) ⟨g', rfl, rfl, R⟩
  refine g_aload_n k_Led_worked_0 rfl rfl ?_
  rcases W with ⟨A, rfl⟩ | ⟨hn, hw, v, ei⟩
  · refine p_getr k_Led_worked_1 fl_Led_54 rfl (sk_Led s) (by decide) A.1 ?_
    refine g_nonnull (tgt := 22) k_Led_worked_4 (by decide) ?_
    exact tail g _ _ s ⟨Ext.rf, A, rfl, Or.inl rfl⟩
  · obtain ⟨hc, hs⟩ := hc.resolve_left (fun A => by rw [A.1] at hn; cases hn)
    refine p_getn k_Led_worked_1 fl_Led_54 rfl (sk_Led s) (by decide) hn ?_
    refine g_nonnullN k_Led_worked_4 ?_
    refine g_aload_n k_Led_worked_7 rfl rfl ?_
    refine co_no hw k_Led_worked_8 nl_Led_206 (by decide +kernel) (by omega) (by omega) (fun g1 z1 x1 h1 n1 => ?_)
    refine g_dup k_Led_worked_11 rfl ?_
    refine g_aload_n k_Led_worked_12 rfl rfl ?_
    refine p_getr k_Led_worked_13 fl_Led_50 rfl ((x1 0 (by omega)).1.trans (sk_Led s)) (by decide) (((x1 0 (by omega)).2 6).trans (sr_Led_6 s)) ?_
    refine g_ciG (bc' := 6) (bs' := 27867) k_Led_worked_16 li_Led_219 (s_Way_init w z1 h1 29 rfl _ ei (by omega) (by omega) (by omega)) rfl rfl (Nat.le_of_ble_eq_true rfl) (by simp [Value.category]) (by omega) (by omega) (by omega) (fun g2 r2 => ?_)
    obtain ⟨z2, x2, sW⟩ := r2
    refine co_pr k_Led_worked_19 fl_Led_54 rfl ⟨R_Led, F_Led, 10, rfl, Or.inl rfl⟩ ((x2 0 (by omega)).1.trans ((x1 0 (by omega)).1.trans (sk_Led s))) (by decide) (fun g3 x3 => ?_)
    have E : Ext g g3 := Ext.mk3 hw x1 x2 (by omega) x3 (Or.inl ⟨rfl, rfl⟩)
    exact tail g3 _ _ (s.ext E hb) ⟨E, ⟨x3.2.2.2, sW.pt x3 (by omega), by rw [x3.1]; omega⟩, (x3.2.2.1 21 8 (by omega)).trans (((x2 21 (by omega)).2 8).trans ((x1 21 (by omega)).2 8)), Or.inr (by rw [x3.1]; omega)⟩
theorem s_Led_wayX {K : aK} {d bc bs w : Nat} {g : aG} (s : Sys g) (hb : 242 ≤ g.1) (F : Nat) (x1 x2 x3 : Int32) {m mw : aM} (W : Wh g w m mw) {r : oX} {m' : aM} (e : u_way F w x1 x2 x3 m mw = some (r, m')) (hd : 20 ≤ d) {cW sW : Nat} (hW : (∃ y, r = .inl y) → WAt g w ∨ (7 ≤ cW ∧ 27876 ≤ sW)) (hc : cW + 5 ≤ bc) (hs : sW + 44 ≤ bs) : SpG K M_Led_way d bc bs [.ref 0, .int x1, .int x2, .int x3] (g, m) (o_out r) m' (WQX w r g) := by
  refine spg_of ok_Led_way rfl (Nat.le_of_ble_eq_true rfl) (by simp [Value.category]) (fun Q hq => ?_)
  unfold u_way at e
  refine g_aload_n k_Led_way_0 rfl rfl ?_
  refine g_iload_n k_Led_way_1 rfl rfl ?_
  refine g_iload_n k_Led_way_2 rfl rfl ?_
  rcases o_t_ex e with ⟨y1, e1, e⟩ | ⟨E2, e1, e⟩
  rotate_left
  · refine g_cvx k_Led_way_3 lv_Led_192 (by decide +kernel) (T := F_Led) (N := 10) (ci := 9) rfl (sk_Led s) (s_Led_checkNode (bc := 2) (bs := 12) s x1 x2 m e1 (by omega) (by omega) (by omega)) rfl rfl (Nat.le_of_ble_eq_true rfl) (by simp [Value.category]) (by omega) (by omega) (by omega) rfl ?_
    exact (by cases e; exact hq g rfl)
  refine g_cv k_Led_way_3 lv_Led_192 (by decide +kernel) (T := F_Led) (N := 10) (ci := 9) rfl (sk_Led s) (s_Led_checkNode (bc := 2) (bs := 12) s x1 x2 m e1 (by omega) (by omega) (by omega)) rfl rfl (Nat.le_of_ble_eq_true rfl) (by simp [Value.category]) (by omega) (by omega) (by omega) ?_
  refine g_iload_n k_Led_way_6 rfl rfl ?_
  refine g_bipush (v := (-2)) k_Led_way_7 rfl ?_
  refine g_icmp_ge (tgt := 22) k_Led_way_9 (by decide) (fun c => ?_) (fun c => ?_)
  rotate_left
  · rw [if_neg c] at e
    refine g_th rfl tl_iae (k := 14) rfl k_Led_way_12 k_Led_way_15 k_Led_way_16 k_Led_way_18 k_Led_way_21 (by omega) (by omega) (by omega) ?_
    exact (by cases e; exact hq g rfl)
  rw [if_pos c] at e
  refine g_aload_n k_Led_way_22 rfl rfl ?_
  obtain ⟨y2, m1, e2, e⟩ := o_b2_ex e
  have hW := hW (by obtain ⟨y3, _, e⟩ := o_b_ex e; cases e; exact ⟨_, rfl⟩)
  refine g_cvR (bc' := cW) (bs' := sW) k_Led_way_23 lv_Led_201 (by decide +kernel) (T := F_Led) (N := 10) (ci := 9) rfl (sk_Led s) (s_Led_workedX s hb F W e2 (by omega) hW) rfl rfl (Nat.le_of_ble_eq_true rfl) (by simp [Value.category]) (by omega) (by omega) (by omega) (fun v h' P => ?_)
  obtain ⟨g1, rfl, rfl, R⟩ := P
  have s1 := s.ext R.1 hb
  refine g_iload_n k_Led_way_26 rfl rfl ?_
  refine g_iload_n k_Led_way_27 rfl rfl ?_
  refine g_iload_n k_Led_way_28 rfl rfl ?_
  obtain ⟨y3, e3, e⟩ := o_b_ex e
  refine g_cv k_Led_way_29 lv_Led_205 (by decide +kernel) (T := F_Way) (N := 9) (ci := 8) rfl (sk_Way R.2.1.2.1) (s_Way_partOfWay (bc := 0) (bs := 0) s1 F w R.2.1.2.1 x1 x2 x3 m1 e3 (by omega)) rfl rfl (Nat.le_of_ble_eq_true rfl) (by simp [Value.category]) (by omega) (by omega) (by omega) ?_
  refine g_iret k_Led_way_32 rfl ?_
  exact (by cases e; exact hq _ R)
theorem s_Led_fewestX {K : aK} {d bc bs w : Nat} {g : aG} (s : Sys g) (hb : 242 ≤ g.1) (F : Nat) (x1 x2 : Int32) {m mw : aM} (W : Wh g w m mw) {r : oX} {m' : aM} (e : u_fewest F w x1 x2 m mw = some (r, m')) (hd : 20 ≤ d) {cW sW : Nat} (hW : (∃ y, r = .inl y) → WAt g w ∨ (7 ≤ cW ∧ 27876 ≤ sW)) (hc : cW + 5 ≤ bc) (hs : sW + 44 ≤ bs) : SpG K M_Led_fewest d bc bs [.ref 0, .int x1, .int x2] (g, m) (o_out r) m' (WQX w r g) := by
  refine spg_of ok_Led_fewest rfl (Nat.le_of_ble_eq_true rfl) (by simp [Value.category]) (fun Q hq => ?_)
  unfold u_fewest at e
  refine g_aload_n k_Led_fewest_0 rfl rfl ?_
  refine g_iload_n k_Led_fewest_1 rfl rfl ?_
  refine g_iload_n k_Led_fewest_2 rfl rfl ?_
  rcases o_t_ex e with ⟨y1, e1, e⟩ | ⟨E2, e1, e⟩
  rotate_left
  · refine g_cvx k_Led_fewest_3 lv_Led_192 (by decide +kernel) (T := F_Led) (N := 10) (ci := 9) rfl (sk_Led s) (s_Led_checkNode (bc := 2) (bs := 12) s x1 x2 m e1 (by omega) (by omega) (by omega)) rfl rfl (Nat.le_of_ble_eq_true rfl) (by simp [Value.category]) (by omega) (by omega) (by omega) rfl ?_
    exact (by cases e; exact hq g rfl)
  refine g_cv k_Led_fewest_3 lv_Led_192 (by decide +kernel) (T := F_Led) (N := 10) (ci := 9) rfl (sk_Led s) (s_Led_checkNode (bc := 2) (bs := 12) s x1 x2 m e1 (by omega) (by omega) (by omega)) rfl rfl (Nat.le_of_ble_eq_true rfl) (by simp [Value.category]) (by omega) (by omega) (by omega) ?_
  refine g_aload_n k_Led_fewest_6 rfl rfl ?_
  obtain ⟨y2, m1, e2, e⟩ := o_b2_ex e
  have hW := hW (by obtain ⟨y3, _, e⟩ := o_b_ex e; cases e; exact ⟨_, rfl⟩)
  refine g_cvR (bc' := cW) (bs' := sW) k_Led_fewest_7 lv_Led_201 (by decide +kernel) (T := F_Led) (N := 10) (ci := 9) rfl (sk_Led s) (s_Led_workedX s hb F W e2 (by omega) hW) rfl rfl (Nat.le_of_ble_eq_true rfl) (by simp [Value.category]) (by omega) (by omega) (by omega) (fun v h' P => ?_)
  obtain ⟨g1, rfl, rfl, R⟩ := P
  have s1 := s.ext R.1 hb
  refine g_iload_n k_Led_fewest_10 rfl rfl ?_
  refine g_iload_n k_Led_fewest_11 rfl rfl ?_
  obtain ⟨y3, e3, e⟩ := o_b_ex e
  refine g_cv k_Led_fewest_12 lv_Led_210 (by decide +kernel) (T := F_Way) (N := 9) (ci := 8) rfl (sk_Way R.2.1.2.1) (s_Way_fewestRewritten (bc := 0) (bs := 0) s1 w R.2.1.2.1 x1 x2 m1 e3 (by omega)) rfl rfl (Nat.le_of_ble_eq_true rfl) (by simp [Value.category]) (by omega) (by omega) (by omega) ?_
  refine g_iret k_Led_fewest_15 rfl ?_
  exact (by cases e; exact hq _ R)
theorem s_Led_isBackX {K : aK} {d bc bs w : Nat} {g : aG} (s : Sys g) (hb : 242 ≤ g.1) (F : Nat) (x1 x2 : Int32) {m mw : aM} (W : Wh g w m mw) {r : oX} {m' : aM} (e : u_isBack F w x1 x2 m mw = some (r, m')) (hd : 20 ≤ d) {cW sW : Nat} (hW : (∃ y, r = .inl y) → WAt g w ∨ (7 ≤ cW ∧ 27876 ≤ sW)) (hc : cW + 5 ≤ bc) (hs : sW + 44 ≤ bs) : SpG K M_Led_isBack d bc bs [.ref 0, .int x1, .int x2] (g, m) (o_out r) m' (WQX w r g) := by
  refine spg_of ok_Led_isBack rfl (Nat.le_of_ble_eq_true rfl) (by simp [Value.category]) (fun Q hq => ?_)
  unfold u_isBack at e
  refine g_aload_n k_Led_isBack_0 rfl rfl ?_
  refine g_iload_n k_Led_isBack_1 rfl rfl ?_
  refine g_iload_n k_Led_isBack_2 rfl rfl ?_
  rcases o_t_ex e with ⟨y1, e1, e⟩ | ⟨E2, e1, e⟩
  rotate_left
  · refine g_cvx k_Led_isBack_3 lv_Led_192 (by decide +kernel) (T := F_Led) (N := 10) (ci := 9) rfl (sk_Led s) (s_Led_checkNode (bc := 2) (bs := 12) s x1 x2 m e1 (by omega) (by omega) (by omega)) rfl rfl (Nat.le_of_ble_eq_true rfl) (by simp [Value.category]) (by omega) (by omega) (by omega) rfl ?_
    exact (by cases e; exact hq g rfl)
  refine g_cv k_Led_isBack_3 lv_Led_192 (by decide +kernel) (T := F_Led) (N := 10) (ci := 9) rfl (sk_Led s) (s_Led_checkNode (bc := 2) (bs := 12) s x1 x2 m e1 (by omega) (by omega) (by omega)) rfl rfl (Nat.le_of_ble_eq_true rfl) (by simp [Value.category]) (by omega) (by omega) (by omega) ?_
  refine g_aload_n k_Led_isBack_6 rfl rfl ?_
  obtain ⟨y2, m1, e2, e⟩ := o_b2_ex e
  have hW := hW (by obtain ⟨y3, _, e⟩ := o_b_ex e; obtain ⟨_, e⟩ := o_gd_ex e; cases e; exact ⟨_, rfl⟩)
  refine g_cvR (bc' := cW) (bs' := sW) k_Led_isBack_7 lv_Led_201 (by decide +kernel) (T := F_Led) (N := 10) (ci := 9) rfl (sk_Led s) (s_Led_workedX s hb F W e2 (by omega) hW) rfl rfl (Nat.le_of_ble_eq_true rfl) (by simp [Value.category]) (by omega) (by omega) (by omega) (fun v h' P => ?_)
  obtain ⟨g1, rfl, rfl, R⟩ := P
  have s1 := s.ext R.1 hb
  refine g_iload_n k_Led_isBack_10 rfl rfl ?_
  refine g_iload_n k_Led_isBack_11 rfl rfl ?_
  obtain ⟨y3, e3, e⟩ := o_b_ex e
  refine g_cv k_Led_isBack_12 lv_Led_213 (by decide +kernel) (T := F_Way) (N := 9) (ci := 8) rfl (sk_Way R.2.1.2.1) (s_Way_hasBack (bc := 0) (bs := 0) s1 w R.2.1.2.1 x1 x2 m1 e3 (by omega)) rfl rfl (Nat.le_of_ble_eq_true rfl) (by simp [Value.category]) (by omega) (by omega) (by omega) ?_
  obtain ⟨q4, e⟩ := o_gd_ex e
  refine g_zret k_Led_isBack_15 rfl (isb_or q4) ?_
  exact (by cases e; exact hq _ R)
theorem s_Led_lastX {K : aK} {d bc bs w : Nat} {g : aG} (s : Sys g) (hb : 242 ≤ g.1) (F : Nat) (x1 x2 : Int32) {m mw : aM} (W : Wh g w m mw) {r : oX} {m' : aM} (e : u_last F w x1 x2 m mw = some (r, m')) (hd : 20 ≤ d) {cW sW : Nat} (hW : (∃ y, r = .inl y) → WAt g w ∨ (7 ≤ cW ∧ 27876 ≤ sW)) (hc : cW + 5 ≤ bc) (hs : sW + 44 ≤ bs) : SpG K M_Led_last d bc bs [.ref 0, .int x1, .int x2] (g, m) (o_out r) m' (WQX w r g) := by
  refine spg_of ok_Led_last rfl (Nat.le_of_ble_eq_true rfl) (by simp [Value.category]) (fun Q hq => ?_)
  unfold u_last at e
  refine g_aload_n k_Led_last_0 rfl rfl ?_
  refine g_iload_n k_Led_last_1 rfl rfl ?_
  refine g_iload_n k_Led_last_2 rfl rfl ?_
  rcases o_t_ex e with ⟨y1, e1, e⟩ | ⟨E2, e1, e⟩
  rotate_left
  · refine g_cvx k_Led_last_3 lv_Led_192 (by decide +kernel) (T := F_Led) (N := 10) (ci := 9) rfl (sk_Led s) (s_Led_checkNode (bc := 2) (bs := 12) s x1 x2 m e1 (by omega) (by omega) (by omega)) rfl rfl (Nat.le_of_ble_eq_true rfl) (by simp [Value.category]) (by omega) (by omega) (by omega) rfl ?_
    exact (by cases e; exact hq g rfl)
  refine g_cv k_Led_last_3 lv_Led_192 (by decide +kernel) (T := F_Led) (N := 10) (ci := 9) rfl (sk_Led s) (s_Led_checkNode (bc := 2) (bs := 12) s x1 x2 m e1 (by omega) (by omega) (by omega)) rfl rfl (Nat.le_of_ble_eq_true rfl) (by simp [Value.category]) (by omega) (by omega) (by omega) ?_
  refine g_aload_n k_Led_last_6 rfl rfl ?_
  obtain ⟨y2, m1, e2, e⟩ := o_b2_ex e
  have hW := hW (by obtain ⟨y3, _, e⟩ := o_b_ex e; cases e; exact ⟨_, rfl⟩)
  refine g_cvR (bc' := cW) (bs' := sW) k_Led_last_7 lv_Led_201 (by decide +kernel) (T := F_Led) (N := 10) (ci := 9) rfl (sk_Led s) (s_Led_workedX s hb F W e2 (by omega) hW) rfl rfl (Nat.le_of_ble_eq_true rfl) (by simp [Value.category]) (by omega) (by omega) (by omega) (fun v h' P => ?_)
  obtain ⟨g1, rfl, rfl, R⟩ := P
  have s1 := s.ext R.1 hb
  refine g_iload_n k_Led_last_10 rfl rfl ?_
  refine g_iload_n k_Led_last_11 rfl rfl ?_
  obtain ⟨y3, e3, e⟩ := o_b_ex e
  refine g_cv k_Led_last_12 lv_Led_216 (by decide +kernel) (T := F_Way) (N := 9) (ci := 8) rfl (sk_Way R.2.1.2.1) (s_Way_lastBack (bc := 0) (bs := 0) s1 F w R.2.1.2.1 x1 x2 m1 e3 (by omega)) rfl rfl (Nat.le_of_ble_eq_true rfl) (by simp [Value.category]) (by omega) (by omega) (by omega) ?_
  refine g_iret k_Led_last_15 rfl ?_
  exact (by cases e; exact hq _ R)
theorem s_Box_lostLettersX {K : aK} {d bc bs a : Nat} {g : aG} (s : Sys g) (hb : 242 ≤ g.1) (F : Nat) {m ml : aM} (W : Lh g a m ml) {r : Int32} {m' : aM} (e : b_Box_lostLetters_18 F a ml = some (r, m')) (hd : 6 ≤ d) (hc : LAt g a ∨ (3 ≤ bc ∧ 40962 ≤ bs)) : SpR K M_Box_lostLetters d bc bs [.ref 21] (g, m) (fun v h' => ∃ g', v = some (.int r) ∧ h' = (g', m') ∧ LR a g g') := by
  refine spr_of ok_Box_lostLetters rfl (Nat.le_of_ble_eq_true rfl) (by simp [Value.category]) (fun Q hq => ?_)
  have tail : ∀ (g' : aG) (bc bs : Nat), Sys g' → LR a g g' → G K M_Box_lostLetters d bc bs 18 [.ref 21, .double 0, .double 0, .double 0, .double 0, .double 0] [] (g', ml) Q := fun g' bc bs s' R =>
    t_Box_lostLetters_18 s' F a R.2.1.2.1 R.2.1.1 ml (hq _ (g', m') ⟨g', rfl, rfl, R⟩) e (by omega)
  refine g_aload_n k_Box_lostLetters_0 rfl rfl ?_
  rcases W with ⟨A, rfl⟩ | ⟨hn, hw, v, ei⟩
  · refine p_getr k_Box_lostLetters_1 fl_Box_37 rfl (sk_Box (sy_Box s)) (by decide) A.1 ?_
    refine g_nonnull (tgt := 18) k_Box_lostLetters_4 (by decide) ?_
    exact tail g _ _ s ⟨Ext.rf, A, rfl, Or.inl rfl⟩
  · obtain ⟨hc, hs⟩ := hc.resolve_left (fun A => by rw [A.1] at hn; cases hn)
    refine p_getn k_Box_lostLetters_1 fl_Box_37 rfl (sk_Box (sy_Box s)) (by decide) hn ?_
    refine g_nonnullN k_Box_lostLetters_4 ?_
    refine g_aload_n k_Box_lostLetters_7 rfl rfl ?_
    refine co_no hw k_Box_lostLetters_8 nl_Box_60 (by decide +kernel) (by omega) (by omega) (fun g1 z1 x1 h1 n1 => ?_)
    refine g_dup k_Box_lostLetters_11 rfl ?_
    refine g_cinG (M' := M_Lik_init) (bc' := 2) (bs' := 40960) k_Box_lostLetters_12 nn_Box_62 in_Lik rfl rfl cm_Lik_init (s_Lik_init a z1 h1 _ ei (by omega) (by omega) (by omega)) rfl rfl (Nat.le_of_ble_eq_true rfl) (by simp [Value.category]) (by omega) (by omega) (by omega) (fun g2 r2 => ?_)
    obtain ⟨z2, x2, sL⟩ := r2
    refine co_pr k_Box_lostLetters_15 fl_Box_37 rfl ⟨R_Box, F_Box, 9, rfl, Or.inl rfl⟩ ((x2 21 (by omega)).1.trans ((x1 21 (by omega)).1.trans (sk_Box (sy_Box s)))) (by decide) (fun g3 x3 => ?_)
    have E : Ext g g3 := Ext.mk3 hw x1 x2 (by omega) x3 (Or.inr ⟨rfl, rfl⟩)
    exact tail g3 _ _ (s.ext E hb) ⟨E, ⟨x3.2.2.2, sL.pt x3 (by omega), by rw [x3.1]; omega⟩, (x3.2.2.1 0 7 (by omega)).trans (((x2 0 (by omega)).2 7).trans ((x1 0 (by omega)).2 7)), Or.inr (by rw [x3.1]; omega)⟩
theorem s_Led_lostX {K : aK} {d bc bs a : Nat} {g : aG} (s : Sys g) (hb : 242 ≤ g.1) (F : Nat) {m ml : aM} (W : Lh g a m ml) {r : Int32} {m' : aM} (e : b_Box_lostLetters_18 F a ml = some (r, m')) (hd : 7 ≤ d) (hc : LAt g a ∨ (3 ≤ bc ∧ 40962 ≤ bs)) : SpR K M_Led_lost d bc bs [.ref 0] (g, m) (fun v h' => ∃ g', v = some (.int r) ∧ h' = (g', m') ∧ LR a g g') := by
  refine spr_of ok_Led_lost rfl (Nat.le_of_ble_eq_true rfl) (by simp [Value.category]) (fun Q hq => ?_)
  refine g_aload_n k_Led_lost_0 rfl rfl ?_
  refine p_getr k_Led_lost_1 fl_Led_43 rfl (sk_Led s) (by decide) (sr_Led_5 s) ?_
  refine g_cvR (bc' := bc) (bs' := bs) k_Led_lost_4 lv_Led_154 (by decide +kernel) (T := F_Box) (N := 9) (ci := 1) rfl (sk_Box (sy_Box s)) (s_Box_lostLettersX s hb F W e (by omega) hc) rfl rfl (Nat.le_of_ble_eq_true rfl) (by simp [Value.category]) (by omega) (by omega) (by omega) (fun v h' P => ?_)
  obtain ⟨g1, rfl, rfl, R⟩ := P
  refine g_iret k_Led_lost_7 rfl ?_
  exact hq _ _ ⟨g1, rfl, rfl, R⟩

