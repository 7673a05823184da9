/-! THE CALLS that may make Ways or Likes (made by wip/gen/ways.py) -/
def WAt (g : aG) (w : Nat) : Prop := g.2.2.1 0 7 = some w ∧ ShWay g w ∧ w + 6 < g.1
def LAt (g : aG) (a : Nat) : Prop := g.2.2.1 21 8 = some a ∧ ShLik g a ∧ a + 2 < g.1
theorem Ext.mk3 {z a k : Nat} {b : Option Nat} {g g1 g2 g3 : aG} (hz : g.1 = z) (h1 : Bl z g g1) (h2 : Bl z g1 g2) (hl : z ≤ g2.1) (p : Pt1 a k b g2 g3) (hk : (a = 0 ∧ k = 7) ∨ (a = 21 ∧ k = 8)) : Ext g g3 := by
  refine ⟨by rw [p.1]; omega, fun c hc => ⟨((p.2.1 c).trans (h2 c (by omega)).1).trans (h1 c (by omega)).1, fun j n1 n2 => ((p.2.2.1 c j (fun q => ?_)).trans ((h2 c (by omega)).2 j)).trans ((h1 c (by omega)).2 j)⟩⟩
  rcases hk with ⟨k1, k2⟩ | ⟨k1, k2⟩
  · exact n1 ⟨by omega, by omega⟩
  · exact n2 ⟨by omega, by omega⟩
/-- the ways are there at w, or will be made there: mw: the memory then -/
def Wh (g : aG) (w : Nat) (m mw : aM) : Prop := (WAt g w ∧ mw = m) ∨ (g.2.2.1 0 7 = none ∧ g.1 = w ∧ ∃ v, f_Way_init w (a_zr m w) = some (v, mw))
/-- what the making of the ways leaves -/
def WR (w : Nat) (g g' : aG) : Prop := Ext g g' ∧ WAt g' w ∧ g'.2.2.1 21 8 = g.2.2.1 21 8 ∧ (g'.1 = g.1 ∨ g'.1 = g.1 + 7)
theorem s_Led_worked {K : aK} {d bc bs w : Nat} {g : aG} (s : Sys g) (hb : 242 ≤ g.1) (F : Nat) {m mw : aM} (W : Wh g w m mw) {r : Int32} {m1 : aM} (e : f_Way_workIfStale F w mw = some (r, m1)) (hd : 5 ≤ d) (hc : 7 ≤ bc) (hs : 27876 ≤ bs) : SpR K M_Led_worked d bc bs [.ref 0] (g, m) (fun v h' => ∃ g', v = some (.ref w) ∧ h' = (g', m1) ∧ WR w g g') := by
  refine spr_of ok_Led_worked rfl (Nat.le_of_ble_eq_true rfl) (by simp [Value.category]) (fun Q hq => ?_)
  have tail : ∀ (g' : aG) (bc bs : Nat), Sys g' → WR w g g' → G K M_Led_worked d bc bs 22 [.ref 0] [] (g', mw) Q := fun g' bc bs s' R => by
    have A := R.2.1
    refine g_aload_n k_Led_worked_22 rfl rfl ?_
    refine p_getr k_Led_worked_23 fl_Led_54 rfl (sk_Led s') (by decide) A.1 ?_
    refine g_cv k_Led_worked_26 lv_Led_222 (by decide +kernel) (T := F_Way) (N := 9) (ci := 8) rfl (sk_Way A.2.1) (s_Way_workIfStale (bc := 0) (bs := 0) s' F w A.2.1 mw e (by omega)) rfl rfl (Nat.le_of_ble_eq_true rfl) (by simp [Value.category]) (by omega) (by omega) (by omega) ?_
    refine g_aload_n k_Led_worked_29 rfl rfl ?_
    refine p_getr k_Led_worked_30 fl_Led_54 rfl (sk_Led s') (by decide) A.1 ?_
    refine g_aret k_Led_worked_33 rfl ?_
    exact hq _ (g', m1) ⟨g', rfl, rfl, R⟩
  refine g_aload_n k_Led_worked_0 rfl rfl ?_
  rcases W with ⟨A, rfl⟩ | ⟨hn, hw, v, ei⟩
  · refine p_getr k_Led_worked_1 fl_Led_54 rfl (sk_Led s) (by decide) A.1 ?_
    refine g_nonnull (tgt := 22) k_Led_worked_4 (by decide) ?_
    exact tail g _ _ s ⟨Ext.rf, A, rfl, Or.inl rfl⟩
  · refine p_getn k_Led_worked_1 fl_Led_54 rfl (sk_Led s) (by decide) hn ?_
    refine g_nonnullN k_Led_worked_4 ?_
    refine g_aload_n k_Led_worked_7 rfl rfl ?_
    refine co_no hw k_Led_worked_8 nl_Led_206 (by decide +kernel) (by omega) (by omega) (fun g1 z1 x1 h1 n1 => ?_)
    refine g_dup k_Led_worked_11 rfl ?_
    refine g_aload_n k_Led_worked_12 rfl rfl ?_
    refine p_getr k_Led_worked_13 fl_Led_50 rfl ((x1 0 (by omega)).1.trans (sk_Led s)) (by decide) (((x1 0 (by omega)).2 6).trans (sr_Led_6 s)) ?_
    refine g_ciG (bc' := 6) (bs' := 27867) k_Led_worked_16 li_Led_219 (s_Way_init w z1 h1 29 rfl _ ei (by omega) (by omega) (by omega)) rfl rfl (Nat.le_of_ble_eq_true rfl) (by simp [Value.category]) (by omega) (by omega) (by omega) (fun g2 r2 => ?_)
    obtain ⟨z2, x2, sW⟩ := r2
    refine co_pr k_Led_worked_19 fl_Led_54 rfl ⟨R_Led, F_Led, 10, rfl, Or.inl rfl⟩ ((x2 0 (by omega)).1.trans ((x1 0 (by omega)).1.trans (sk_Led s))) (by decide) (fun g3 x3 => ?_)
    have E : Ext g g3 := Ext.mk3 hw x1 x2 (by omega) x3 (Or.inl ⟨rfl, rfl⟩)
    exact tail g3 _ _ (s.ext E hb) ⟨E, ⟨x3.2.2.2, sW.pt x3 (by omega), by rw [x3.1]; omega⟩, (x3.2.2.1 21 8 (by omega)).trans (((x2 21 (by omega)).2 8).trans ((x1 21 (by omega)).2 8)), Or.inr (by rw [x3.1]; omega)⟩
/-- contracts of what may make cells and throw -/
def SpG (K : aK) (M : aMI) (d bc bs : Nat) (av : List Value) (h : aH) (o : Option Value ⊕ String) (m' : aM) (R : aG → Prop) : Prop := ∀ Q : aQ, (∀ g', R g' → Q o (g', m')) → Run K M d bc bs av h Q
theorem spg_of {K : aK} {M : aMI} {d bc bs : Nat} {av : List Value} {h : aH} {m' : aM} {R : aG → Prop} {o : Option Value ⊕ String} (ok : a_ok M) (hh : M.2.2.2.2.2 = []) (hl : av.length ≤ M.2.2.1) (hc : ∀ v ∈ av, v.category = 1) (k : ∀ Q : aQ, (∀ g', R g' → Q o (g', m')) → G K M d bc bs 0 (a_L0 M av) [] h Q) : SpG K M d bc bs av h o m' R := fun Q hq => run_of ok hh hl hc (k Q hq)
/-- what a call on the ways leaves of the cells -/
def WQ (w : Nat) (g g' : aG) : Prop := g' = g ∨ WR w g g'
def u_way (F w : Nat) (x1 x2 x3 : Int32) (m mw : aM) : Option (oX × aM) := o_t (f_Led_checkNode x1 x2 m) m fun _ => if -2 ≤ x3 then o_b2 (f_Way_workIfStale F w mw) fun _ m1 => o_b (f_Way_partOfWay F w x1 x2 x3 m1) fun y => some (.inl y, m1) else some (.inr "java/lang/IllegalArgumentException", m)
theorem s_Led_way {K : aK} {d bc bs w : Nat} {g : aG} (s : Sys g) (hb : 242 ≤ g.1) (F : Nat) (x1 x2 x3 : Int32) {m mw : aM} (W : Wh g w m mw) {r : oX} {m' : aM} (e : u_way F w x1 x2 x3 m mw = some (r, m')) (hd : 20 ≤ d) (hc : 12 ≤ bc) (hs : 27920 ≤ bs) : SpG K M_Led_way d bc bs [.ref 0, .int x1, .int x2, .int x3] (g, m) (o_out r) m' (WQ w g) := by
  refine spg_of ok_Led_way rfl (Nat.le_of_ble_eq_true rfl) (by simp [Value.category]) (fun Q hq => ?_)
  unfold u_way at e
  refine g_aload_n k_Led_way_0 rfl rfl ?_
  refine g_iload_n k_Led_way_1 rfl rfl ?_
  refine g_iload_n k_Led_way_2 rfl rfl ?_
  rcases o_t_ex e with ⟨y1, e1, e⟩ | ⟨E2, e1, e⟩
  rotate_left
  · refine g_cvx k_Led_way_3 lv_Led_192 (by decide +kernel) (T := F_Led) (N := 10) (ci := 9) rfl (sk_Led s) (s_Led_checkNode (bc := 2) (bs := 12) s x1 x2 m e1 (by omega) (by omega) (by omega)) rfl rfl (Nat.le_of_ble_eq_true rfl) (by simp [Value.category]) (by omega) (by omega) (by omega) rfl ?_
    exact (by cases e; exact hq _ (Or.inl rfl))
  refine g_cv k_Led_way_3 lv_Led_192 (by decide +kernel) (T := F_Led) (N := 10) (ci := 9) rfl (sk_Led s) (s_Led_checkNode (bc := 2) (bs := 12) s x1 x2 m e1 (by omega) (by omega) (by omega)) rfl rfl (Nat.le_of_ble_eq_true rfl) (by simp [Value.category]) (by omega) (by omega) (by omega) ?_
  refine g_iload_n k_Led_way_6 rfl rfl ?_
  refine g_bipush (v := (-2)) k_Led_way_7 rfl ?_
  refine g_icmp_ge (tgt := 22) k_Led_way_9 (by decide) (fun c => ?_) (fun c => ?_)
  rotate_left
  · rw [if_neg c] at e
    refine g_th rfl tl_iae (k := 14) rfl k_Led_way_12 k_Led_way_15 k_Led_way_16 k_Led_way_18 k_Led_way_21 (by omega) (by omega) (by omega) ?_
    exact (by cases e; exact hq _ (Or.inl rfl))
  rw [if_pos c] at e
  refine g_aload_n k_Led_way_22 rfl rfl ?_
  obtain ⟨y2, m1, e2, e⟩ := o_b2_ex e
  refine g_cvR (bc' := 7) (bs' := 27876) k_Led_way_23 lv_Led_201 (by decide +kernel) (T := F_Led) (N := 10) (ci := 9) rfl (sk_Led s) (s_Led_worked s hb F W e2 (by omega) (by omega) (by omega)) rfl rfl (Nat.le_of_ble_eq_true rfl) (by simp [Value.category]) (by omega) (by omega) (by omega) (fun v h' P => ?_)
  obtain ⟨g1, rfl, rfl, R⟩ := P
  have s1 := s.ext R.1 hb
  refine g_iload_n k_Led_way_26 rfl rfl ?_
  refine g_iload_n k_Led_way_27 rfl rfl ?_
  refine g_iload_n k_Led_way_28 rfl rfl ?_
  obtain ⟨y3, e3, e⟩ := o_b_ex e
  refine g_cv k_Led_way_29 lv_Led_205 (by decide +kernel) (T := F_Way) (N := 9) (ci := 8) rfl (sk_Way R.2.1.2.1) (s_Way_partOfWay (bc := 0) (bs := 0) s1 F w R.2.1.2.1 x1 x2 x3 m1 e3 (by omega)) rfl rfl (Nat.le_of_ble_eq_true rfl) (by simp [Value.category]) (by omega) (by omega) (by omega) ?_
  refine g_iret k_Led_way_32 rfl ?_
  exact (by cases e; exact hq _ (Or.inr R))
def u_fewest (F w : Nat) (x1 x2 : Int32) (m mw : aM) : Option (oX × aM) := o_t (f_Led_checkNode x1 x2 m) m fun _ => o_b2 (f_Way_workIfStale F w mw) fun _ m1 => o_b (f_Way_fewestRewritten w x1 x2 m1) fun y => some (.inl y, m1)
theorem s_Led_fewest {K : aK} {d bc bs w : Nat} {g : aG} (s : Sys g) (hb : 242 ≤ g.1) (F : Nat) (x1 x2 : Int32) {m mw : aM} (W : Wh g w m mw) {r : oX} {m' : aM} (e : u_fewest F w x1 x2 m mw = some (r, m')) (hd : 20 ≤ d) (hc : 12 ≤ bc) (hs : 27920 ≤ bs) : SpG K M_Led_fewest d bc bs [.ref 0, .int x1, .int x2] (g, m) (o_out r) m' (WQ w g) := by
  refine spg_of ok_Led_fewest rfl (Nat.le_of_ble_eq_true rfl) (by simp [Value.category]) (fun Q hq => ?_)
  unfold u_fewest at e
  refine g_aload_n k_Led_fewest_0 rfl rfl ?_
  refine g_iload_n k_Led_fewest_1 rfl rfl ?_
  refine g_iload_n k_Led_fewest_2 rfl rfl ?_
  rcases o_t_ex e with ⟨y1, e1, e⟩ | ⟨E2, e1, e⟩
  rotate_left
  · refine g_cvx k_Led_fewest_3 lv_Led_192 (by decide +kernel) (T := F_Led) (N := 10) (ci := 9) rfl (sk_Led s) (s_Led_checkNode (bc := 2) (bs := 12) s x1 x2 m e1 (by omega) (by omega) (by omega)) rfl rfl (Nat.le_of_ble_eq_true rfl) (by simp [Value.category]) (by omega) (by omega) (by omega) rfl ?_
    exact (by cases e; exact hq _ (Or.inl rfl))
  refine g_cv k_Led_fewest_3 lv_Led_192 (by decide +kernel) (T := F_Led) (N := 10) (ci := 9) rfl (sk_Led s) (s_Led_checkNode (bc := 2) (bs := 12) s x1 x2 m e1 (by omega) (by omega) (by omega)) rfl rfl (Nat.le_of_ble_eq_true rfl) (by simp [Value.category]) (by omega) (by omega) (by omega) ?_
  refine g_aload_n k_Led_fewest_6 rfl rfl ?_
  obtain ⟨y2, m1, e2, e⟩ := o_b2_ex e
  refine g_cvR (bc' := 7) (bs' := 27876) k_Led_fewest_7 lv_Led_201 (by decide +kernel) (T := F_Led) (N := 10) (ci := 9) rfl (sk_Led s) (s_Led_worked s hb F W e2 (by omega) (by omega) (by omega)) rfl rfl (Nat.le_of_ble_eq_true rfl) (by simp [Value.category]) (by omega) (by omega) (by omega) (fun v h' P => ?_)
  obtain ⟨g1, rfl, rfl, R⟩ := P
  have s1 := s.ext R.1 hb
  refine g_iload_n k_Led_fewest_10 rfl rfl ?_
  refine g_iload_n k_Led_fewest_11 rfl rfl ?_
  obtain ⟨y3, e3, e⟩ := o_b_ex e
  refine g_cv k_Led_fewest_12 lv_Led_210 (by decide +kernel) (T := F_Way) (N := 9) (ci := 8) rfl (sk_Way R.2.1.2.1) (s_Way_fewestRewritten (bc := 0) (bs := 0) s1 w R.2.1.2.1 x1 x2 m1 e3 (by omega)) rfl rfl (Nat.le_of_ble_eq_true rfl) (by simp [Value.category]) (by omega) (by omega) (by omega) ?_
  refine g_iret k_Led_fewest_15 rfl ?_
  exact (by cases e; exact hq _ (Or.inr R))
def u_isBack (F w : Nat) (x1 x2 : Int32) (m mw : aM) : Option (oX × aM) := o_t (f_Led_checkNode x1 x2 m) m fun _ => o_b2 (f_Way_workIfStale F w mw) fun _ m1 => o_b (f_Way_hasBack w x1 x2 m1) fun y => o_gd (isb y) <| some (.inl y, m1)
theorem s_Led_isBack {K : aK} {d bc bs w : Nat} {g : aG} (s : Sys g) (hb : 242 ≤ g.1) (F : Nat) (x1 x2 : Int32) {m mw : aM} (W : Wh g w m mw) {r : oX} {m' : aM} (e : u_isBack F w x1 x2 m mw = some (r, m')) (hd : 20 ≤ d) (hc : 12 ≤ bc) (hs : 27920 ≤ bs) : SpG K M_Led_isBack d bc bs [.ref 0, .int x1, .int x2] (g, m) (o_out r) m' (WQ w g) := by
  refine spg_of ok_Led_isBack rfl (Nat.le_of_ble_eq_true rfl) (by simp [Value.category]) (fun Q hq => ?_)
  unfold u_isBack at e
  refine g_aload_n k_Led_isBack_0 rfl rfl ?_
  refine g_iload_n k_Led_isBack_1 rfl rfl ?_
  refine g_iload_n k_Led_isBack_2 rfl rfl ?_
  rcases o_t_ex e with ⟨y1, e1, e⟩ | ⟨E2, e1, e⟩
  rotate_left
  · refine g_cvx k_Led_isBack_3 lv_Led_192 (by decide +kernel) (T := F_Led) (N := 10) (ci := 9) rfl (sk_Led s) (s_Led_checkNode (bc := 2) (bs := 12) s x1 x2 m e1 (by omega) (by omega) (by omega)) rfl rfl (Nat.le_of_ble_eq_true rfl) (by simp [Value.category]) (by omega) (by omega) (by omega) rfl ?_
    exact (by cases e; exact hq _ (Or.inl rfl))
  refine g_cv k_Led_isBack_3 lv_Led_192 (by decide +kernel) (T := F_Led) (N := 10) (ci := 9) rfl (sk_Led s) (s_Led_checkNode (bc := 2) (bs := 12) s x1 x2 m e1 (by omega) (by omega) (by omega)) rfl rfl (Nat.le_of_ble_eq_true rfl) (by simp [Value.category]) (by omega) (by omega) (by omega) ?_
  refine g_aload_n k_Led_isBack_6 rfl rfl ?_
  obtain ⟨y2, m1, e2, e⟩ := o_b2_ex e
  refine g_cvR (bc' := 7) (bs' := 27876) k_Led_isBack_7 lv_Led_201 (by decide +kernel) (T := F_Led) (N := 10) (ci := 9) rfl (sk_Led s) (s_Led_worked s hb F W e2 (by omega) (by omega) (by omega)) rfl rfl (Nat.le_of_ble_eq_true rfl) (by simp [Value.category]) (by omega) (by omega) (by omega) (fun v h' P => ?_)
  obtain ⟨g1, rfl, rfl, R⟩ := P
  have s1 := s.ext R.1 hb
  refine g_iload_n k_Led_isBack_10 rfl rfl ?_
  refine g_iload_n k_Led_isBack_11 rfl rfl ?_
  obtain ⟨y3, e3, e⟩ := o_b_ex e
  refine g_cv k_Led_isBack_12 lv_Led_213 (by decide +kernel) (T := F_Way) (N := 9) (ci := 8) rfl (sk_Way R.2.1.2.1) (s_Way_hasBack (bc := 0) (bs := 0) s1 w R.2.1.2.1 x1 x2 m1 e3 (by omega)) rfl rfl (Nat.le_of_ble_eq_true rfl) (by simp [Value.category]) (by omega) (by omega) (by omega) ?_
  obtain ⟨q4, e⟩ := o_gd_ex e
  refine g_zret k_Led_isBack_15 rfl (isb_or q4) ?_
  exact (by cases e; exact hq _ (Or.inr R))
def u_last (F w : Nat) (x1 x2 : Int32) (m mw : aM) : Option (oX × aM) := o_t (f_Led_checkNode x1 x2 m) m fun _ => o_b2 (f_Way_workIfStale F w mw) fun _ m1 => o_b (f_Way_lastBack F w x1 x2 m1) fun y => some (.inl y, m1)
theorem s_Led_last {K : aK} {d bc bs w : Nat} {g : aG} (s : Sys g) (hb : 242 ≤ g.1) (F : Nat) (x1 x2 : Int32) {m mw : aM} (W : Wh g w m mw) {r : oX} {m' : aM} (e : u_last F w x1 x2 m mw = some (r, m')) (hd : 20 ≤ d) (hc : 12 ≤ bc) (hs : 27920 ≤ bs) : SpG K M_Led_last d bc bs [.ref 0, .int x1, .int x2] (g, m) (o_out r) m' (WQ w g) := by
  refine spg_of ok_Led_last rfl (Nat.le_of_ble_eq_true rfl) (by simp [Value.category]) (fun Q hq => ?_)
  unfold u_last at e
  refine g_aload_n k_Led_last_0 rfl rfl ?_
  refine g_iload_n k_Led_last_1 rfl rfl ?_
  refine g_iload_n k_Led_last_2 rfl rfl ?_
  rcases o_t_ex e with ⟨y1, e1, e⟩ | ⟨E2, e1, e⟩
  rotate_left
  · refine g_cvx k_Led_last_3 lv_Led_192 (by decide +kernel) (T := F_Led) (N := 10) (ci := 9) rfl (sk_Led s) (s_Led_checkNode (bc := 2) (bs := 12) s x1 x2 m e1 (by omega) (by omega) (by omega)) rfl rfl (Nat.le_of_ble_eq_true rfl) (by simp [Value.category]) (by omega) (by omega) (by omega) rfl ?_
    exact (by cases e; exact hq _ (Or.inl rfl))
  refine g_cv k_Led_last_3 lv_Led_192 (by decide +kernel) (T := F_Led) (N := 10) (ci := 9) rfl (sk_Led s) (s_Led_checkNode (bc := 2) (bs := 12) s x1 x2 m e1 (by omega) (by omega) (by omega)) rfl rfl (Nat.le_of_ble_eq_true rfl) (by simp [Value.category]) (by omega) (by omega) (by omega) ?_
  refine g_aload_n k_Led_last_6 rfl rfl ?_
  obtain ⟨y2, m1, e2, e⟩ := o_b2_ex e
  refine g_cvR (bc' := 7) (bs' := 27876) k_Led_last_7 lv_Led_201 (by decide +kernel) (T := F_Led) (N := 10) (ci := 9) rfl (sk_Led s) (s_Led_worked s hb F W e2 (by omega) (by omega) (by omega)) rfl rfl (Nat.le_of_ble_eq_true rfl) (by simp [Value.category]) (by omega) (by omega) (by omega) (fun v h' P => ?_)
  obtain ⟨g1, rfl, rfl, R⟩ := P
  have s1 := s.ext R.1 hb
  refine g_iload_n k_Led_last_10 rfl rfl ?_
  refine g_iload_n k_Led_last_11 rfl rfl ?_
  obtain ⟨y3, e3, e⟩ := o_b_ex e
  refine g_cv k_Led_last_12 lv_Led_216 (by decide +kernel) (T := F_Way) (N := 9) (ci := 8) rfl (sk_Way R.2.1.2.1) (s_Way_lastBack (bc := 0) (bs := 0) s1 F w R.2.1.2.1 x1 x2 m1 e3 (by omega)) rfl rfl (Nat.le_of_ble_eq_true rfl) (by simp [Value.category]) (by omega) (by omega) (by omega) ?_
  refine g_iret k_Led_last_15 rfl ?_
  exact (by cases e; exact hq _ (Or.inr R))
/-- Likes is there at a, or will be made there: ml: the memory then -/
def Lh (g : aG) (a : Nat) (m ml : aM) : Prop := (LAt g a ∧ ml = m) ∨ (g.2.2.1 21 8 = none ∧ g.1 = a ∧ ∃ v, f_Lik_init a (a_zr m a) = some (v, ml))
def LR (a : Nat) (g g' : aG) : Prop := Ext g g' ∧ LAt g' a ∧ g'.2.2.1 0 7 = g.2.2.1 0 7 ∧ (g'.1 = g.1 ∨ g'.1 = g.1 + 3)
theorem s_Box_lostLetters {K : aK} {d bc bs a : Nat} {g : aG} (s : Sys g) (hb : 242 ≤ g.1) (F : Nat) {m ml : aM} (W : Lh g a m ml) {r : Int32} {m' : aM} (e : b_Box_lostLetters_18 F a ml = some (r, m')) (hd : 6 ≤ d) (hc : 3 ≤ bc) (hs : 40962 ≤ bs) : SpR K M_Box_lostLetters d bc bs [.ref 21] (g, m) (fun v h' => ∃ g', v = some (.int r) ∧ h' = (g', m') ∧ LR a g g') := by
  refine spr_of ok_Box_lostLetters rfl (Nat.le_of_ble_eq_true rfl) (by simp [Value.category]) (fun Q hq => ?_)
  have tail : ∀ (g' : aG) (bc bs : Nat), Sys g' → LR a g g' → G K M_Box_lostLetters d bc bs 18 [.ref 21, .double 0, .double 0, .double 0, .double 0, .double 0] [] (g', ml) Q := fun g' bc bs s' R =>
    t_Box_lostLetters_18 s' F a R.2.1.2.1 R.2.1.1 ml (hq _ (g', m') ⟨g', rfl, rfl, R⟩) e (by omega)
  refine g_aload_n k_Box_lostLetters_0 rfl rfl ?_
  rcases W with ⟨A, rfl⟩ | ⟨hn, hw, v, ei⟩
  · refine p_getr k_Box_lostLetters_1 fl_Box_37 rfl (sk_Box (sy_Box s)) (by decide) A.1 ?_
    refine g_nonnull (tgt := 18) k_Box_lostLetters_4 (by decide) ?_
    exact tail g _ _ s ⟨Ext.rf, A, rfl, Or.inl rfl⟩
  · refine p_getn k_Box_lostLetters_1 fl_Box_37 rfl (sk_Box (sy_Box s)) (by decide) hn ?_
    refine g_nonnullN k_Box_lostLetters_4 ?_
    refine g_aload_n k_Box_lostLetters_7 rfl rfl ?_
    refine co_no hw k_Box_lostLetters_8 nl_Box_60 (by decide +kernel) (by omega) (by omega) (fun g1 z1 x1 h1 n1 => ?_)
    refine g_dup k_Box_lostLetters_11 rfl ?_
    refine g_cinG (M' := M_Lik_init) (bc' := 2) (bs' := 40960) k_Box_lostLetters_12 nn_Box_62 in_Lik rfl rfl cm_Lik_init (s_Lik_init a z1 h1 _ ei (by omega) (by omega) (by omega)) rfl rfl (Nat.le_of_ble_eq_true rfl) (by simp [Value.category]) (by omega) (by omega) (by omega) (fun g2 r2 => ?_)
    obtain ⟨z2, x2, sL⟩ := r2
    refine co_pr k_Box_lostLetters_15 fl_Box_37 rfl ⟨R_Box, F_Box, 9, rfl, Or.inl rfl⟩ ((x2 21 (by omega)).1.trans ((x1 21 (by omega)).1.trans (sk_Box (sy_Box s)))) (by decide) (fun g3 x3 => ?_)
    have E : Ext g g3 := Ext.mk3 hw x1 x2 (by omega) x3 (Or.inr ⟨rfl, rfl⟩)
    exact tail g3 _ _ (s.ext E hb) ⟨E, ⟨x3.2.2.2, sL.pt x3 (by omega), by rw [x3.1]; omega⟩, (x3.2.2.1 0 7 (by omega)).trans (((x2 0 (by omega)).2 7).trans ((x1 0 (by omega)).2 7)), Or.inr (by rw [x3.1]; omega)⟩
theorem s_Led_lost {K : aK} {d bc bs a : Nat} {g : aG} (s : Sys g) (hb : 242 ≤ g.1) (F : Nat) {m ml : aM} (W : Lh g a m ml) {r : Int32} {m' : aM} (e : b_Box_lostLetters_18 F a ml = some (r, m')) (hd : 7 ≤ d) (hc : 3 ≤ bc) (hs : 40962 ≤ bs) : SpR K M_Led_lost d bc bs [.ref 0] (g, m) (fun v h' => ∃ g', v = some (.int r) ∧ h' = (g', m') ∧ LR a g g') := by
  refine spr_of ok_Led_lost rfl (Nat.le_of_ble_eq_true rfl) (by simp [Value.category]) (fun Q hq => ?_)
  refine g_aload_n k_Led_lost_0 rfl rfl ?_
  refine p_getr k_Led_lost_1 fl_Led_43 rfl (sk_Led s) (by decide) (sr_Led_5 s) ?_
  refine g_cvR (bc' := 3) (bs' := 40962) k_Led_lost_4 lv_Led_154 (by decide +kernel) (T := F_Box) (N := 9) (ci := 1) rfl (sk_Box (sy_Box s)) (s_Box_lostLetters s hb F W e (by omega) (by omega) (by omega)) rfl rfl (Nat.le_of_ble_eq_true rfl) (by simp [Value.category]) (by omega) (by omega) (by omega) (fun v h' P => ?_)
  obtain ⟨g1, rfl, rfl, R⟩ := P
  refine g_iret k_Led_lost_7 rfl ?_
  exact hq _ _ ⟨g1, rfl, rfl, R⟩
