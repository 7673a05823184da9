/-! LedTables (made by wip/gen/auto2.py) -/
def b_Led_feedNumber_43 (F : Nat) (rec_3 : Int32 → Int32 → aM → Option (Int32 × aM)) (x1 : Int32) (x2 : Int32) (m : aM) : Option (Int32 × aM) :=
  rec_3 x1 (x2 - 8) m
theorem t_Led_feedNumber_43 {K : aK} {d bc bs : Nat} {g : aG} (s : Sys g) {Q : aQ} {r : Int32} {m' : aM} (F : Nat) (rec_3 : Int32 → Int32 → aM → Option (Int32 × aM)) (hr_3 : ∀ (x1 : Int32) (x2 : Int32) (m : aM), rec_3 x1 x2 m = some (r, m') → G K M_Led_feedNumber d bc bs 3 [.ref 0, .int x1, .int x2] [] (g, m) Q) (x1 : Int32) (x2 : Int32) (m : aM) (hq : Q (.inl none) (g, m')) (e : b_Led_feedNumber_43 F rec_3 x1 x2 m = some (r, m')) : G K M_Led_feedNumber d bc bs 43 [.ref 0, .int x1, .int x2] [] (g, m) Q := by
  unfold b_Led_feedNumber_43 at e
  refine g_iinc k_Led_feedNumber_43 rfl (i_m8 _) (by decide) ?_
  refine g_goto (tgt := 3) k_Led_feedNumber_46 (by decide) ?_
  exact (hr_3 x1 (x2 - 8) m e)
def lb_Led_feedNumber_3 (F : Nat) (rec_3 : Int32 → Int32 → aM → Option (Int32 × aM)) (x1 : Int32) (x2 : Int32) (m : aM) : Option (Int32 × aM) :=
  (if x2 < 0 then
  some (0, m)
  else
  (if 400 ≤ (m 0 1) then
  b_Led_feedNumber_43 F rec_3 x1 x2 m
  else
  o_let (((x1 : Int32).toUInt32 >>> ((x2 : Int32).toUInt32 &&& Int32.toUInt32 31)).toInt32) fun y1 =>
  o_gd (inb (m 0 1) 400) <|
  o_let (a_st m 1 ((m 0 1).toNatClampNeg) (y1 &&& 255)) fun m3 =>
  o_let (a_st m3 0 1 ((m3 0 1) + 1)) fun m4 =>
  b_Led_feedNumber_43 F rec_3 x1 x2 m4
  )
  )
theorem tb_Led_feedNumber_3 {K : aK} {d bc bs : Nat} {g : aG} (s : Sys g) {Q : aQ} {r : Int32} {m' : aM} (F : Nat) (rec_3 : Int32 → Int32 → aM → Option (Int32 × aM)) (hr_3 : ∀ (x1 : Int32) (x2 : Int32) (m : aM), rec_3 x1 x2 m = some (r, m') → G K M_Led_feedNumber d bc bs 3 [.ref 0, .int x1, .int x2] [] (g, m) Q) (x1 : Int32) (x2 : Int32) (m : aM) (hq : Q (.inl none) (g, m')) (e : lb_Led_feedNumber_3 F rec_3 x1 x2 m = some (r, m')) : G K M_Led_feedNumber d bc bs 3 [.ref 0, .int x1, .int x2] [] (g, m) Q := by
  unfold lb_Led_feedNumber_3 at e
  refine g_iload_n k_Led_feedNumber_3 rfl rfl ?_
  refine g_if_lt (tgt := 49) k_Led_feedNumber_4 (by decide) (fun c => ?_) (fun c => ?_)
  · rw [if_pos c] at e
    refine g_vret k_Led_feedNumber_49 rfl ?_
    exact (by cases e; exact hq)
  · rw [if_neg c] at e
    refine g_aload_n k_Led_feedNumber_7 rfl rfl ?_
    refine p_geti k_Led_feedNumber_8 fl_Led_15 rfl (sk_Led s) (by decide) ?_
    refine g_sipush (v := 400) k_Led_feedNumber_11 rfl ?_
    refine g_icmp_ge (tgt := 43) k_Led_feedNumber_14 (by decide) (fun c => ?_) (fun c => ?_)
    · rw [if_pos c] at e
      exact (t_Led_feedNumber_43 s F rec_3 hr_3 x1 x2 m hq e)
    · rw [if_neg c] at e
      refine g_aload_n k_Led_feedNumber_17 rfl rfl ?_
      refine p_getr k_Led_feedNumber_18 fl_Led_11 rfl (sk_Led s) (by decide) (sr_Led_0 s) ?_
      refine g_aload_n k_Led_feedNumber_21 rfl rfl ?_
      refine p_geti k_Led_feedNumber_22 fl_Led_15 rfl (sk_Led s) (by decide) ?_
      refine g_iload_n k_Led_feedNumber_25 rfl rfl ?_
      refine g_iload_n k_Led_feedNumber_26 rfl rfl ?_
      refine g_iushr k_Led_feedNumber_27 ?_
      obtain ⟨y1, u_y1, e⟩ := o_let_ex e
      refine G.vy u_y1 ?_
      refine g_sipush (v := 255) k_Led_feedNumber_28 rfl ?_
      refine g_iand k_Led_feedNumber_31 ?_
      obtain ⟨q2, e⟩ := o_gd_ex e
      refine p_iast k_Led_feedNumber_32 (sa_Led_0 s) (inb_in q2) (j := (m 0 1).toNatClampNeg) rfl ?_
      obtain ⟨m3, u_m3, e⟩ := o_let_ex e
      refine G.hm u_m3 ?_
      refine g_aload_n k_Led_feedNumber_33 rfl rfl ?_
      refine g_dup k_Led_feedNumber_34 rfl ?_
      refine p_geti k_Led_feedNumber_35 fl_Led_15 rfl (sk_Led s) (by decide) ?_
      refine g_iconst (v := 1) k_Led_feedNumber_38 rfl ?_
      refine g_iadd k_Led_feedNumber_39 ?_
      refine p_puti k_Led_feedNumber_40 fl_Led_15 rfl ⟨R_Led, F_Led, 10, rfl, Or.inl rfl⟩ (sk_Led s) (by decide) ?_
      obtain ⟨m4, u_m4, e⟩ := o_let_ex e
      refine G.hm u_m4 ?_
      exact (t_Led_feedNumber_43 s F rec_3 hr_3 x1 x2 m4 hq e)
def ll_Led_feedNumber_3 (F : Nat) : Nat → Int32 → Int32 → aM → Option (Int32 × aM)
  | 0, _, _, _ => none
  | N + 1, x1, x2, m => lb_Led_feedNumber_3 F (ll_Led_feedNumber_3 F N) x1 x2 m
theorem t_Led_feedNumber_3 {K : aK} {d bc bs : Nat} {g : aG} (s : Sys g) {Q : aQ} {r : Int32} {m' : aM} (F : Nat) : ∀ (N : Nat) (x1 : Int32) (x2 : Int32) (m : aM), Q (.inl none) (g, m') → ll_Led_feedNumber_3 F N x1 x2 m = some (r, m') → G K M_Led_feedNumber d bc bs 3 [.ref 0, .int x1, .int x2] [] (g, m) Q
  | 0, _, _, _ => fun _ e => nomatch e
  | N + 1, x1, x2, m => fun hq e => tb_Led_feedNumber_3 s F (ll_Led_feedNumber_3 F N) (fun x1 x2 m e => t_Led_feedNumber_3 s F N x1 x2 m hq e) x1 x2 m hq e
def f_Led_feedNumber (F : Nat) (x1 : Int32) (m : aM) : Option (Int32 × aM) :=
  ll_Led_feedNumber_3 F F x1 24 m
theorem s_Led_feedNumber {K : aK} {d bc bs : Nat} {g : aG} (s : Sys g) (F : Nat) (x1 : Int32) (m : aM) {r : Int32} {m' : aM} (e : f_Led_feedNumber F x1 m = some (r, m')) : Sp K M_Led_feedNumber d bc bs [.ref 0, .int x1] (g, m) none (g, m') := by
  refine sp_of ok_Led_feedNumber rfl (Nat.le_of_ble_eq_true rfl) (by simp [Value.category]) (fun Q hq => ?_)
  unfold f_Led_feedNumber at e
  refine g_bipush (v := 24) k_Led_feedNumber_0 rfl ?_
  refine g_istore_n k_Led_feedNumber_2 rfl (by decide) ?_
  exact (t_Led_feedNumber_3 s F F x1 24 m hq e)
def f_Led_feed (F : Nat) (x1 : Int32) (x2 : Int32) (x3 : Int32) (x4 : Int32) (x5 : Int32) (m : aM) : Option (Int32 × aM) :=
  (if ((m 0 1) + 20) ≤ 400 then
  o_b2 (f_Led_feedNumber F x1 m) fun y1 m2 =>
  o_b2 (f_Led_feedNumber F x2 m2) fun y3 m4 =>
  o_b2 (f_Led_feedNumber F x3 m4) fun y5 m6 =>
  o_b2 (f_Led_feedNumber F x4 m6) fun y7 m8 =>
  o_b2 (f_Led_feedNumber F x5 m8) fun y9 m10 =>
  some ((m10 0 1), m10)
  else
  some ((-1), m)
  )
theorem s_Led_feed {K : aK} {d bc bs : Nat} {g : aG} (s : Sys g) (F : Nat) (x1 : Int32) (x2 : Int32) (x3 : Int32) (x4 : Int32) (x5 : Int32) (m : aM) {r : Int32} {m' : aM} (e : f_Led_feed F x1 x2 x3 x4 x5 m = some (r, m')) (hd : 1 ≤ d) : Sp K M_Led_feed d bc bs [.ref 0, .int x1, .int x2, .int x3, .int x4, .int x5] (g, m) (some (.int r)) (g, m') := by
  refine sp_of ok_Led_feed rfl (Nat.le_of_ble_eq_true rfl) (by simp [Value.category]) (fun Q hq => ?_)
  unfold f_Led_feed at e
  refine g_aload_n k_Led_feed_0 rfl rfl ?_
  refine p_geti k_Led_feed_1 fl_Led_15 rfl (sk_Led s) (by decide) ?_
  refine g_bipush (v := 20) k_Led_feed_4 rfl ?_
  refine g_iadd k_Led_feed_6 ?_
  refine g_sipush (v := 400) k_Led_feed_7 rfl ?_
  refine g_icmp_le (tgt := 15) k_Led_feed_10 (by decide) (fun c => ?_) (fun c => ?_)
  · rw [if_pos c] at e
    refine g_aload_n k_Led_feed_15 rfl rfl ?_
    refine g_iload_n k_Led_feed_16 rfl rfl ?_
    obtain ⟨y1, m2, e_y1, e⟩ := o_b2_ex e
    refine g_cv k_Led_feed_17 lv_Led_74 (by decide +kernel) (T := F_Led) (N := 10) (ci := 9) rfl (sk_Led s) (s_Led_feedNumber (bc := 0) (bs := 0) s F x1 m e_y1) rfl rfl (Nat.le_of_ble_eq_true rfl) (by simp [Value.category]) (by omega) (by omega) (by omega) ?_
    refine g_aload_n k_Led_feed_20 rfl rfl ?_
    refine g_iload_n k_Led_feed_21 rfl rfl ?_
    obtain ⟨y3, m4, e_y3, e⟩ := o_b2_ex e
    refine g_cv k_Led_feed_22 lv_Led_74 (by decide +kernel) (T := F_Led) (N := 10) (ci := 9) rfl (sk_Led s) (s_Led_feedNumber (bc := 0) (bs := 0) s F x2 m2 e_y3) rfl rfl (Nat.le_of_ble_eq_true rfl) (by simp [Value.category]) (by omega) (by omega) (by omega) ?_
    refine g_aload_n k_Led_feed_25 rfl rfl ?_
    refine g_iload_n k_Led_feed_26 rfl rfl ?_
    obtain ⟨y5, m6, e_y5, e⟩ := o_b2_ex e
    refine g_cv k_Led_feed_27 lv_Led_74 (by decide +kernel) (T := F_Led) (N := 10) (ci := 9) rfl (sk_Led s) (s_Led_feedNumber (bc := 0) (bs := 0) s F x3 m4 e_y5) rfl rfl (Nat.le_of_ble_eq_true rfl) (by simp [Value.category]) (by omega) (by omega) (by omega) ?_
    refine g_aload_n k_Led_feed_30 rfl rfl ?_
    refine g_iload k_Led_feed_31 rfl ?_
    obtain ⟨y7, m8, e_y7, e⟩ := o_b2_ex e
    refine g_cv k_Led_feed_33 lv_Led_74 (by decide +kernel) (T := F_Led) (N := 10) (ci := 9) rfl (sk_Led s) (s_Led_feedNumber (bc := 0) (bs := 0) s F x4 m6 e_y7) rfl rfl (Nat.le_of_ble_eq_true rfl) (by simp [Value.category]) (by omega) (by omega) (by omega) ?_
    refine g_aload_n k_Led_feed_36 rfl rfl ?_
    refine g_iload k_Led_feed_37 rfl ?_
    obtain ⟨y9, m10, e_y9, e⟩ := o_b2_ex e
    refine g_cv k_Led_feed_39 lv_Led_74 (by decide +kernel) (T := F_Led) (N := 10) (ci := 9) rfl (sk_Led s) (s_Led_feedNumber (bc := 0) (bs := 0) s F x5 m8 e_y9) rfl rfl (Nat.le_of_ble_eq_true rfl) (by simp [Value.category]) (by omega) (by omega) (by omega) ?_
    refine g_aload_n k_Led_feed_42 rfl rfl ?_
    refine p_geti k_Led_feed_43 fl_Led_15 rfl (sk_Led s) (by decide) ?_
    refine g_iret k_Led_feed_46 rfl ?_
    exact (by cases e; exact hq)
  · rw [if_neg c] at e
    refine g_iconst (v := (-1)) k_Led_feed_13 rfl ?_
    refine g_iret k_Led_feed_14 rfl ?_
    exact (by cases e; exact hq)
def f_Led_fault  (m : aM) : Option Int32 :=
  some (m 0 4)
theorem s_Led_fault {K : aK} {d bc bs : Nat} {g : aG} (s : Sys g)  (m : aM) {r : Int32} (e : f_Led_fault  m = some r) : Sp K M_Led_fault d bc bs [.ref 0] (g, m) (some (.int r)) (g, m) := by
  refine sp_of ok_Led_fault rfl (Nat.le_of_ble_eq_true rfl) (by simp [Value.category]) (fun Q hq => ?_)
  unfold f_Led_fault at e
  refine g_aload_n k_Led_fault_0 rfl rfl ?_
  refine p_geti k_Led_fault_1 fl_Led_35 rfl (sk_Led s) (by decide) ?_
  refine g_iret k_Led_fault_4 rfl ?_
  exact (by cases e; exact hq)
def f_Led_wrong (F : Nat)  (m : aM) : Option (Int32 × aM) :=
  o_b2 (f_Box_manyWrong F  m) fun y1 m2 =>
  some (y1, m2)
theorem s_Led_wrong {K : aK} {d bc bs : Nat} {g : aG} (s : Sys g) (F : Nat)  (m : aM) {r : Int32} {m' : aM} (e : f_Led_wrong F  m = some (r, m')) (hd : 5 ≤ d) : Sp K M_Led_wrong d bc bs [.ref 0] (g, m) (some (.int r)) (g, m') := by
  refine sp_of ok_Led_wrong rfl (Nat.le_of_ble_eq_true rfl) (by simp [Value.category]) (fun Q hq => ?_)
  unfold f_Led_wrong at e
  refine g_aload_n k_Led_wrong_0 rfl rfl ?_
  refine p_getr k_Led_wrong_1 fl_Led_43 rfl (sk_Led s) (by decide) (sr_Led_5 s) ?_
  obtain ⟨y1, m2, e_y1, e⟩ := o_b2_ex e
  refine g_cv k_Led_wrong_4 lv_Led_158 (by decide +kernel) (T := F_Box) (N := 9) (ci := 1) rfl (sk_Box (sy_Box s)) (s_Box_manyWrong (bc := 0) (bs := 0) s F  m e_y1 (by omega)) rfl rfl (Nat.le_of_ble_eq_true rfl) (by simp [Value.category]) (by omega) (by omega) (by omega) ?_
  refine g_iret k_Led_wrong_7 rfl ?_
  exact (by cases e; exact hq)
def f_Led_change  (m : aM) : Option (Int32 × aM) :=
  o_b2 (f_Pla_addChange  m) fun y1 m2 =>
  some (y1, m2)
theorem s_Led_change {K : aK} {d bc bs : Nat} {g : aG} (s : Sys g)  (m : aM) {r : Int32} {m' : aM} (e : f_Led_change  m = some (r, m')) (hd : 1 ≤ d) : Sp K M_Led_change d bc bs [.ref 0] (g, m) (some (.int r)) (g, m') := by
  refine sp_of ok_Led_change rfl (Nat.le_of_ble_eq_true rfl) (by simp [Value.category]) (fun Q hq => ?_)
  unfold f_Led_change at e
  refine g_aload_n k_Led_change_0 rfl rfl ?_
  refine p_getr k_Led_change_1 fl_Led_50 rfl (sk_Led s) (by decide) (sr_Led_6 s) ?_
  obtain ⟨y1, m2, e_y1, e⟩ := o_b2_ex e
  refine g_cv k_Led_change_4 lv_Led_161 (by decide +kernel) (T := F_Pla) (N := 8) (ci := 4) rfl (sk_Pla (sy_Pla s)) (s_Pla_addChange (bc := 0) (bs := 0) s  m e_y1) rfl rfl (Nat.le_of_ble_eq_true rfl) (by simp [Value.category]) (by omega) (by omega) (by omega) ?_
  refine g_iret k_Led_change_7 rfl ?_
  exact (by cases e; exact hq)
def f_Led_program  (m : aM) : Option (Int32 × aM) :=
  o_b2 (f_Pla_addProgram  m) fun y1 m2 =>
  some (y1, m2)
theorem s_Led_program {K : aK} {d bc bs : Nat} {g : aG} (s : Sys g)  (m : aM) {r : Int32} {m' : aM} (e : f_Led_program  m = some (r, m')) (hd : 1 ≤ d) : Sp K M_Led_program d bc bs [.ref 0] (g, m) (some (.int r)) (g, m') := by
  refine sp_of ok_Led_program rfl (Nat.le_of_ble_eq_true rfl) (by simp [Value.category]) (fun Q hq => ?_)
  unfold f_Led_program at e
  refine g_aload_n k_Led_program_0 rfl rfl ?_
  refine p_getr k_Led_program_1 fl_Led_50 rfl (sk_Led s) (by decide) (sr_Led_6 s) ?_
  obtain ⟨y1, m2, e_y1, e⟩ := o_b2_ex e
  refine g_cv k_Led_program_4 lv_Led_180 (by decide +kernel) (T := F_Pla) (N := 8) (ci := 4) rfl (sk_Pla (sy_Pla s)) (s_Pla_addProgram (bc := 0) (bs := 0) s  m e_y1) rfl rfl (Nat.le_of_ble_eq_true rfl) (by simp [Value.category]) (by omega) (by omega) (by omega) ?_
  refine g_iret k_Led_program_7 rfl ?_
  exact (by cases e; exact hq)
def f_Led_go (F : Nat)  (m : aM) : Option (Int32 × aM) :=
  o_b2 (f_Tab_goOn F  m) fun y1 m2 =>
  some (y1, m2)
theorem s_Led_go {K : aK} {d bc bs : Nat} {g : aG} (s : Sys g) (F : Nat)  (m : aM) {r : Int32} {m' : aM} (e : f_Led_go F  m = some (r, m')) (hd : 7 ≤ d) : Sp K M_Led_go d bc bs [.ref 0] (g, m) (some (.int r)) (g, m') := by
  refine sp_of ok_Led_go rfl (Nat.le_of_ble_eq_true rfl) (by simp [Value.category]) (fun Q hq => ?_)
  unfold f_Led_go at e
  refine g_aload_n k_Led_go_0 rfl rfl ?_
  refine p_getr k_Led_go_1 fl_Led_70 rfl (sk_Led s) (by decide) (sr_Led_9 s) ?_
  obtain ⟨y1, m2, e_y1, e⟩ := o_b2_ex e
  refine g_cv k_Led_go_4 lv_Led_225 (by decide +kernel) (T := F_Tab) (N := 11) (ci := 7) rfl (sk_Tab (sy_Tab s)) (s_Tab_goOn (bc := 0) (bs := 0) s F  m e_y1 (by omega)) rfl rfl (Nat.le_of_ble_eq_true rfl) (by simp [Value.category]) (by omega) (by omega) (by omega) ?_
  refine g_iret k_Led_go_7 rfl ?_
  exact (by cases e; exact hq)
def f_Led_back (F : Nat)  (m : aM) : Option (Int32 × aM) :=
  o_b2 (f_Tab_goBack F  m) fun y1 m2 =>
  some (y1, m2)
theorem s_Led_back {K : aK} {d bc bs : Nat} {g : aG} (s : Sys g) (F : Nat)  (m : aM) {r : Int32} {m' : aM} (e : f_Led_back F  m = some (r, m')) (hd : 3 ≤ d) : Sp K M_Led_back d bc bs [.ref 0] (g, m) (some (.int r)) (g, m') := by
  refine sp_of ok_Led_back rfl (Nat.le_of_ble_eq_true rfl) (by simp [Value.category]) (fun Q hq => ?_)
  unfold f_Led_back at e
  refine g_aload_n k_Led_back_0 rfl rfl ?_
  refine p_getr k_Led_back_1 fl_Led_70 rfl (sk_Led s) (by decide) (sr_Led_9 s) ?_
  obtain ⟨y1, m2, e_y1, e⟩ := o_b2_ex e
  refine g_cv k_Led_back_4 lv_Led_228 (by decide +kernel) (T := F_Tab) (N := 11) (ci := 7) rfl (sk_Tab (sy_Tab s)) (s_Tab_goBack (bc := 0) (bs := 0) s F  m e_y1 (by omega)) rfl rfl (Nat.le_of_ble_eq_true rfl) (by simp [Value.category]) (by omega) (by omega) (by omega) ?_
  refine g_iret k_Led_back_7 rfl ?_
  exact (by cases e; exact hq)
def f_Led_count (F : Nat) (x1 : Int32) (m : aM) : Option (Int32 × aM) :=
  (if x1 = 0 then
  some ((m 37 6), m)
  else
  (if x1 = 1 then
  some ((m 37 7), m)
  else
  (if x1 = 2 then
  o_b (f_Tab_manyRows F  m) fun y1 =>
  some (y1, m)
  else
  (if x1 = 3 then
  o_b (f_Tab_manyOf F 0 m) fun y2 =>
  some (y2, m)
  else
  (if x1 = 4 then
  o_b (f_Tab_manyOf F 1 m) fun y3 =>
  some (y3, m)
  else
  (if x1 = 5 then
  o_b (f_Tab_manyOf F 2 m) fun y4 =>
  some (y4, m)
  else
  (if x1 = 6 then
  o_b (f_Tab_manyOf F 3 m) fun y5 =>
  some (y5, m)
  else
  (if x1 = 7 then
  o_b (f_Tab_manyBroken F  m) fun y6 =>
  some (y6, m)
  else
  (if x1 = 8 then
  o_b2 (f_Tab_manyOdd F  m) fun y7 m8 =>
  some (y7, m8)
  else
  (if x1 = 9 then
  some ((m 2 10), m)
  else
  (if x1 = 10 then
  some ((m 29 5), m)
  else
  (if x1 = 11 then
  some ((m 29 6), m)
  else
  (if x1 = 12 then
  some ((m 0 1), m)
  else
  some ((-1), m)
  )))))))))))))
theorem s_Led_count {K : aK} {d bc bs : Nat} {g : aG} (s : Sys g) (F : Nat) (x1 : Int32) (m : aM) {r : Int32} {m' : aM} (e : f_Led_count F x1 m = some (r, m')) (hd : 5 ≤ d) : Sp K M_Led_count d bc bs [.ref 0, .int x1] (g, m) (some (.int r)) (g, m') := by
  refine sp_of ok_Led_count rfl (Nat.le_of_ble_eq_true rfl) (by simp [Value.category]) (fun Q hq => ?_)
  unfold f_Led_count at e
  refine g_iload_n k_Led_count_0 rfl rfl ?_
  by_cases s_0 : x1 = 0
  · rw [if_pos s_0] at e
    refine g_tabIn (off := 67) (tgt := 68) k_Led_count_1 (by rw [s_0]; decide) (by rw [s_0]; decide) (by rw [s_0]; rfl) (by decide) ?_
    refine g_aload_n k_Led_count_68 rfl rfl ?_
    refine p_getr k_Led_count_69 fl_Led_70 rfl (sk_Led s) (by decide) (sr_Led_9 s) ?_
    refine p_geti k_Led_count_72 fl_Led_85 rfl (sk_Tab (sy_Tab s)) (by decide) ?_
    refine g_iret k_Led_count_75 rfl ?_
    exact (by cases e; exact hq)
  rw [if_neg s_0] at e
  by_cases s_1 : x1 = 1
  · rw [if_pos s_1] at e
    refine g_tabIn (off := 75) (tgt := 76) k_Led_count_1 (by rw [s_1]; decide) (by rw [s_1]; decide) (by rw [s_1]; rfl) (by decide) ?_
    refine g_aload_n k_Led_count_76 rfl rfl ?_
    refine p_getr k_Led_count_77 fl_Led_70 rfl (sk_Led s) (by decide) (sr_Led_9 s) ?_
    refine p_geti k_Led_count_80 fl_Led_259 rfl (sk_Tab (sy_Tab s)) (by decide) ?_
    refine g_iret k_Led_count_83 rfl ?_
    exact (by cases e; exact hq)
  rw [if_neg s_1] at e
  by_cases s_2 : x1 = 2
  · rw [if_pos s_2] at e
    refine g_tabIn (off := 83) (tgt := 84) k_Led_count_1 (by rw [s_2]; decide) (by rw [s_2]; decide) (by rw [s_2]; rfl) (by decide) ?_
    refine g_aload_n k_Led_count_84 rfl rfl ?_
    refine p_getr k_Led_count_85 fl_Led_70 rfl (sk_Led s) (by decide) (sr_Led_9 s) ?_
    obtain ⟨y1, e_y1, e⟩ := o_b_ex e
    refine g_cv k_Led_count_88 lv_Led_297 (by decide +kernel) (T := F_Tab) (N := 11) (ci := 7) rfl (sk_Tab (sy_Tab s)) (s_Tab_manyRows (bc := 0) (bs := 0) s F  m e_y1) rfl rfl (Nat.le_of_ble_eq_true rfl) (by simp [Value.category]) (by omega) (by omega) (by omega) ?_
    refine g_iret k_Led_count_91 rfl ?_
    exact (by cases e; exact hq)
  rw [if_neg s_2] at e
  by_cases s_3 : x1 = 3
  · rw [if_pos s_3] at e
    refine g_tabIn (off := 91) (tgt := 92) k_Led_count_1 (by rw [s_3]; decide) (by rw [s_3]; decide) (by rw [s_3]; rfl) (by decide) ?_
    refine g_aload_n k_Led_count_92 rfl rfl ?_
    refine p_getr k_Led_count_93 fl_Led_70 rfl (sk_Led s) (by decide) (sr_Led_9 s) ?_
    refine g_iconst (v := 0) k_Led_count_96 rfl ?_
    obtain ⟨y2, e_y2, e⟩ := o_b_ex e
    refine g_cv k_Led_count_97 lv_Led_302 (by decide +kernel) (T := F_Tab) (N := 11) (ci := 7) rfl (sk_Tab (sy_Tab s)) (s_Tab_manyOf (bc := 0) (bs := 0) s F 0 m e_y2) rfl rfl (Nat.le_of_ble_eq_true rfl) (by simp [Value.category]) (by omega) (by omega) (by omega) ?_
    refine g_iret k_Led_count_100 rfl ?_
    exact (by cases e; exact hq)
  rw [if_neg s_3] at e
  by_cases s_4 : x1 = 4
  · rw [if_pos s_4] at e
    refine g_tabIn (off := 100) (tgt := 101) k_Led_count_1 (by rw [s_4]; decide) (by rw [s_4]; decide) (by rw [s_4]; rfl) (by decide) ?_
    refine g_aload_n k_Led_count_101 rfl rfl ?_
    refine p_getr k_Led_count_102 fl_Led_70 rfl (sk_Led s) (by decide) (sr_Led_9 s) ?_
    refine g_iconst (v := 1) k_Led_count_105 rfl ?_
    obtain ⟨y3, e_y3, e⟩ := o_b_ex e
    refine g_cv k_Led_count_106 lv_Led_302 (by decide +kernel) (T := F_Tab) (N := 11) (ci := 7) rfl (sk_Tab (sy_Tab s)) (s_Tab_manyOf (bc := 0) (bs := 0) s F 1 m e_y3) rfl rfl (Nat.le_of_ble_eq_true rfl) (by simp [Value.category]) (by omega) (by omega) (by omega) ?_
    refine g_iret k_Led_count_109 rfl ?_
    exact (by cases e; exact hq)
  rw [if_neg s_4] at e
  by_cases s_5 : x1 = 5
  · rw [if_pos s_5] at e
    refine g_tabIn (off := 109) (tgt := 110) k_Led_count_1 (by rw [s_5]; decide) (by rw [s_5]; decide) (by rw [s_5]; rfl) (by decide) ?_
    refine g_aload_n k_Led_count_110 rfl rfl ?_
    refine p_getr k_Led_count_111 fl_Led_70 rfl (sk_Led s) (by decide) (sr_Led_9 s) ?_
    refine g_iconst (v := 2) k_Led_count_114 rfl ?_
    obtain ⟨y4, e_y4, e⟩ := o_b_ex e
    refine g_cv k_Led_count_115 lv_Led_302 (by decide +kernel) (T := F_Tab) (N := 11) (ci := 7) rfl (sk_Tab (sy_Tab s)) (s_Tab_manyOf (bc := 0) (bs := 0) s F 2 m e_y4) rfl rfl (Nat.le_of_ble_eq_true rfl) (by simp [Value.category]) (by omega) (by omega) (by omega) ?_
    refine g_iret k_Led_count_118 rfl ?_
    exact (by cases e; exact hq)
  rw [if_neg s_5] at e
  by_cases s_6 : x1 = 6
  · rw [if_pos s_6] at e
    refine g_tabIn (off := 118) (tgt := 119) k_Led_count_1 (by rw [s_6]; decide) (by rw [s_6]; decide) (by rw [s_6]; rfl) (by decide) ?_
    refine g_aload_n k_Led_count_119 rfl rfl ?_
    refine p_getr k_Led_count_120 fl_Led_70 rfl (sk_Led s) (by decide) (sr_Led_9 s) ?_
    refine g_iconst (v := 3) k_Led_count_123 rfl ?_
    obtain ⟨y5, e_y5, e⟩ := o_b_ex e
    refine g_cv k_Led_count_124 lv_Led_302 (by decide +kernel) (T := F_Tab) (N := 11) (ci := 7) rfl (sk_Tab (sy_Tab s)) (s_Tab_manyOf (bc := 0) (bs := 0) s F 3 m e_y5) rfl rfl (Nat.le_of_ble_eq_true rfl) (by simp [Value.category]) (by omega) (by omega) (by omega) ?_
    refine g_iret k_Led_count_127 rfl ?_
    exact (by cases e; exact hq)
  rw [if_neg s_6] at e
  by_cases s_7 : x1 = 7
  · rw [if_pos s_7] at e
    refine g_tabIn (off := 127) (tgt := 128) k_Led_count_1 (by rw [s_7]; decide) (by rw [s_7]; decide) (by rw [s_7]; rfl) (by decide) ?_
    refine g_aload_n k_Led_count_128 rfl rfl ?_
    refine p_getr k_Led_count_129 fl_Led_70 rfl (sk_Led s) (by decide) (sr_Led_9 s) ?_
    obtain ⟨y6, e_y6, e⟩ := o_b_ex e
    refine g_cv k_Led_count_132 lv_Led_305 (by decide +kernel) (T := F_Tab) (N := 11) (ci := 7) rfl (sk_Tab (sy_Tab s)) (s_Tab_manyBroken (bc := 0) (bs := 0) s F  m e_y6 (by omega)) rfl rfl (Nat.le_of_ble_eq_true rfl) (by simp [Value.category]) (by omega) (by omega) (by omega) ?_
    refine g_iret k_Led_count_135 rfl ?_
    exact (by cases e; exact hq)
  rw [if_neg s_7] at e
  by_cases s_8 : x1 = 8
  · rw [if_pos s_8] at e
    refine g_tabIn (off := 135) (tgt := 136) k_Led_count_1 (by rw [s_8]; decide) (by rw [s_8]; decide) (by rw [s_8]; rfl) (by decide) ?_
    refine g_aload_n k_Led_count_136 rfl rfl ?_
    refine p_getr k_Led_count_137 fl_Led_70 rfl (sk_Led s) (by decide) (sr_Led_9 s) ?_
    obtain ⟨y7, m8, e_y7, e⟩ := o_b2_ex e
    refine g_cv k_Led_count_140 lv_Led_308 (by decide +kernel) (T := F_Tab) (N := 11) (ci := 7) rfl (sk_Tab (sy_Tab s)) (s_Tab_manyOdd (bc := 0) (bs := 0) s F  m e_y7 (by omega)) rfl rfl (Nat.le_of_ble_eq_true rfl) (by simp [Value.category]) (by omega) (by omega) (by omega) ?_
    refine g_iret k_Led_count_143 rfl ?_
    exact (by cases e; exact hq)
  rw [if_neg s_8] at e
  by_cases s_9 : x1 = 9
  · rw [if_pos s_9] at e
    refine g_tabIn (off := 143) (tgt := 144) k_Led_count_1 (by rw [s_9]; decide) (by rw [s_9]; decide) (by rw [s_9]; rfl) (by decide) ?_
    refine g_aload_n k_Led_count_144 rfl rfl ?_
    refine p_getr k_Led_count_145 fl_Led_22 rfl (sk_Led s) (by decide) (sr_Led_2 s) ?_
    refine p_geti k_Led_count_148 fl_Led_109 rfl (sk_Len (sy_len s)) (by decide) ?_
    refine g_iret k_Led_count_151 rfl ?_
    exact (by cases e; exact hq)
  rw [if_neg s_9] at e
  by_cases s_10 : x1 = 10
  · rw [if_pos s_10] at e
    refine g_tabIn (off := 151) (tgt := 152) k_Led_count_1 (by rw [s_10]; decide) (by rw [s_10]; decide) (by rw [s_10]; rfl) (by decide) ?_
    refine g_aload_n k_Led_count_152 rfl rfl ?_
    refine p_getr k_Led_count_153 fl_Led_50 rfl (sk_Led s) (by decide) (sr_Led_6 s) ?_
    refine p_geti k_Led_count_156 fl_Led_311 rfl (sk_Pla (sy_Pla s)) (by decide) ?_
    refine g_iret k_Led_count_159 rfl ?_
    exact (by cases e; exact hq)
  rw [if_neg s_10] at e
  by_cases s_11 : x1 = 11
  · rw [if_pos s_11] at e
    refine g_tabIn (off := 159) (tgt := 160) k_Led_count_1 (by rw [s_11]; decide) (by rw [s_11]; decide) (by rw [s_11]; rfl) (by decide) ?_
    refine g_aload_n k_Led_count_160 rfl rfl ?_
    refine p_getr k_Led_count_161 fl_Led_50 rfl (sk_Led s) (by decide) (sr_Led_6 s) ?_
    refine p_geti k_Led_count_164 fl_Led_314 rfl (sk_Pla (sy_Pla s)) (by decide) ?_
    refine g_iret k_Led_count_167 rfl ?_
    exact (by cases e; exact hq)
  rw [if_neg s_11] at e
  by_cases s_12 : x1 = 12
  · rw [if_pos s_12] at e
    refine g_tabIn (off := 167) (tgt := 168) k_Led_count_1 (by rw [s_12]; decide) (by rw [s_12]; decide) (by rw [s_12]; rfl) (by decide) ?_
    refine g_aload_n k_Led_count_168 rfl rfl ?_
    refine p_geti k_Led_count_169 fl_Led_15 rfl (sk_Led s) (by decide) ?_
    refine g_iret k_Led_count_172 rfl ?_
    exact (by cases e; exact hq)
  rw [if_neg s_12] at e
  refine g_tabOut (tgt := 173) k_Led_count_1 (by have t_0 := lv_neT (a := 0) s_0 rfl; have t_1 := lv_neT (a := 1) s_1 rfl; have t_2 := lv_neT (a := 2) s_2 rfl; have t_3 := lv_neT (a := 3) s_3 rfl; have t_4 := lv_neT (a := 4) s_4 rfl; have t_5 := lv_neT (a := 5) s_5 rfl; have t_6 := lv_neT (a := 6) s_6 rfl; have t_7 := lv_neT (a := 7) s_7 rfl; have t_8 := lv_neT (a := 8) s_8 rfl; have t_9 := lv_neT (a := 9) s_9 rfl; have t_10 := lv_neT (a := 10) s_10 rfl; have t_11 := lv_neT (a := 11) s_11 rfl; have t_12 := lv_neT (a := 12) s_12 rfl; omega) (by decide) ?_
  refine g_iconst (v := (-1)) k_Led_count_173 rfl ?_
  refine g_iret k_Led_count_174 rfl ?_
  exact (by cases e; exact hq)
def f_Led_lens (F : Nat) (x1 : Int32) (m : aM) : Option (oX × aM) :=
  (if x1 < 0 then
  some ((.inr "java/lang/IllegalArgumentException" : oX), m)
  else
  (if x1 ≤ (m 0 1) then
  (if (m 37 6) ≤ 1 then
  o_let (a_st m 0 1 0) fun m1 =>
  o_b2 (f_Rea_readLens F x1 m1) fun y2 m3 =>
  (if y2 = 0 then
  o_let (a_st m3 0 4 (m3 11 7)) fun m4 =>
  some ((.inl ((m4 11 6) - 10) : oX), m4)
  else
  o_let (a_st m3 0 4 (-1)) fun m5 =>
  o_b2 (f_Len_become F 2 12 m5) fun y6 m7 =>
  some ((.inl (m7 2 10) : oX), m7)
  )
  else
  some ((.inr "java/lang/IllegalStateException" : oX), m)
  )
  else
  some ((.inr "java/lang/IllegalArgumentException" : oX), m)
  )
  )
theorem s_Led_lens {K : aK} {d bc bs : Nat} {g : aG} (s : Sys g) (F : Nat) (x1 : Int32) (m : aM) {r : oX} {m' : aM} (e : f_Led_lens F x1 m = some (r, m')) (hd : 532 ≤ d) (hc : 1 ≤ bc) (hs : 6 ≤ bs) : SpE K M_Led_lens d bc bs [.ref 0, .int x1] (g, m) (o_out r) (g, m') := by
  refine spe_of ok_Led_lens rfl (Nat.le_of_ble_eq_true rfl) (by simp [Value.category]) (fun Q hq => ?_)
  unfold f_Led_lens at e
  refine g_iload_n k_Led_lens_0 rfl rfl ?_
  refine g_if_lt (tgt := 12) k_Led_lens_1 (by decide) (fun c => ?_) (fun c => ?_)
  · rw [if_pos c] at e
    refine g_th rfl tl_iae (k := 0) rfl k_Led_lens_12 k_Led_lens_15 k_Led_lens_16 k_Led_lens_18 k_Led_lens_21 (by omega) (by omega) (by omega) ?_
    exact (by cases e; exact hq)
  · rw [if_neg c] at e
    refine g_iload_n k_Led_lens_4 rfl rfl ?_
    refine g_aload_n k_Led_lens_5 rfl rfl ?_
    refine p_geti k_Led_lens_6 fl_Led_15 rfl (sk_Led s) (by decide) ?_
    refine g_icmp_le (tgt := 22) k_Led_lens_9 (by decide) (fun c => ?_) (fun c => ?_)
    · rw [if_pos c] at e
      refine g_aload_n k_Led_lens_22 rfl rfl ?_
      refine p_getr k_Led_lens_23 fl_Led_70 rfl (sk_Led s) (by decide) (sr_Led_9 s) ?_
      refine p_geti k_Led_lens_26 fl_Led_85 rfl (sk_Tab (sy_Tab s)) (by decide) ?_
      refine g_iconst (v := 1) k_Led_lens_29 rfl ?_
      refine g_icmp_le (tgt := 43) k_Led_lens_30 (by decide) (fun c => ?_) (fun c => ?_)
      · rw [if_pos c] at e
        refine g_aload_n k_Led_lens_43 rfl rfl ?_
        refine g_iconst (v := 0) k_Led_lens_44 rfl ?_
        refine p_puti k_Led_lens_45 fl_Led_15 rfl ⟨R_Led, F_Led, 10, rfl, Or.inl rfl⟩ (sk_Led s) (by decide) ?_
        obtain ⟨m1, u_m1, e⟩ := o_let_ex e
        refine G.hm u_m1 ?_
        refine g_aload_n k_Led_lens_48 rfl rfl ?_
        refine p_getr k_Led_lens_49 fl_Led_31 rfl (sk_Led s) (by decide) (sr_Led_3 s) ?_
        refine g_iload_n k_Led_lens_52 rfl rfl ?_
        obtain ⟨y2, m3, e_y2, e⟩ := o_b2_ex e
        refine g_cv k_Led_lens_53 lv_Led_93 (by decide +kernel) (T := F_Rea) (N := 8) (ci := 5) rfl (sk_Rea s) (s_Rea_readLens (bc := 0) (bs := 0) s F x1 m1 e_y2 (by omega)) rfl rfl (Nat.le_of_ble_eq_true rfl) (by simp [Value.category]) (by omega) (by omega) (by omega) ?_
        refine g_if_ne (tgt := 81) k_Led_lens_56 (by decide) (fun c => ?_) (fun c => ?_)
        · rw [if_pos c] at e
          refine g_aload_n k_Led_lens_59 rfl rfl ?_
          refine g_aload_n k_Led_lens_60 rfl rfl ?_
          refine p_getr k_Led_lens_61 fl_Led_31 rfl (sk_Led s) (by decide) (sr_Led_3 s) ?_
          refine p_geti k_Led_lens_64 fl_Led_97 rfl (sk_Rea s) (by decide) ?_
          refine p_puti k_Led_lens_67 fl_Led_35 rfl ⟨R_Led, F_Led, 10, rfl, Or.inl rfl⟩ (sk_Led s) (by decide) ?_
          obtain ⟨m4, u_m4, e⟩ := o_let_ex e
          refine G.hm u_m4 ?_
          refine g_aload_n k_Led_lens_70 rfl rfl ?_
          refine p_getr k_Led_lens_71 fl_Led_31 rfl (sk_Led s) (by decide) (sr_Led_3 s) ?_
          refine p_geti k_Led_lens_74 fl_Led_100 rfl (sk_Rea s) (by decide) ?_
          refine g_bipush (v := 10) k_Led_lens_77 rfl ?_
          refine g_isub k_Led_lens_79 ?_
          refine g_iret k_Led_lens_80 rfl ?_
          exact (by cases e; exact hq)
        · rw [if_neg c] at e
          refine g_aload_n k_Led_lens_81 rfl rfl ?_
          refine g_iconst (v := (-1)) k_Led_lens_82 rfl ?_
          refine p_puti k_Led_lens_83 fl_Led_35 rfl ⟨R_Led, F_Led, 10, rfl, Or.inl rfl⟩ (sk_Led s) (by decide) ?_
          obtain ⟨m5, u_m5, e⟩ := o_let_ex e
          refine G.hm u_m5 ?_
          refine g_aload_n k_Led_lens_86 rfl rfl ?_
          refine p_getr k_Led_lens_87 fl_Led_22 rfl (sk_Led s) (by decide) (sr_Led_2 s) ?_
          refine g_aload_n k_Led_lens_90 rfl rfl ?_
          refine p_getr k_Led_lens_91 fl_Led_31 rfl (sk_Led s) (by decide) (sr_Led_3 s) ?_
          refine p_getr k_Led_lens_94 fl_Led_103 rfl (sk_Rea s) (by decide) (sr_Rea_5 s) ?_
          obtain ⟨y6, m7, e_y6, e⟩ := o_b2_ex e
          refine g_cv k_Led_lens_97 lv_Led_106 (by decide +kernel) (T := F_Len) (N := 11) (ci := 2) rfl (sk_Len (sy_len s)) (s_Len_become (bc := 0) (bs := 0) s F 2 (sy_len s) 12 (sy_dra s) m5 e_y6 (by omega)) rfl rfl (Nat.le_of_ble_eq_true rfl) (by simp [Value.category]) (by omega) (by omega) (by omega) ?_
          refine g_aload_n k_Led_lens_100 rfl rfl ?_
          refine p_getr k_Led_lens_101 fl_Led_22 rfl (sk_Led s) (by decide) (sr_Led_2 s) ?_
          refine p_geti k_Led_lens_104 fl_Led_109 rfl (sk_Len (sy_len s)) (by decide) ?_
          refine g_iret k_Led_lens_107 rfl ?_
          exact (by cases e; exact hq)
      · rw [if_neg c] at e
        refine g_th rfl tl_ise (k := 1) rfl k_Led_lens_33 k_Led_lens_36 k_Led_lens_37 k_Led_lens_39 k_Led_lens_42 (by omega) (by omega) (by omega) ?_
        exact (by cases e; exact hq)
    · rw [if_neg c] at e
      refine g_th rfl tl_iae (k := 0) rfl k_Led_lens_12 k_Led_lens_15 k_Led_lens_16 k_Led_lens_18 k_Led_lens_21 (by omega) (by omega) (by omega) ?_
      exact (by cases e; exact hq)
def f_Led_checkRange (x0 : Int32) (x1 : Int32) (x2 : Int32) (m : aM) : Option oX :=
  (if x0 < x1 then
  some (.inr "java/lang/IllegalArgumentException" : oX)
  else
  (if x0 ≤ x2 then
  some (.inl 0 : oX)
  else
  some (.inr "java/lang/IllegalArgumentException" : oX)
  )
  )
theorem s_Led_checkRange {K : aK} {d bc bs : Nat} {g : aG} (s : Sys g) (x0 : Int32) (x1 : Int32) (x2 : Int32) (m : aM) {r : oX} (e : f_Led_checkRange x0 x1 x2 m = some r) (hd : 6 ≤ d) (hc : 1 ≤ bc) (hs : 6 ≤ bs) : SpE K M_Led_checkRange d bc bs [.int x0, .int x1, .int x2] (g, m) (o_outv r) (g, m) := by
  refine spe_of ok_Led_checkRange rfl (Nat.le_of_ble_eq_true rfl) (by simp [Value.category]) (fun Q hq => ?_)
  unfold f_Led_checkRange at e
  refine g_iload_n k_Led_checkRange_0 rfl rfl ?_
  refine g_iload_n k_Led_checkRange_1 rfl rfl ?_
  refine g_icmp_lt (tgt := 10) k_Led_checkRange_2 (by decide) (fun c => ?_) (fun c => ?_)
  · rw [if_pos c] at e
    refine g_thw rfl tl_iae (k := 10) rfl k_Led_checkRange_10 k_Led_checkRange_13 k_Led_checkRange_14 k_Led_checkRange_17 k_Led_checkRange_20 (by omega) (by omega) (by omega) ?_
    exact (by cases e; exact hq)
  · rw [if_neg c] at e
    refine g_iload_n k_Led_checkRange_5 rfl rfl ?_
    refine g_iload_n k_Led_checkRange_6 rfl rfl ?_
    refine g_icmp_le (tgt := 21) k_Led_checkRange_7 (by decide) (fun c => ?_) (fun c => ?_)
    · rw [if_pos c] at e
      refine g_vret k_Led_checkRange_21 rfl ?_
      exact (by cases e; exact hq)
    · rw [if_neg c] at e
      refine g_thw rfl tl_iae (k := 10) rfl k_Led_checkRange_10 k_Led_checkRange_13 k_Led_checkRange_14 k_Led_checkRange_17 k_Led_checkRange_20 (by omega) (by omega) (by omega) ?_
      exact (by cases e; exact hq)
def f_Led_checkLetter (x0 : Int32) (m : aM) : Option oX :=
  o_tp (f_Led_checkRange x0 0 3 m) fun y1 =>
  some (.inl 0 : oX)
theorem s_Led_checkLetter {K : aK} {d bc bs : Nat} {g : aG} (s : Sys g) (x0 : Int32) (m : aM) {r : oX} (e : f_Led_checkLetter x0 m = some r) (hd : 7 ≤ d) (hc : 1 ≤ bc) (hs : 6 ≤ bs) : SpE K M_Led_checkLetter d bc bs [.int x0] (g, m) (o_outv r) (g, m) := by
  refine spe_of ok_Led_checkLetter rfl (Nat.le_of_ble_eq_true rfl) (by simp [Value.category]) (fun Q hq => ?_)
  unfold f_Led_checkLetter at e
  refine g_iload_n k_Led_checkLetter_0 rfl rfl ?_
  refine g_iconst (v := 0) k_Led_checkLetter_1 rfl ?_
  refine g_iconst (v := 3) k_Led_checkLetter_2 rfl ?_
  rcases o_tp_ex e with ⟨y1, e_y1, e⟩ | ⟨E2, e_y1, e⟩
  rotate_left
  · refine g_csx k_Led_checkLetter_3 ls_Led_139 (by decide +kernel) (s_Led_checkRange (bc := 1) (bs := 6) s x0 0 3 m e_y1 (by omega) (by omega) (by omega)) rfl rfl (Nat.le_of_ble_eq_true rfl) (by simp [Value.category]) (by omega) (by omega) (by omega) rfl ?_
    exact (by cases e; exact hq)
  refine g_cs k_Led_checkLetter_3 ls_Led_139 (by decide +kernel) (s_Led_checkRange (bc := 1) (bs := 6) s x0 0 3 m e_y1 (by omega) (by omega) (by omega)) rfl rfl (Nat.le_of_ble_eq_true rfl) (by simp [Value.category]) (by omega) (by omega) (by omega) ?_
  refine g_vret k_Led_checkLetter_6 rfl ?_
  exact (by cases e; exact hq)
def f_Led_fill (a0 : Nat) (x1 : Int32) (x2 : Int32) (x3 : Int32) (x4 : Int32) (m : aM) : Option (Int32 × aM) :=
  (if (4 : Int32) = 4 then
  o_let (a_st m a0 0 x1) fun m1 =>
  o_let (a_st m1 a0 1 x2) fun m2 =>
  o_let (a_st m2 a0 2 x3) fun m3 =>
  o_let (a_st m3 a0 3 x4) fun m4 =>
  some (0, m4)
  else
  some (0, m)
  )
theorem s_Led_fill {K : aK} {d bc bs : Nat} {g : aG} (s : Sys g) (a0 : Nat) (h0 : g.2.1 a0 = (0, 4)) (x1 : Int32) (x2 : Int32) (x3 : Int32) (x4 : Int32) (m : aM) {r : Int32} {m' : aM} (e : f_Led_fill a0 x1 x2 x3 x4 m = some (r, m')) : Sp K M_Led_fill d bc bs [.ref a0, .int x1, .int x2, .int x3, .int x4] (g, m) none (g, m') := by
  refine sp_of ok_Led_fill rfl (Nat.le_of_ble_eq_true rfl) (by simp [Value.category]) (fun Q hq => ?_)
  unfold f_Led_fill at e
  refine g_aload_n k_Led_fill_0 rfl rfl ?_
  refine p_alen (v := 4) k_Led_fill_1 h0 (by decide) rfl ?_
  refine g_iconst (v := 4) k_Led_fill_2 rfl ?_
  refine g_icmp_ne (tgt := 23) k_Led_fill_3 (by decide) (fun c => ?_) (fun c => ?_)
  · rw [if_pos c] at e
    refine g_aload_n k_Led_fill_6 rfl rfl ?_
    refine g_iconst (v := 0) k_Led_fill_7 rfl ?_
    refine g_iload_n k_Led_fill_8 rfl rfl ?_
    refine p_iast k_Led_fill_9 h0 (vp_in_nI (n := 0) (N := 4) (by decide) (by decide)) (j := 0) rfl ?_
    obtain ⟨m1, u_m1, e⟩ := o_let_ex e
    refine G.hm u_m1 ?_
    refine g_aload_n k_Led_fill_10 rfl rfl ?_
    refine g_iconst (v := 1) k_Led_fill_11 rfl ?_
    refine g_iload_n k_Led_fill_12 rfl rfl ?_
    refine p_iast k_Led_fill_13 h0 (vp_in_nI (n := 1) (N := 4) (by decide) (by decide)) (j := 1) rfl ?_
    obtain ⟨m2, u_m2, e⟩ := o_let_ex e
    refine G.hm u_m2 ?_
    refine g_aload_n k_Led_fill_14 rfl rfl ?_
    refine g_iconst (v := 2) k_Led_fill_15 rfl ?_
    refine g_iload_n k_Led_fill_16 rfl rfl ?_
    refine p_iast k_Led_fill_17 h0 (vp_in_nI (n := 2) (N := 4) (by decide) (by decide)) (j := 2) rfl ?_
    obtain ⟨m3, u_m3, e⟩ := o_let_ex e
    refine G.hm u_m3 ?_
    refine g_aload_n k_Led_fill_18 rfl rfl ?_
    refine g_iconst (v := 3) k_Led_fill_19 rfl ?_
    refine g_iload k_Led_fill_20 rfl ?_
    refine p_iast k_Led_fill_22 h0 (vp_in_nI (n := 3) (N := 4) (by decide) (by decide)) (j := 3) rfl ?_
    obtain ⟨m4, u_m4, e⟩ := o_let_ex e
    refine G.hm u_m4 ?_
    refine g_vret k_Led_fill_23 rfl ?_
    exact (by cases e; exact hq)
  · rw [if_neg c] at e
    refine g_vret k_Led_fill_23 rfl ?_
    exact (by cases e; exact hq)
def f_Led_see (F : Nat) (x1 : Int32) (x2 : Int32) (x3 : Int32) (x4 : Int32) (x5 : Int32) (m : aM) : Option (oX × aM) :=
  o_t (f_Led_checkLetter x5 m) m fun y1 =>
  o_b2 (f_Led_fill 39 x1 x2 x3 x4 m) fun y3 m4 =>
  o_b2 (f_Len_toNew F 2 39 40 m4) fun y5 m6 =>
  o_gd (inb x5 4) <|
  some ((.inl (m6 40 x5.toNatClampNeg) : oX), m6)
theorem s_Led_see {K : aK} {d bc bs : Nat} {g : aG} (s : Sys g) (F : Nat) (x1 : Int32) (x2 : Int32) (x3 : Int32) (x4 : Int32) (x5 : Int32) (m : aM) {r : oX} {m' : aM} (e : f_Led_see F x1 x2 x3 x4 x5 m = some (r, m')) (hd : 8 ≤ d) (hc : 1 ≤ bc) (hs : 6 ≤ bs) : SpE K M_Led_see d bc bs [.ref 0, .int x1, .int x2, .int x3, .int x4, .int x5] (g, m) (o_out r) (g, m') := by
  refine spe_of ok_Led_see rfl (Nat.le_of_ble_eq_true rfl) (by simp [Value.category]) (fun Q hq => ?_)
  unfold f_Led_see at e
  refine g_iload k_Led_see_0 rfl ?_
  rcases o_t_ex e with ⟨y1, e_y1, e⟩ | ⟨E2, e_y1, e⟩
  rotate_left
  · refine g_csx k_Led_see_2 ls_Led_112 (by decide +kernel) (s_Led_checkLetter (bc := 1) (bs := 6) s x5 m e_y1 (by omega) (by omega) (by omega)) rfl rfl (Nat.le_of_ble_eq_true rfl) (by simp [Value.category]) (by omega) (by omega) (by omega) rfl ?_
    exact (by cases e; exact hq)
  refine g_cs k_Led_see_2 ls_Led_112 (by decide +kernel) (s_Led_checkLetter (bc := 1) (bs := 6) s x5 m e_y1 (by omega) (by omega) (by omega)) rfl rfl (Nat.le_of_ble_eq_true rfl) (by simp [Value.category]) (by omega) (by omega) (by omega) ?_
  refine g_aload_n k_Led_see_5 rfl rfl ?_
  refine p_getr k_Led_see_6 fl_Led_70 rfl (sk_Led s) (by decide) (sr_Led_9 s) ?_
  refine p_getr k_Led_see_9 fl_Led_115 rfl (sk_Tab (sy_Tab s)) (by decide) (sr_Tab_3 (sy_Tab s)) ?_
  refine g_iload_n k_Led_see_12 rfl rfl ?_
  refine g_iload_n k_Led_see_13 rfl rfl ?_
  refine g_iload_n k_Led_see_14 rfl rfl ?_
  refine g_iload k_Led_see_15 rfl ?_
  obtain ⟨y3, m4, e_y3, e⟩ := o_b2_ex e
  refine g_cs k_Led_see_17 ls_Led_118 (by decide +kernel) (s_Led_fill (bc := 0) (bs := 0) s 39 (sa_Tab_3 (sy_Tab s)) x1 x2 x3 x4 m e_y3) rfl rfl (Nat.le_of_ble_eq_true rfl) (by simp [Value.category]) (by omega) (by omega) (by omega) ?_
  refine g_aload_n k_Led_see_20 rfl rfl ?_
  refine p_getr k_Led_see_21 fl_Led_22 rfl (sk_Led s) (by decide) (sr_Led_2 s) ?_
  refine g_aload_n k_Led_see_24 rfl rfl ?_
  refine p_getr k_Led_see_25 fl_Led_70 rfl (sk_Led s) (by decide) (sr_Led_9 s) ?_
  refine p_getr k_Led_see_28 fl_Led_115 rfl (sk_Tab (sy_Tab s)) (by decide) (sr_Tab_3 (sy_Tab s)) ?_
  refine g_aload_n k_Led_see_31 rfl rfl ?_
  refine p_getr k_Led_see_32 fl_Led_70 rfl (sk_Led s) (by decide) (sr_Led_9 s) ?_
  refine p_getr k_Led_see_35 fl_Led_122 rfl (sk_Tab (sy_Tab s)) (by decide) (sr_Tab_4 (sy_Tab s)) ?_
  obtain ⟨y5, m6, e_y5, e⟩ := o_b2_ex e
  refine g_cv k_Led_see_38 lv_Led_125 (by decide +kernel) (T := F_Len) (N := 11) (ci := 2) rfl (sk_Len (sy_len s)) (s_Len_toNew (bc := 0) (bs := 0) s F 2 (sy_len s) 39 (sa_Tab_3 (sy_Tab s)) 40 (sa_Tab_4 (sy_Tab s)) m4 e_y5 (by omega)) rfl rfl (Nat.le_of_ble_eq_true rfl) (by simp [Value.category]) (by omega) (by omega) (by omega) ?_
  refine g_aload_n k_Led_see_41 rfl rfl ?_
  refine p_getr k_Led_see_42 fl_Led_70 rfl (sk_Led s) (by decide) (sr_Led_9 s) ?_
  refine p_getr k_Led_see_45 fl_Led_122 rfl (sk_Tab (sy_Tab s)) (by decide) (sr_Tab_4 (sy_Tab s)) ?_
  refine g_iload k_Led_see_48 rfl ?_
  obtain ⟨q7, e⟩ := o_gd_ex e
  refine p_iald k_Led_see_50 (sa_Tab_4 (sy_Tab s)) (inb_in q7) (j := x5.toNatClampNeg) rfl ?_
  refine g_iret k_Led_see_51 rfl ?_
  exact (by cases e; exact hq)
def f_Led_put (F : Nat) (x1 : Int32) (x2 : Int32) (x3 : Int32) (x4 : Int32) (x5 : Int32) (x6 : Int32) (m : aM) : Option (oX × aM) :=
  o_t (f_Led_checkLetter x6 m) m fun y1 =>
  o_b2 (f_Led_fill 40 x1 x2 x3 x4 m) fun y3 m4 =>
  o_b2 (f_Led_fill 39 x5 x5 x5 x5 m4) fun y5 m6 =>
  o_b2 (f_Len_toBeside F 2 39 41 m6) fun y7 m8 =>
  o_b2 (f_Len_toOld F 2 40 41 39 m8) fun y9 m10 =>
  o_gd (inb x6 4) <|
  some ((.inl (m10 39 x6.toNatClampNeg) : oX), m10)
theorem s_Led_put {K : aK} {d bc bs : Nat} {g : aG} (s : Sys g) (F : Nat) (x1 : Int32) (x2 : Int32) (x3 : Int32) (x4 : Int32) (x5 : Int32) (x6 : Int32) (m : aM) {r : oX} {m' : aM} (e : f_Led_put F x1 x2 x3 x4 x5 x6 m = some (r, m')) (hd : 8 ≤ d) (hc : 1 ≤ bc) (hs : 6 ≤ bs) : SpE K M_Led_put d bc bs [.ref 0, .int x1, .int x2, .int x3, .int x4, .int x5, .int x6] (g, m) (o_out r) (g, m') := by
  refine spe_of ok_Led_put rfl (Nat.le_of_ble_eq_true rfl) (by simp [Value.category]) (fun Q hq => ?_)
  unfold f_Led_put at e
  refine g_iload k_Led_put_0 rfl ?_
  rcases o_t_ex e with ⟨y1, e_y1, e⟩ | ⟨E2, e_y1, e⟩
  rotate_left
  · refine g_csx k_Led_put_2 ls_Led_112 (by decide +kernel) (s_Led_checkLetter (bc := 1) (bs := 6) s x6 m e_y1 (by omega) (by omega) (by omega)) rfl rfl (Nat.le_of_ble_eq_true rfl) (by simp [Value.category]) (by omega) (by omega) (by omega) rfl ?_
    exact (by cases e; exact hq)
  refine g_cs k_Led_put_2 ls_Led_112 (by decide +kernel) (s_Led_checkLetter (bc := 1) (bs := 6) s x6 m e_y1 (by omega) (by omega) (by omega)) rfl rfl (Nat.le_of_ble_eq_true rfl) (by simp [Value.category]) (by omega) (by omega) (by omega) ?_
  refine g_aload_n k_Led_put_5 rfl rfl ?_
  refine p_getr k_Led_put_6 fl_Led_70 rfl (sk_Led s) (by decide) (sr_Led_9 s) ?_
  refine p_getr k_Led_put_9 fl_Led_122 rfl (sk_Tab (sy_Tab s)) (by decide) (sr_Tab_4 (sy_Tab s)) ?_
  refine g_iload_n k_Led_put_12 rfl rfl ?_
  refine g_iload_n k_Led_put_13 rfl rfl ?_
  refine g_iload_n k_Led_put_14 rfl rfl ?_
  refine g_iload k_Led_put_15 rfl ?_
  obtain ⟨y3, m4, e_y3, e⟩ := o_b2_ex e
  refine g_cs k_Led_put_17 ls_Led_118 (by decide +kernel) (s_Led_fill (bc := 0) (bs := 0) s 40 (sa_Tab_4 (sy_Tab s)) x1 x2 x3 x4 m e_y3) rfl rfl (Nat.le_of_ble_eq_true rfl) (by simp [Value.category]) (by omega) (by omega) (by omega) ?_
  refine g_aload_n k_Led_put_20 rfl rfl ?_
  refine p_getr k_Led_put_21 fl_Led_70 rfl (sk_Led s) (by decide) (sr_Led_9 s) ?_
  refine p_getr k_Led_put_24 fl_Led_115 rfl (sk_Tab (sy_Tab s)) (by decide) (sr_Tab_3 (sy_Tab s)) ?_
  refine g_iload k_Led_put_27 rfl ?_
  refine g_iload k_Led_put_29 rfl ?_
  refine g_iload k_Led_put_31 rfl ?_
  refine g_iload k_Led_put_33 rfl ?_
  obtain ⟨y5, m6, e_y5, e⟩ := o_b2_ex e
  refine g_cs k_Led_put_35 ls_Led_118 (by decide +kernel) (s_Led_fill (bc := 0) (bs := 0) s 39 (sa_Tab_3 (sy_Tab s)) x5 x5 x5 x5 m4 e_y5) rfl rfl (Nat.le_of_ble_eq_true rfl) (by simp [Value.category]) (by omega) (by omega) (by omega) ?_
  refine g_aload_n k_Led_put_38 rfl rfl ?_
  refine p_getr k_Led_put_39 fl_Led_22 rfl (sk_Led s) (by decide) (sr_Led_2 s) ?_
  refine g_aload_n k_Led_put_42 rfl rfl ?_
  refine p_getr k_Led_put_43 fl_Led_70 rfl (sk_Led s) (by decide) (sr_Led_9 s) ?_
  refine p_getr k_Led_put_46 fl_Led_115 rfl (sk_Tab (sy_Tab s)) (by decide) (sr_Tab_3 (sy_Tab s)) ?_
  refine g_aload_n k_Led_put_49 rfl rfl ?_
  refine p_getr k_Led_put_50 fl_Led_70 rfl (sk_Led s) (by decide) (sr_Led_9 s) ?_
  refine p_getr k_Led_put_53 fl_Led_129 rfl (sk_Tab (sy_Tab s)) (by decide) (sr_Tab_5 (sy_Tab s)) ?_
  obtain ⟨y7, m8, e_y7, e⟩ := o_b2_ex e
  refine g_cv k_Led_put_56 lv_Led_132 (by decide +kernel) (T := F_Len) (N := 11) (ci := 2) rfl (sk_Len (sy_len s)) (s_Len_toBeside (bc := 0) (bs := 0) s F 2 (sy_len s) 39 (sa_Tab_3 (sy_Tab s)) 41 (sa_Tab_5 (sy_Tab s)) m6 e_y7) rfl rfl (Nat.le_of_ble_eq_true rfl) (by simp [Value.category]) (by omega) (by omega) (by omega) ?_
  refine g_aload_n k_Led_put_59 rfl rfl ?_
  refine p_getr k_Led_put_60 fl_Led_22 rfl (sk_Led s) (by decide) (sr_Led_2 s) ?_
  refine g_aload_n k_Led_put_63 rfl rfl ?_
  refine p_getr k_Led_put_64 fl_Led_70 rfl (sk_Led s) (by decide) (sr_Led_9 s) ?_
  refine p_getr k_Led_put_67 fl_Led_122 rfl (sk_Tab (sy_Tab s)) (by decide) (sr_Tab_4 (sy_Tab s)) ?_
  refine g_aload_n k_Led_put_70 rfl rfl ?_
  refine p_getr k_Led_put_71 fl_Led_70 rfl (sk_Led s) (by decide) (sr_Led_9 s) ?_
  refine p_getr k_Led_put_74 fl_Led_129 rfl (sk_Tab (sy_Tab s)) (by decide) (sr_Tab_5 (sy_Tab s)) ?_
  refine g_aload_n k_Led_put_77 rfl rfl ?_
  refine p_getr k_Led_put_78 fl_Led_70 rfl (sk_Led s) (by decide) (sr_Led_9 s) ?_
  refine p_getr k_Led_put_81 fl_Led_115 rfl (sk_Tab (sy_Tab s)) (by decide) (sr_Tab_3 (sy_Tab s)) ?_
  obtain ⟨y9, m10, e_y9, e⟩ := o_b2_ex e
  refine g_cv k_Led_put_84 lv_Led_135 (by decide +kernel) (T := F_Len) (N := 11) (ci := 2) rfl (sk_Len (sy_len s)) (s_Len_toOld (bc := 0) (bs := 0) s F 2 (sy_len s) 40 (sa_Tab_4 (sy_Tab s)) 41 (sa_Tab_5 (sy_Tab s)) 39 (sa_Tab_3 (sy_Tab s)) m8 e_y9 (by omega)) rfl rfl (Nat.le_of_ble_eq_true rfl) (by simp [Value.category]) (by omega) (by omega) (by omega) ?_
  refine g_aload_n k_Led_put_87 rfl rfl ?_
  refine p_getr k_Led_put_88 fl_Led_70 rfl (sk_Led s) (by decide) (sr_Led_9 s) ?_
  refine p_getr k_Led_put_91 fl_Led_115 rfl (sk_Tab (sy_Tab s)) (by decide) (sr_Tab_3 (sy_Tab s)) ?_
  refine g_iload k_Led_put_94 rfl ?_
  obtain ⟨q11, e⟩ := o_gd_ex e
  refine p_iald k_Led_put_96 (sa_Tab_3 (sy_Tab s)) (inb_in q11) (j := x6.toNatClampNeg) rfl ?_
  refine g_iret k_Led_put_97 rfl ?_
  exact (by cases e; exact hq)
def f_Led_box (x1 : Int32) (x2 : Int32) (x3 : Int32) (m : aM) : Option (oX × aM) :=
  o_t (f_Led_checkLetter x1 m) m fun y1 =>
  o_t (f_Led_checkRange x2 (-999) 999 m) m fun y3 =>
  o_t (f_Led_checkRange x3 (-999) 999 m) m fun y5 =>
  o_t (f_Led_checkRange (x3 - x2) 0 7 m) m fun y7 =>
  o_b2 (f_Box_bound x1 x2 x3 m) fun y9 m10 =>
  some ((.inl 0 : oX), m10)
theorem s_Led_box {K : aK} {d bc bs : Nat} {g : aG} (s : Sys g) (x1 : Int32) (x2 : Int32) (x3 : Int32) (m : aM) {r : oX} {m' : aM} (e : f_Led_box x1 x2 x3 m = some (r, m')) (hd : 8 ≤ d) (hc : 4 ≤ bc) (hs : 24 ≤ bs) : SpE K M_Led_box d bc bs [.ref 0, .int x1, .int x2, .int x3] (g, m) (o_outv r) (g, m') := by
  refine spe_of ok_Led_box rfl (Nat.le_of_ble_eq_true rfl) (by simp [Value.category]) (fun Q hq => ?_)
  unfold f_Led_box at e
  refine g_iload_n k_Led_box_0 rfl rfl ?_
  rcases o_t_ex e with ⟨y1, e_y1, e⟩ | ⟨E2, e_y1, e⟩
  rotate_left
  · refine g_csx k_Led_box_1 ls_Led_112 (by decide +kernel) (s_Led_checkLetter (bc := 1) (bs := 6) s x1 m e_y1 (by omega) (by omega) (by omega)) rfl rfl (Nat.le_of_ble_eq_true rfl) (by simp [Value.category]) (by omega) (by omega) (by omega) rfl ?_
    exact (by cases e; exact hq)
  refine g_cs k_Led_box_1 ls_Led_112 (by decide +kernel) (s_Led_checkLetter (bc := 1) (bs := 6) s x1 m e_y1 (by omega) (by omega) (by omega)) rfl rfl (Nat.le_of_ble_eq_true rfl) (by simp [Value.category]) (by omega) (by omega) (by omega) ?_
  refine g_iload_n k_Led_box_4 rfl rfl ?_
  refine g_sipush (v := (-999)) k_Led_box_5 rfl ?_
  refine g_sipush (v := 999) k_Led_box_8 rfl ?_
  rcases o_t_ex e with ⟨y3, e_y3, e⟩ | ⟨E4, e_y3, e⟩
  rotate_left
  · refine g_csx k_Led_box_11 ls_Led_139 (by decide +kernel) (s_Led_checkRange (bc := 1) (bs := 6) s x2 (-999) 999 m e_y3 (by omega) (by omega) (by omega)) rfl rfl (Nat.le_of_ble_eq_true rfl) (by simp [Value.category]) (by omega) (by omega) (by omega) rfl ?_
    exact (by cases e; exact hq)
  refine g_cs k_Led_box_11 ls_Led_139 (by decide +kernel) (s_Led_checkRange (bc := 1) (bs := 6) s x2 (-999) 999 m e_y3 (by omega) (by omega) (by omega)) rfl rfl (Nat.le_of_ble_eq_true rfl) (by simp [Value.category]) (by omega) (by omega) (by omega) ?_
  refine g_iload_n k_Led_box_14 rfl rfl ?_
  refine g_sipush (v := (-999)) k_Led_box_15 rfl ?_
  refine g_sipush (v := 999) k_Led_box_18 rfl ?_
  rcases o_t_ex e with ⟨y5, e_y5, e⟩ | ⟨E6, e_y5, e⟩
  rotate_left
  · refine g_csx k_Led_box_21 ls_Led_139 (by decide +kernel) (s_Led_checkRange (bc := 1) (bs := 6) s x3 (-999) 999 m e_y5 (by omega) (by omega) (by omega)) rfl rfl (Nat.le_of_ble_eq_true rfl) (by simp [Value.category]) (by omega) (by omega) (by omega) rfl ?_
    exact (by cases e; exact hq)
  refine g_cs k_Led_box_21 ls_Led_139 (by decide +kernel) (s_Led_checkRange (bc := 1) (bs := 6) s x3 (-999) 999 m e_y5 (by omega) (by omega) (by omega)) rfl rfl (Nat.le_of_ble_eq_true rfl) (by simp [Value.category]) (by omega) (by omega) (by omega) ?_
  refine g_iload_n k_Led_box_24 rfl rfl ?_
  refine g_iload_n k_Led_box_25 rfl rfl ?_
  refine g_isub k_Led_box_26 ?_
  refine g_iconst (v := 0) k_Led_box_27 rfl ?_
  refine g_bipush (v := 7) k_Led_box_28 rfl ?_
  rcases o_t_ex e with ⟨y7, e_y7, e⟩ | ⟨E8, e_y7, e⟩
  rotate_left
  · refine g_csx k_Led_box_30 ls_Led_139 (by decide +kernel) (s_Led_checkRange (bc := 1) (bs := 6) s (x3 - x2) 0 7 m e_y7 (by omega) (by omega) (by omega)) rfl rfl (Nat.le_of_ble_eq_true rfl) (by simp [Value.category]) (by omega) (by omega) (by omega) rfl ?_
    exact (by cases e; exact hq)
  refine g_cs k_Led_box_30 ls_Led_139 (by decide +kernel) (s_Led_checkRange (bc := 1) (bs := 6) s (x3 - x2) 0 7 m e_y7 (by omega) (by omega) (by omega)) rfl rfl (Nat.le_of_ble_eq_true rfl) (by simp [Value.category]) (by omega) (by omega) (by omega) ?_
  refine g_aload_n k_Led_box_33 rfl rfl ?_
  refine p_getr k_Led_box_34 fl_Led_43 rfl (sk_Led s) (by decide) (sr_Led_5 s) ?_
  refine g_iload_n k_Led_box_37 rfl rfl ?_
  refine g_iload_n k_Led_box_38 rfl rfl ?_
  refine g_iload_n k_Led_box_39 rfl rfl ?_
  obtain ⟨y9, m10, e_y9, e⟩ := o_b2_ex e
  refine g_cv k_Led_box_40 lv_Led_143 (by decide +kernel) (T := F_Box) (N := 9) (ci := 1) rfl (sk_Box (sy_Box s)) (s_Box_bound (bc := 0) (bs := 0) s x1 x2 x3 m e_y9) rfl rfl (Nat.le_of_ble_eq_true rfl) (by simp [Value.category]) (by omega) (by omega) (by omega) ?_
  refine g_vret k_Led_box_43 rfl ?_
  exact (by cases e; exact hq)
def f_Led_agree (F : Nat) (x1 : Int32) (x2 : Int32) (m : aM) : Option (oX × aM) :=
  o_t (f_Led_checkRange x1 0 1 m) m fun y1 =>
  o_t (f_Led_checkLetter x2 m) m fun y3 =>
  o_b2 (f_Box_firstUnlike F x1 x2 m) fun y5 m6 =>
  some ((.inl y5 : oX), m6)
theorem s_Led_agree {K : aK} {d bc bs : Nat} {g : aG} (s : Sys g) (F : Nat) (x1 : Int32) (x2 : Int32) (m : aM) {r : oX} {m' : aM} (e : f_Led_agree F x1 x2 m = some (r, m')) (hd : 8 ≤ d) (hc : 2 ≤ bc) (hs : 12 ≤ bs) : SpE K M_Led_agree d bc bs [.ref 0, .int x1, .int x2] (g, m) (o_out r) (g, m') := by
  refine spe_of ok_Led_agree rfl (Nat.le_of_ble_eq_true rfl) (by simp [Value.category]) (fun Q hq => ?_)
  unfold f_Led_agree at e
  refine g_iload_n k_Led_agree_0 rfl rfl ?_
  refine g_iconst (v := 0) k_Led_agree_1 rfl ?_
  refine g_iconst (v := 1) k_Led_agree_2 rfl ?_
  rcases o_t_ex e with ⟨y1, e_y1, e⟩ | ⟨E2, e_y1, e⟩
  rotate_left
  · refine g_csx k_Led_agree_3 ls_Led_139 (by decide +kernel) (s_Led_checkRange (bc := 1) (bs := 6) s x1 0 1 m e_y1 (by omega) (by omega) (by omega)) rfl rfl (Nat.le_of_ble_eq_true rfl) (by simp [Value.category]) (by omega) (by omega) (by omega) rfl ?_
    exact (by cases e; exact hq)
  refine g_cs k_Led_agree_3 ls_Led_139 (by decide +kernel) (s_Led_checkRange (bc := 1) (bs := 6) s x1 0 1 m e_y1 (by omega) (by omega) (by omega)) rfl rfl (Nat.le_of_ble_eq_true rfl) (by simp [Value.category]) (by omega) (by omega) (by omega) ?_
  refine g_iload_n k_Led_agree_6 rfl rfl ?_
  rcases o_t_ex e with ⟨y3, e_y3, e⟩ | ⟨E4, e_y3, e⟩
  rotate_left
  · refine g_csx k_Led_agree_7 ls_Led_112 (by decide +kernel) (s_Led_checkLetter (bc := 1) (bs := 6) s x2 m e_y3 (by omega) (by omega) (by omega)) rfl rfl (Nat.le_of_ble_eq_true rfl) (by simp [Value.category]) (by omega) (by omega) (by omega) rfl ?_
    exact (by cases e; exact hq)
  refine g_cs k_Led_agree_7 ls_Led_112 (by decide +kernel) (s_Led_checkLetter (bc := 1) (bs := 6) s x2 m e_y3 (by omega) (by omega) (by omega)) rfl rfl (Nat.le_of_ble_eq_true rfl) (by simp [Value.category]) (by omega) (by omega) (by omega) ?_
  refine g_aload_n k_Led_agree_10 rfl rfl ?_
  refine p_getr k_Led_agree_11 fl_Led_43 rfl (sk_Led s) (by decide) (sr_Led_5 s) ?_
  refine g_iload_n k_Led_agree_14 rfl rfl ?_
  refine g_iload_n k_Led_agree_15 rfl rfl ?_
  obtain ⟨y5, m6, e_y5, e⟩ := o_b2_ex e
  refine g_cv k_Led_agree_16 lv_Led_146 (by decide +kernel) (T := F_Box) (N := 9) (ci := 1) rfl (sk_Box (sy_Box s)) (s_Box_firstUnlike (bc := 0) (bs := 0) s F x1 x2 m e_y5 (by omega)) rfl rfl (Nat.le_of_ble_eq_true rfl) (by simp [Value.category]) (by omega) (by omega) (by omega) ?_
  refine g_iret k_Led_agree_19 rfl ?_
  exact (by cases e; exact hq)
def f_Led_unlike (F : Nat) (x1 : Int32) (m : aM) : Option (oX × aM) :=
  o_t (f_Led_checkRange x1 0 1 m) m fun y1 =>
  o_b2 (f_Box_manyUnlike F x1 m) fun y3 m4 =>
  some ((.inl y3 : oX), m4)
theorem s_Led_unlike {K : aK} {d bc bs : Nat} {g : aG} (s : Sys g) (F : Nat) (x1 : Int32) (m : aM) {r : oX} {m' : aM} (e : f_Led_unlike F x1 m = some (r, m')) (hd : 7 ≤ d) (hc : 1 ≤ bc) (hs : 6 ≤ bs) : SpE K M_Led_unlike d bc bs [.ref 0, .int x1] (g, m) (o_out r) (g, m') := by
  refine spe_of ok_Led_unlike rfl (Nat.le_of_ble_eq_true rfl) (by simp [Value.category]) (fun Q hq => ?_)
  unfold f_Led_unlike at e
  refine g_iload_n k_Led_unlike_0 rfl rfl ?_
  refine g_iconst (v := 0) k_Led_unlike_1 rfl ?_
  refine g_iconst (v := 1) k_Led_unlike_2 rfl ?_
  rcases o_t_ex e with ⟨y1, e_y1, e⟩ | ⟨E2, e_y1, e⟩
  rotate_left
  · refine g_csx k_Led_unlike_3 ls_Led_139 (by decide +kernel) (s_Led_checkRange (bc := 1) (bs := 6) s x1 0 1 m e_y1 (by omega) (by omega) (by omega)) rfl rfl (Nat.le_of_ble_eq_true rfl) (by simp [Value.category]) (by omega) (by omega) (by omega) rfl ?_
    exact (by cases e; exact hq)
  refine g_cs k_Led_unlike_3 ls_Led_139 (by decide +kernel) (s_Led_checkRange (bc := 1) (bs := 6) s x1 0 1 m e_y1 (by omega) (by omega) (by omega)) rfl rfl (Nat.le_of_ble_eq_true rfl) (by simp [Value.category]) (by omega) (by omega) (by omega) ?_
  refine g_aload_n k_Led_unlike_6 rfl rfl ?_
  refine p_getr k_Led_unlike_7 fl_Led_43 rfl (sk_Led s) (by decide) (sr_Led_5 s) ?_
  refine g_iload_n k_Led_unlike_10 rfl rfl ?_
  obtain ⟨y3, m4, e_y3, e⟩ := o_b2_ex e
  refine g_cv k_Led_unlike_11 lv_Led_150 (by decide +kernel) (T := F_Box) (N := 9) (ci := 1) rfl (sk_Box (sy_Box s)) (s_Box_manyUnlike (bc := 0) (bs := 0) s F x1 m e_y3 (by omega)) rfl rfl (Nat.le_of_ble_eq_true rfl) (by simp [Value.category]) (by omega) (by omega) (by omega) ?_
  refine g_iret k_Led_unlike_14 rfl ?_
  exact (by cases e; exact hq)
def f_Led_checkProgram (x1 : Int32) (m : aM) : Option oX :=
  (if x1 < 0 then
  some (.inr "java/lang/IndexOutOfBoundsException" : oX)
  else
  (if x1 < (m 29 6) then
  some (.inl 0 : oX)
  else
  some (.inr "java/lang/IndexOutOfBoundsException" : oX)
  )
  )
theorem s_Led_checkProgram {K : aK} {d bc bs : Nat} {g : aG} (s : Sys g) (x1 : Int32) (m : aM) {r : oX} (e : f_Led_checkProgram x1 m = some r) (hd : 6 ≤ d) (hc : 1 ≤ bc) (hs : 6 ≤ bs) : SpE K M_Led_checkProgram d bc bs [.ref 0, .int x1] (g, m) (o_outv r) (g, m) := by
  refine spe_of ok_Led_checkProgram rfl (Nat.le_of_ble_eq_true rfl) (by simp [Value.category]) (fun Q hq => ?_)
  unfold f_Led_checkProgram at e
  refine g_iload_n k_Led_checkProgram_0 rfl rfl ?_
  refine g_if_lt (tgt := 15) k_Led_checkProgram_1 (by decide) (fun c => ?_) (fun c => ?_)
  · rw [if_pos c] at e
    refine g_thw rfl tl_iob (k := 13) rfl k_Led_checkProgram_15 k_Led_checkProgram_18 k_Led_checkProgram_19 k_Led_checkProgram_22 k_Led_checkProgram_25 (by omega) (by omega) (by omega) ?_
    exact (by cases e; exact hq)
  · rw [if_neg c] at e
    refine g_iload_n k_Led_checkProgram_4 rfl rfl ?_
    refine g_aload_n k_Led_checkProgram_5 rfl rfl ?_
    refine p_getr k_Led_checkProgram_6 fl_Led_50 rfl (sk_Led s) (by decide) (sr_Led_6 s) ?_
    refine p_geti k_Led_checkProgram_9 fl_Led_314 rfl (sk_Pla (sy_Pla s)) (by decide) ?_
    refine g_icmp_lt (tgt := 26) k_Led_checkProgram_12 (by decide) (fun c => ?_) (fun c => ?_)
    · rw [if_pos c] at e
      refine g_vret k_Led_checkProgram_26 rfl ?_
      exact (by cases e; exact hq)
    · rw [if_neg c] at e
      refine g_thw rfl tl_iob (k := 13) rfl k_Led_checkProgram_15 k_Led_checkProgram_18 k_Led_checkProgram_19 k_Led_checkProgram_22 k_Led_checkProgram_25 (by omega) (by omega) (by omega) ?_
      exact (by cases e; exact hq)
def f_Led_price (x1 : Int32) (x2 : Int32) (m : aM) : Option (oX × aM) :=
  o_t (f_Led_checkProgram x1 m) m fun y1 =>
  o_t (f_Led_checkRange x2 0 99 m) m fun y3 =>
  o_b2 (f_Pla_tellPrice x1 x2 m) fun y5 m6 =>
  some ((.inl y5 : oX), m6)
theorem s_Led_price {K : aK} {d bc bs : Nat} {g : aG} (s : Sys g) (x1 : Int32) (x2 : Int32) (m : aM) {r : oX} {m' : aM} (e : f_Led_price x1 x2 m = some (r, m')) (hd : 7 ≤ d) (hc : 2 ≤ bc) (hs : 12 ≤ bs) : SpE K M_Led_price d bc bs [.ref 0, .int x1, .int x2] (g, m) (o_out r) (g, m') := by
  refine spe_of ok_Led_price rfl (Nat.le_of_ble_eq_true rfl) (by simp [Value.category]) (fun Q hq => ?_)
  unfold f_Led_price at e
  refine g_aload_n k_Led_price_0 rfl rfl ?_
  refine g_iload_n k_Led_price_1 rfl rfl ?_
  rcases o_t_ex e with ⟨y1, e_y1, e⟩ | ⟨E2, e_y1, e⟩
  rotate_left
  · refine g_cvx k_Led_price_2 lv_Led_183 (by decide +kernel) (T := F_Led) (N := 10) (ci := 9) rfl (sk_Led s) (s_Led_checkProgram (bc := 1) (bs := 6) s x1 m e_y1 (by omega) (by omega) (by omega)) rfl rfl (Nat.le_of_ble_eq_true rfl) (by simp [Value.category]) (by omega) (by omega) (by omega) rfl ?_
    exact (by cases e; exact hq)
  refine g_cv k_Led_price_2 lv_Led_183 (by decide +kernel) (T := F_Led) (N := 10) (ci := 9) rfl (sk_Led s) (s_Led_checkProgram (bc := 1) (bs := 6) s x1 m e_y1 (by omega) (by omega) (by omega)) rfl rfl (Nat.le_of_ble_eq_true rfl) (by simp [Value.category]) (by omega) (by omega) (by omega) ?_
  refine g_iload_n k_Led_price_5 rfl rfl ?_
  refine g_iconst (v := 0) k_Led_price_6 rfl ?_
  refine g_bipush (v := 99) k_Led_price_7 rfl ?_
  rcases o_t_ex e with ⟨y3, e_y3, e⟩ | ⟨E4, e_y3, e⟩
  rotate_left
  · refine g_csx k_Led_price_9 ls_Led_139 (by decide +kernel) (s_Led_checkRange (bc := 1) (bs := 6) s x2 0 99 m e_y3 (by omega) (by omega) (by omega)) rfl rfl (Nat.le_of_ble_eq_true rfl) (by simp [Value.category]) (by omega) (by omega) (by omega) rfl ?_
    exact (by cases e; exact hq)
  refine g_cs k_Led_price_9 ls_Led_139 (by decide +kernel) (s_Led_checkRange (bc := 1) (bs := 6) s x2 0 99 m e_y3 (by omega) (by omega) (by omega)) rfl rfl (Nat.le_of_ble_eq_true rfl) (by simp [Value.category]) (by omega) (by omega) (by omega) ?_
  refine g_aload_n k_Led_price_12 rfl rfl ?_
  refine p_getr k_Led_price_13 fl_Led_50 rfl (sk_Led s) (by decide) (sr_Led_6 s) ?_
  refine g_iload_n k_Led_price_16 rfl rfl ?_
  refine g_iload_n k_Led_price_17 rfl rfl ?_
  obtain ⟨y5, m6, e_y5, e⟩ := o_b2_ex e
  refine g_cv k_Led_price_18 lv_Led_189 (by decide +kernel) (T := F_Pla) (N := 8) (ci := 4) rfl (sk_Pla (sy_Pla s)) (s_Pla_tellPrice (bc := 0) (bs := 0) s x1 x2 m e_y5 (by omega)) rfl rfl (Nat.le_of_ble_eq_true rfl) (by simp [Value.category]) (by omega) (by omega) (by omega) ?_
  refine g_iret k_Led_price_21 rfl ?_
  exact (by cases e; exact hq)
def f_Led_checkNode (x1 : Int32) (x2 : Int32) (m : aM) : Option oX :=
  o_b (f_Pla_manyNodes  m) fun y1 =>
  o_tp (f_Led_checkRange x1 0 (y1 - 1) m) fun y2 =>
  o_b (f_Pla_manySets  m) fun y4 =>
  o_tp (f_Led_checkRange x2 0 (y4 - 1) m) fun y5 =>
  some (.inl 0 : oX)
theorem s_Led_checkNode {K : aK} {d bc bs : Nat} {g : aG} (s : Sys g) (x1 : Int32) (x2 : Int32) (m : aM) {r : oX} (e : f_Led_checkNode x1 x2 m = some r) (hd : 7 ≤ d) (hc : 2 ≤ bc) (hs : 12 ≤ bs) : SpE K M_Led_checkNode d bc bs [.ref 0, .int x1, .int x2] (g, m) (o_outv r) (g, m) := by
  refine spe_of ok_Led_checkNode rfl (Nat.le_of_ble_eq_true rfl) (by simp [Value.category]) (fun Q hq => ?_)
  unfold f_Led_checkNode at e
  refine g_iload_n k_Led_checkNode_0 rfl rfl ?_
  refine g_iconst (v := 0) k_Led_checkNode_1 rfl ?_
  refine g_aload_n k_Led_checkNode_2 rfl rfl ?_
  refine p_getr k_Led_checkNode_3 fl_Led_50 rfl (sk_Led s) (by decide) (sr_Led_6 s) ?_
  obtain ⟨y1, e_y1, e⟩ := o_b_ex e
  refine g_cv k_Led_checkNode_6 lv_Led_336 (by decide +kernel) (T := F_Pla) (N := 8) (ci := 4) rfl (sk_Pla (sy_Pla s)) (s_Pla_manyNodes (bc := 0) (bs := 0) s  m e_y1 (by omega)) rfl rfl (Nat.le_of_ble_eq_true rfl) (by simp [Value.category]) (by omega) (by omega) (by omega) ?_
  refine g_iconst (v := 1) k_Led_checkNode_9 rfl ?_
  refine g_isub k_Led_checkNode_10 ?_
  rcases o_tp_ex e with ⟨y2, e_y2, e⟩ | ⟨E3, e_y2, e⟩
  rotate_left
  · refine g_csx k_Led_checkNode_11 ls_Led_139 (by decide +kernel) (s_Led_checkRange (bc := 1) (bs := 6) s x1 0 (y1 - 1) m e_y2 (by omega) (by omega) (by omega)) rfl rfl (Nat.le_of_ble_eq_true rfl) (by simp [Value.category]) (by omega) (by omega) (by omega) rfl ?_
    exact (by cases e; exact hq)
  refine g_cs k_Led_checkNode_11 ls_Led_139 (by decide +kernel) (s_Led_checkRange (bc := 1) (bs := 6) s x1 0 (y1 - 1) m e_y2 (by omega) (by omega) (by omega)) rfl rfl (Nat.le_of_ble_eq_true rfl) (by simp [Value.category]) (by omega) (by omega) (by omega) ?_
  refine g_iload_n k_Led_checkNode_14 rfl rfl ?_
  refine g_iconst (v := 0) k_Led_checkNode_15 rfl ?_
  refine g_aload_n k_Led_checkNode_16 rfl rfl ?_
  refine p_getr k_Led_checkNode_17 fl_Led_50 rfl (sk_Led s) (by decide) (sr_Led_6 s) ?_
  obtain ⟨y4, e_y4, e⟩ := o_b_ex e
  refine g_cv k_Led_checkNode_20 lv_Led_339 (by decide +kernel) (T := F_Pla) (N := 8) (ci := 4) rfl (sk_Pla (sy_Pla s)) (s_Pla_manySets (bc := 0) (bs := 0) s  m e_y4) rfl rfl (Nat.le_of_ble_eq_true rfl) (by simp [Value.category]) (by omega) (by omega) (by omega) ?_
  refine g_iconst (v := 1) k_Led_checkNode_23 rfl ?_
  refine g_isub k_Led_checkNode_24 ?_
  rcases o_tp_ex e with ⟨y5, e_y5, e⟩ | ⟨E6, e_y5, e⟩
  rotate_left
  · refine g_csx k_Led_checkNode_25 ls_Led_139 (by decide +kernel) (s_Led_checkRange (bc := 1) (bs := 6) s x2 0 (y4 - 1) m e_y5 (by omega) (by omega) (by omega)) rfl rfl (Nat.le_of_ble_eq_true rfl) (by simp [Value.category]) (by omega) (by omega) (by omega) rfl ?_
    exact (by cases e; exact hq)
  refine g_cs k_Led_checkNode_25 ls_Led_139 (by decide +kernel) (s_Led_checkRange (bc := 1) (bs := 6) s x2 0 (y4 - 1) m e_y5 (by omega) (by omega) (by omega)) rfl rfl (Nat.le_of_ble_eq_true rfl) (by simp [Value.category]) (by omega) (by omega) (by omega) ?_
  refine g_vret k_Led_checkNode_28 rfl ?_
  exact (by cases e; exact hq)
def f_Led_checkKey (x0 : Int32) (m : aM) : Option oX :=
  (if x0 < 0 then
  some (.inr "java/lang/IndexOutOfBoundsException" : oX)
  else
  (if x0 < 40 then
  some (.inl 0 : oX)
  else
  some (.inr "java/lang/IndexOutOfBoundsException" : oX)
  )
  )
theorem s_Led_checkKey {K : aK} {d bc bs : Nat} {g : aG} (s : Sys g) (x0 : Int32) (m : aM) {r : oX} (e : f_Led_checkKey x0 m = some r) (hd : 6 ≤ d) (hc : 1 ≤ bc) (hs : 6 ≤ bs) : SpE K M_Led_checkKey d bc bs [.int x0] (g, m) (o_outv r) (g, m) := by
  refine spe_of ok_Led_checkKey rfl (Nat.le_of_ble_eq_true rfl) (by simp [Value.category]) (fun Q hq => ?_)
  unfold f_Led_checkKey at e
  refine g_iload_n k_Led_checkKey_0 rfl rfl ?_
  refine g_if_lt (tgt := 10) k_Led_checkKey_1 (by decide) (fun c => ?_) (fun c => ?_)
  · rw [if_pos c] at e
    refine g_thw rfl tl_iob (k := 15) rfl k_Led_checkKey_10 k_Led_checkKey_13 k_Led_checkKey_14 k_Led_checkKey_17 k_Led_checkKey_20 (by omega) (by omega) (by omega) ?_
    exact (by cases e; exact hq)
  · rw [if_neg c] at e
    refine g_iload_n k_Led_checkKey_4 rfl rfl ?_
    refine g_bipush (v := 40) k_Led_checkKey_5 rfl ?_
    refine g_icmp_lt (tgt := 21) k_Led_checkKey_7 (by decide) (fun c => ?_) (fun c => ?_)
    · rw [if_pos c] at e
      refine g_vret k_Led_checkKey_21 rfl ?_
      exact (by cases e; exact hq)
    · rw [if_neg c] at e
      refine g_thw rfl tl_iob (k := 15) rfl k_Led_checkKey_10 k_Led_checkKey_13 k_Led_checkKey_14 k_Led_checkKey_17 k_Led_checkKey_20 (by omega) (by omega) (by omega) ?_
      exact (by cases e; exact hq)
def f_Led_insert (F : Nat) (x1 : Int32) (m : aM) : Option (oX × aM) :=
  o_t (f_Led_checkKey x1 m) m fun y1 =>
  o_b2 (f_Tab_addRow F x1 m) fun y3 m4 =>
  some ((.inl y3 : oX), m4)
theorem s_Led_insert {K : aK} {d bc bs : Nat} {g : aG} (s : Sys g) (F : Nat) (x1 : Int32) (m : aM) {r : oX} {m' : aM} (e : f_Led_insert F x1 m = some (r, m')) (hd : 7 ≤ d) (hc : 1 ≤ bc) (hs : 6 ≤ bs) : SpE K M_Led_insert d bc bs [.ref 0, .int x1] (g, m) (o_out r) (g, m') := by
  refine spe_of ok_Led_insert rfl (Nat.le_of_ble_eq_true rfl) (by simp [Value.category]) (fun Q hq => ?_)
  unfold f_Led_insert at e
  refine g_iload_n k_Led_insert_0 rfl rfl ?_
  rcases o_t_ex e with ⟨y1, e_y1, e⟩ | ⟨E2, e_y1, e⟩
  rotate_left
  · refine g_csx k_Led_insert_1 ls_Led_231 (by decide +kernel) (s_Led_checkKey (bc := 1) (bs := 6) s x1 m e_y1 (by omega) (by omega) (by omega)) rfl rfl (Nat.le_of_ble_eq_true rfl) (by simp [Value.category]) (by omega) (by omega) (by omega) rfl ?_
    exact (by cases e; exact hq)
  refine g_cs k_Led_insert_1 ls_Led_231 (by decide +kernel) (s_Led_checkKey (bc := 1) (bs := 6) s x1 m e_y1 (by omega) (by omega) (by omega)) rfl rfl (Nat.le_of_ble_eq_true rfl) (by simp [Value.category]) (by omega) (by omega) (by omega) ?_
  refine g_aload_n k_Led_insert_4 rfl rfl ?_
  refine p_getr k_Led_insert_5 fl_Led_70 rfl (sk_Led s) (by decide) (sr_Led_9 s) ?_
  refine g_iload_n k_Led_insert_8 rfl rfl ?_
  obtain ⟨y3, m4, e_y3, e⟩ := o_b2_ex e
  refine g_cv k_Led_insert_9 lv_Led_234 (by decide +kernel) (T := F_Tab) (N := 11) (ci := 7) rfl (sk_Tab (sy_Tab s)) (s_Tab_addRow (bc := 0) (bs := 0) s F x1 m e_y3 (by omega)) rfl rfl (Nat.le_of_ble_eq_true rfl) (by simp [Value.category]) (by omega) (by omega) (by omega) ?_
  refine g_iret k_Led_insert_12 rfl ?_
  exact (by cases e; exact hq)
def f_Led_delete (x1 : Int32) (m : aM) : Option (oX × aM) :=
  o_t (f_Led_checkKey x1 m) m fun y1 =>
  o_b2 (f_Tab_dropRow x1 m) fun y3 m4 =>
  o_gd (isb y3) <|
  some ((.inl y3 : oX), m4)
theorem s_Led_delete {K : aK} {d bc bs : Nat} {g : aG} (s : Sys g) (x1 : Int32) (m : aM) {r : oX} {m' : aM} (e : f_Led_delete x1 m = some (r, m')) (hd : 7 ≤ d) (hc : 1 ≤ bc) (hs : 6 ≤ bs) : SpE K M_Led_delete d bc bs [.ref 0, .int x1] (g, m) (o_out r) (g, m') := by
  refine spe_of ok_Led_delete rfl (Nat.le_of_ble_eq_true rfl) (by simp [Value.category]) (fun Q hq => ?_)
  unfold f_Led_delete at e
  refine g_iload_n k_Led_delete_0 rfl rfl ?_
  rcases o_t_ex e with ⟨y1, e_y1, e⟩ | ⟨E2, e_y1, e⟩
  rotate_left
  · refine g_csx k_Led_delete_1 ls_Led_231 (by decide +kernel) (s_Led_checkKey (bc := 1) (bs := 6) s x1 m e_y1 (by omega) (by omega) (by omega)) rfl rfl (Nat.le_of_ble_eq_true rfl) (by simp [Value.category]) (by omega) (by omega) (by omega) rfl ?_
    exact (by cases e; exact hq)
  refine g_cs k_Led_delete_1 ls_Led_231 (by decide +kernel) (s_Led_checkKey (bc := 1) (bs := 6) s x1 m e_y1 (by omega) (by omega) (by omega)) rfl rfl (Nat.le_of_ble_eq_true rfl) (by simp [Value.category]) (by omega) (by omega) (by omega) ?_
  refine g_aload_n k_Led_delete_4 rfl rfl ?_
  refine p_getr k_Led_delete_5 fl_Led_70 rfl (sk_Led s) (by decide) (sr_Led_9 s) ?_
  refine g_iload_n k_Led_delete_8 rfl rfl ?_
  obtain ⟨y3, m4, e_y3, e⟩ := o_b2_ex e
  refine g_cv k_Led_delete_9 lv_Led_237 (by decide +kernel) (T := F_Tab) (N := 11) (ci := 7) rfl (sk_Tab (sy_Tab s)) (s_Tab_dropRow (bc := 0) (bs := 0) s x1 m e_y3 (by omega)) rfl rfl (Nat.le_of_ble_eq_true rfl) (by simp [Value.category]) (by omega) (by omega) (by omega) ?_
  obtain ⟨q5, e⟩ := o_gd_ex e
  refine g_zret k_Led_delete_12 rfl (isb_or q5) ?_
  exact (by cases e; exact hq)
def f_Led_checkAsked (x0 : Int32) (x1 : Int32) (x2 : Int32) (m : aM) : Option oX :=
  o_tp (f_Led_checkRange x0 0 7 m) fun y1 =>
  o_tp (f_Led_checkRange x1 0 1 m) fun y3 =>
  o_tp (f_Led_checkLetter x2 m) fun y5 =>
  some (.inl 0 : oX)
theorem s_Led_checkAsked {K : aK} {d bc bs : Nat} {g : aG} (s : Sys g) (x0 : Int32) (x1 : Int32) (x2 : Int32) (m : aM) {r : oX} (e : f_Led_checkAsked x0 x1 x2 m = some r) (hd : 8 ≤ d) (hc : 3 ≤ bc) (hs : 18 ≤ bs) : SpE K M_Led_checkAsked d bc bs [.int x0, .int x1, .int x2] (g, m) (o_outv r) (g, m) := by
  refine spe_of ok_Led_checkAsked rfl (Nat.le_of_ble_eq_true rfl) (by simp [Value.category]) (fun Q hq => ?_)
  unfold f_Led_checkAsked at e
  refine g_iload_n k_Led_checkAsked_0 rfl rfl ?_
  refine g_iconst (v := 0) k_Led_checkAsked_1 rfl ?_
  refine g_bipush (v := 7) k_Led_checkAsked_2 rfl ?_
  rcases o_tp_ex e with ⟨y1, e_y1, e⟩ | ⟨E2, e_y1, e⟩
  rotate_left
  · refine g_csx k_Led_checkAsked_4 ls_Led_139 (by decide +kernel) (s_Led_checkRange (bc := 1) (bs := 6) s x0 0 7 m e_y1 (by omega) (by omega) (by omega)) rfl rfl (Nat.le_of_ble_eq_true rfl) (by simp [Value.category]) (by omega) (by omega) (by omega) rfl ?_
    exact (by cases e; exact hq)
  refine g_cs k_Led_checkAsked_4 ls_Led_139 (by decide +kernel) (s_Led_checkRange (bc := 1) (bs := 6) s x0 0 7 m e_y1 (by omega) (by omega) (by omega)) rfl rfl (Nat.le_of_ble_eq_true rfl) (by simp [Value.category]) (by omega) (by omega) (by omega) ?_
  refine g_iload_n k_Led_checkAsked_7 rfl rfl ?_
  refine g_iconst (v := 0) k_Led_checkAsked_8 rfl ?_
  refine g_iconst (v := 1) k_Led_checkAsked_9 rfl ?_
  rcases o_tp_ex e with ⟨y3, e_y3, e⟩ | ⟨E4, e_y3, e⟩
  rotate_left
  · refine g_csx k_Led_checkAsked_10 ls_Led_139 (by decide +kernel) (s_Led_checkRange (bc := 1) (bs := 6) s x1 0 1 m e_y3 (by omega) (by omega) (by omega)) rfl rfl (Nat.le_of_ble_eq_true rfl) (by simp [Value.category]) (by omega) (by omega) (by omega) rfl ?_
    exact (by cases e; exact hq)
  refine g_cs k_Led_checkAsked_10 ls_Led_139 (by decide +kernel) (s_Led_checkRange (bc := 1) (bs := 6) s x1 0 1 m e_y3 (by omega) (by omega) (by omega)) rfl rfl (Nat.le_of_ble_eq_true rfl) (by simp [Value.category]) (by omega) (by omega) (by omega) ?_
  refine g_iload_n k_Led_checkAsked_13 rfl rfl ?_
  rcases o_tp_ex e with ⟨y5, e_y5, e⟩ | ⟨E6, e_y5, e⟩
  rotate_left
  · refine g_csx k_Led_checkAsked_14 ls_Led_112 (by decide +kernel) (s_Led_checkLetter (bc := 1) (bs := 6) s x2 m e_y5 (by omega) (by omega) (by omega)) rfl rfl (Nat.le_of_ble_eq_true rfl) (by simp [Value.category]) (by omega) (by omega) (by omega) rfl ?_
    exact (by cases e; exact hq)
  refine g_cs k_Led_checkAsked_14 ls_Led_112 (by decide +kernel) (s_Led_checkLetter (bc := 1) (bs := 6) s x2 m e_y5 (by omega) (by omega) (by omega)) rfl rfl (Nat.le_of_ble_eq_true rfl) (by simp [Value.category]) (by omega) (by omega) (by omega) ?_
  refine g_vret k_Led_checkAsked_17 rfl ?_
  exact (by cases e; exact hq)
def f_Led_first (x1 : Int32) (m : aM) : Option (oX × aM) :=
  o_t (f_Led_checkRange x1 0 1 m) m fun y1 =>
  o_let (a_st m 37 8 x1) fun m3 =>
  some ((.inl (m 37 8) : oX), m3)
theorem s_Led_first {K : aK} {d bc bs : Nat} {g : aG} (s : Sys g) (x1 : Int32) (m : aM) {r : oX} {m' : aM} (e : f_Led_first x1 m = some (r, m')) (hd : 7 ≤ d) (hc : 1 ≤ bc) (hs : 6 ≤ bs) : SpE K M_Led_first d bc bs [.ref 0, .int x1] (g, m) (o_out r) (g, m') := by
  refine spe_of ok_Led_first rfl (Nat.le_of_ble_eq_true rfl) (by simp [Value.category]) (fun Q hq => ?_)
  unfold f_Led_first at e
  refine g_iload_n k_Led_first_0 rfl rfl ?_
  refine g_iconst (v := 0) k_Led_first_1 rfl ?_
  refine g_iconst (v := 1) k_Led_first_2 rfl ?_
  rcases o_t_ex e with ⟨y1, e_y1, e⟩ | ⟨E2, e_y1, e⟩
  rotate_left
  · refine g_csx k_Led_first_3 ls_Led_139 (by decide +kernel) (s_Led_checkRange (bc := 1) (bs := 6) s x1 0 1 m e_y1 (by omega) (by omega) (by omega)) rfl rfl (Nat.le_of_ble_eq_true rfl) (by simp [Value.category]) (by omega) (by omega) (by omega) rfl ?_
    exact (by cases e; exact hq)
  refine g_cs k_Led_first_3 ls_Led_139 (by decide +kernel) (s_Led_checkRange (bc := 1) (bs := 6) s x1 0 1 m e_y1 (by omega) (by omega) (by omega)) rfl rfl (Nat.le_of_ble_eq_true rfl) (by simp [Value.category]) (by omega) (by omega) (by omega) ?_
  refine g_aload_n k_Led_first_6 rfl rfl ?_
  refine p_getr k_Led_first_7 fl_Led_70 rfl (sk_Led s) (by decide) (sr_Led_9 s) ?_
  refine p_geti k_Led_first_10 fl_Led_256 rfl (sk_Tab (sy_Tab s)) (by decide) ?_
  refine g_istore_n k_Led_first_13 rfl (by decide) ?_
  refine g_aload_n k_Led_first_14 rfl rfl ?_
  refine p_getr k_Led_first_15 fl_Led_70 rfl (sk_Led s) (by decide) (sr_Led_9 s) ?_
  refine g_iload_n k_Led_first_18 rfl rfl ?_
  refine p_puti k_Led_first_19 fl_Led_256 rfl ⟨R_Tab, F_Tab, 11, rfl, Or.inl rfl⟩ (sk_Tab (sy_Tab s)) (by decide) ?_
  obtain ⟨m3, u_m3, e⟩ := o_let_ex e
  refine G.hm u_m3 ?_
  refine g_iload_n k_Led_first_22 rfl rfl ?_
  refine g_iret k_Led_first_23 rfl ?_
  exact (by cases e; exact hq)
def f_Led_tick (x1 : Int32) (m : aM) : Option (oX × aM) :=
  o_t (f_Led_checkRange x1 0 1000 m) m fun y1 =>
  (if ((m 37 7) + x1) ≤ 10000 then
  o_let (a_st m 37 7 ((m 37 7) + x1)) fun m3 =>
  some ((.inl (m3 37 7) : oX), m3)
  else
  some ((.inr "java/lang/IllegalStateException" : oX), m)
  )
theorem s_Led_tick {K : aK} {d bc bs : Nat} {g : aG} (s : Sys g) (x1 : Int32) (m : aM) {r : oX} {m' : aM} (e : f_Led_tick x1 m = some (r, m')) (hd : 7 ≤ d) (hc : 2 ≤ bc) (hs : 12 ≤ bs) : SpE K M_Led_tick d bc bs [.ref 0, .int x1] (g, m) (o_out r) (g, m') := by
  refine spe_of ok_Led_tick rfl (Nat.le_of_ble_eq_true rfl) (by simp [Value.category]) (fun Q hq => ?_)
  unfold f_Led_tick at e
  refine g_iload_n k_Led_tick_0 rfl rfl ?_
  refine g_iconst (v := 0) k_Led_tick_1 rfl ?_
  refine g_sipush (v := 1000) k_Led_tick_2 rfl ?_
  rcases o_t_ex e with ⟨y1, e_y1, e⟩ | ⟨E2, e_y1, e⟩
  rotate_left
  · refine g_csx k_Led_tick_5 ls_Led_139 (by decide +kernel) (s_Led_checkRange (bc := 1) (bs := 6) s x1 0 1000 m e_y1 (by omega) (by omega) (by omega)) rfl rfl (Nat.le_of_ble_eq_true rfl) (by simp [Value.category]) (by omega) (by omega) (by omega) rfl ?_
    exact (by cases e; exact hq)
  refine g_cs k_Led_tick_5 ls_Led_139 (by decide +kernel) (s_Led_checkRange (bc := 1) (bs := 6) s x1 0 1000 m e_y1 (by omega) (by omega) (by omega)) rfl rfl (Nat.le_of_ble_eq_true rfl) (by simp [Value.category]) (by omega) (by omega) (by omega) ?_
  refine g_aload_n k_Led_tick_8 rfl rfl ?_
  refine p_getr k_Led_tick_9 fl_Led_70 rfl (sk_Led s) (by decide) (sr_Led_9 s) ?_
  refine p_geti k_Led_tick_12 fl_Led_259 rfl (sk_Tab (sy_Tab s)) (by decide) ?_
  refine g_iload_n k_Led_tick_15 rfl rfl ?_
  refine g_iadd k_Led_tick_16 ?_
  refine g_sipush (v := 10000) k_Led_tick_17 rfl ?_
  refine g_icmp_le (tgt := 34) k_Led_tick_20 (by decide) (fun c => ?_) (fun c => ?_)
  · rw [if_pos c] at e
    refine g_aload_n k_Led_tick_34 rfl rfl ?_
    refine p_getr k_Led_tick_35 fl_Led_70 rfl (sk_Led s) (by decide) (sr_Led_9 s) ?_
    refine g_dup k_Led_tick_38 rfl ?_
    refine p_geti k_Led_tick_39 fl_Led_259 rfl (sk_Tab (sy_Tab s)) (by decide) ?_
    refine g_iload_n k_Led_tick_42 rfl rfl ?_
    refine g_iadd k_Led_tick_43 ?_
    refine p_puti k_Led_tick_44 fl_Led_259 rfl ⟨R_Tab, F_Tab, 11, rfl, Or.inl rfl⟩ (sk_Tab (sy_Tab s)) (by decide) ?_
    obtain ⟨m3, u_m3, e⟩ := o_let_ex e
    refine G.hm u_m3 ?_
    refine g_aload_n k_Led_tick_47 rfl rfl ?_
    refine p_getr k_Led_tick_48 fl_Led_70 rfl (sk_Led s) (by decide) (sr_Led_9 s) ?_
    refine p_geti k_Led_tick_51 fl_Led_259 rfl (sk_Tab (sy_Tab s)) (by decide) ?_
    refine g_iret k_Led_tick_54 rfl ?_
    exact (by cases e; exact hq)
  · rw [if_neg c] at e
    refine g_thw rfl tl_ise (k := 17) rfl k_Led_tick_23 k_Led_tick_26 k_Led_tick_27 k_Led_tick_30 k_Led_tick_33 (by omega) (by omega) (by omega) ?_
    exact (by cases e; exact hq)
def f_Led_bite (F : Nat) (x1 : Int32) (m : aM) : Option (oX × aM) :=
  o_t (f_Led_checkRange x1 1 40 m) m fun y1 =>
  (if (m 37 6) < 2 then
  some ((.inr "java/lang/IllegalStateException" : oX), m)
  else
  (if (m 37 6) ≤ 4 then
  o_b2 (f_Tab_leadRows F x1 m) fun y3 m4 =>
  some ((.inl y3 : oX), m4)
  else
  some ((.inr "java/lang/IllegalStateException" : oX), m)
  )
  )
theorem s_Led_bite {K : aK} {d bc bs : Nat} {g : aG} (s : Sys g) (F : Nat) (x1 : Int32) (m : aM) {r : oX} {m' : aM} (e : f_Led_bite F x1 m = some (r, m')) (hd : 7 ≤ d) (hc : 2 ≤ bc) (hs : 12 ≤ bs) : SpE K M_Led_bite d bc bs [.ref 0, .int x1] (g, m) (o_out r) (g, m') := by
  refine spe_of ok_Led_bite rfl (Nat.le_of_ble_eq_true rfl) (by simp [Value.category]) (fun Q hq => ?_)
  unfold f_Led_bite at e
  refine g_iload_n k_Led_bite_0 rfl rfl ?_
  refine g_iconst (v := 1) k_Led_bite_1 rfl ?_
  refine g_bipush (v := 40) k_Led_bite_2 rfl ?_
  rcases o_t_ex e with ⟨y1, e_y1, e⟩ | ⟨E2, e_y1, e⟩
  rotate_left
  · refine g_csx k_Led_bite_4 ls_Led_139 (by decide +kernel) (s_Led_checkRange (bc := 1) (bs := 6) s x1 1 40 m e_y1 (by omega) (by omega) (by omega)) rfl rfl (Nat.le_of_ble_eq_true rfl) (by simp [Value.category]) (by omega) (by omega) (by omega) rfl ?_
    exact (by cases e; exact hq)
  refine g_cs k_Led_bite_4 ls_Led_139 (by decide +kernel) (s_Led_checkRange (bc := 1) (bs := 6) s x1 1 40 m e_y1 (by omega) (by omega) (by omega)) rfl rfl (Nat.le_of_ble_eq_true rfl) (by simp [Value.category]) (by omega) (by omega) (by omega) ?_
  refine g_aload_n k_Led_bite_7 rfl rfl ?_
  refine p_getr k_Led_bite_8 fl_Led_70 rfl (sk_Led s) (by decide) (sr_Led_9 s) ?_
  refine p_geti k_Led_bite_11 fl_Led_85 rfl (sk_Tab (sy_Tab s)) (by decide) ?_
  refine g_iconst (v := 2) k_Led_bite_14 rfl ?_
  refine g_icmp_lt (tgt := 29) k_Led_bite_15 (by decide) (fun c => ?_) (fun c => ?_)
  · rw [if_pos c] at e
    refine g_thw rfl tl_ise (k := 18) rfl k_Led_bite_29 k_Led_bite_32 k_Led_bite_33 k_Led_bite_36 k_Led_bite_39 (by omega) (by omega) (by omega) ?_
    exact (by cases e; exact hq)
  · rw [if_neg c] at e
    refine g_aload_n k_Led_bite_18 rfl rfl ?_
    refine p_getr k_Led_bite_19 fl_Led_70 rfl (sk_Led s) (by decide) (sr_Led_9 s) ?_
    refine p_geti k_Led_bite_22 fl_Led_85 rfl (sk_Tab (sy_Tab s)) (by decide) ?_
    refine g_iconst (v := 4) k_Led_bite_25 rfl ?_
    refine g_icmp_le (tgt := 40) k_Led_bite_26 (by decide) (fun c => ?_) (fun c => ?_)
    · rw [if_pos c] at e
      refine g_aload_n k_Led_bite_40 rfl rfl ?_
      refine p_getr k_Led_bite_41 fl_Led_70 rfl (sk_Led s) (by decide) (sr_Led_9 s) ?_
      refine g_iload_n k_Led_bite_44 rfl rfl ?_
      obtain ⟨y3, m4, e_y3, e⟩ := o_b2_ex e
      refine g_cv k_Led_bite_45 lv_Led_266 (by decide +kernel) (T := F_Tab) (N := 11) (ci := 7) rfl (sk_Tab (sy_Tab s)) (s_Tab_leadRows (bc := 0) (bs := 0) s F x1 m e_y3 (by omega)) rfl rfl (Nat.le_of_ble_eq_true rfl) (by simp [Value.category]) (by omega) (by omega) (by omega) ?_
      refine g_iret k_Led_bite_48 rfl ?_
      exact (by cases e; exact hq)
    · rw [if_neg c] at e
      refine g_thw rfl tl_ise (k := 18) rfl k_Led_bite_29 k_Led_bite_32 k_Led_bite_33 k_Led_bite_36 k_Led_bite_39 (by omega) (by omega) (by omega) ?_
      exact (by cases e; exact hq)
def f_Led_fall (x1 : Int32) (m : aM) : Option (oX × aM) :=
  o_t (f_Led_checkRange x1 0 40 m) m fun y1 =>
  o_let (a_st m 37 9 x1) fun m3 =>
  some ((.inl (m 37 9) : oX), m3)
theorem s_Led_fall {K : aK} {d bc bs : Nat} {g : aG} (s : Sys g) (x1 : Int32) (m : aM) {r : oX} {m' : aM} (e : f_Led_fall x1 m = some (r, m')) (hd : 7 ≤ d) (hc : 1 ≤ bc) (hs : 6 ≤ bs) : SpE K M_Led_fall d bc bs [.ref 0, .int x1] (g, m) (o_out r) (g, m') := by
  refine spe_of ok_Led_fall rfl (Nat.le_of_ble_eq_true rfl) (by simp [Value.category]) (fun Q hq => ?_)
  unfold f_Led_fall at e
  refine g_iload_n k_Led_fall_0 rfl rfl ?_
  refine g_iconst (v := 0) k_Led_fall_1 rfl ?_
  refine g_bipush (v := 40) k_Led_fall_2 rfl ?_
  rcases o_t_ex e with ⟨y1, e_y1, e⟩ | ⟨E2, e_y1, e⟩
  rotate_left
  · refine g_csx k_Led_fall_4 ls_Led_139 (by decide +kernel) (s_Led_checkRange (bc := 1) (bs := 6) s x1 0 40 m e_y1 (by omega) (by omega) (by omega)) rfl rfl (Nat.le_of_ble_eq_true rfl) (by simp [Value.category]) (by omega) (by omega) (by omega) rfl ?_
    exact (by cases e; exact hq)
  refine g_cs k_Led_fall_4 ls_Led_139 (by decide +kernel) (s_Led_checkRange (bc := 1) (bs := 6) s x1 0 40 m e_y1 (by omega) (by omega) (by omega)) rfl rfl (Nat.le_of_ble_eq_true rfl) (by simp [Value.category]) (by omega) (by omega) (by omega) ?_
  refine g_aload_n k_Led_fall_7 rfl rfl ?_
  refine p_getr k_Led_fall_8 fl_Led_70 rfl (sk_Led s) (by decide) (sr_Led_9 s) ?_
  refine p_geti k_Led_fall_11 fl_Led_269 rfl (sk_Tab (sy_Tab s)) (by decide) ?_
  refine g_istore_n k_Led_fall_14 rfl (by decide) ?_
  refine g_aload_n k_Led_fall_15 rfl rfl ?_
  refine p_getr k_Led_fall_16 fl_Led_70 rfl (sk_Led s) (by decide) (sr_Led_9 s) ?_
  refine g_iload_n k_Led_fall_19 rfl rfl ?_
  refine p_puti k_Led_fall_20 fl_Led_269 rfl ⟨R_Tab, F_Tab, 11, rfl, Or.inl rfl⟩ (sk_Tab (sy_Tab s)) (by decide) ?_
  obtain ⟨m3, u_m3, e⟩ := o_let_ex e
  refine G.hm u_m3 ?_
  refine g_iload_n k_Led_fall_23 rfl rfl ?_
  refine g_iret k_Led_fall_24 rfl ?_
  exact (by cases e; exact hq)
def f_Led_row (F : Nat) (x1 : Int32) (x2 : Int32) (m : aM) : Option (oX × aM) :=
  o_t (f_Led_checkKey x1 m) m fun y1 =>
  o_t (f_Led_checkRange x2 0 8 m) m fun y3 =>
  o_b2 (f_Tab_tellRow F x1 x2 m) fun y5 m6 =>
  some ((.inl y5 : oX), m6)
theorem s_Led_row {K : aK} {d bc bs : Nat} {g : aG} (s : Sys g) (F : Nat) (x1 : Int32) (x2 : Int32) (m : aM) {r : oX} {m' : aM} (e : f_Led_row F x1 x2 m = some (r, m')) (hd : 7 ≤ d) (hc : 2 ≤ bc) (hs : 12 ≤ bs) : SpE K M_Led_row d bc bs [.ref 0, .int x1, .int x2] (g, m) (o_out r) (g, m') := by
  refine spe_of ok_Led_row rfl (Nat.le_of_ble_eq_true rfl) (by simp [Value.category]) (fun Q hq => ?_)
  unfold f_Led_row at e
  refine g_iload_n k_Led_row_0 rfl rfl ?_
  rcases o_t_ex e with ⟨y1, e_y1, e⟩ | ⟨E2, e_y1, e⟩
  rotate_left
  · refine g_csx k_Led_row_1 ls_Led_231 (by decide +kernel) (s_Led_checkKey (bc := 1) (bs := 6) s x1 m e_y1 (by omega) (by omega) (by omega)) rfl rfl (Nat.le_of_ble_eq_true rfl) (by simp [Value.category]) (by omega) (by omega) (by omega) rfl ?_
    exact (by cases e; exact hq)
  refine g_cs k_Led_row_1 ls_Led_231 (by decide +kernel) (s_Led_checkKey (bc := 1) (bs := 6) s x1 m e_y1 (by omega) (by omega) (by omega)) rfl rfl (Nat.le_of_ble_eq_true rfl) (by simp [Value.category]) (by omega) (by omega) (by omega) ?_
  refine g_iload_n k_Led_row_4 rfl rfl ?_
  refine g_iconst (v := 0) k_Led_row_5 rfl ?_
  refine g_bipush (v := 8) k_Led_row_6 rfl ?_
  rcases o_t_ex e with ⟨y3, e_y3, e⟩ | ⟨E4, e_y3, e⟩
  rotate_left
  · refine g_csx k_Led_row_8 ls_Led_139 (by decide +kernel) (s_Led_checkRange (bc := 1) (bs := 6) s x2 0 8 m e_y3 (by omega) (by omega) (by omega)) rfl rfl (Nat.le_of_ble_eq_true rfl) (by simp [Value.category]) (by omega) (by omega) (by omega) rfl ?_
    exact (by cases e; exact hq)
  refine g_cs k_Led_row_8 ls_Led_139 (by decide +kernel) (s_Led_checkRange (bc := 1) (bs := 6) s x2 0 8 m e_y3 (by omega) (by omega) (by omega)) rfl rfl (Nat.le_of_ble_eq_true rfl) (by simp [Value.category]) (by omega) (by omega) (by omega) ?_
  refine g_aload_n k_Led_row_11 rfl rfl ?_
  refine p_getr k_Led_row_12 fl_Led_70 rfl (sk_Led s) (by decide) (sr_Led_9 s) ?_
  refine g_iload_n k_Led_row_15 rfl rfl ?_
  refine g_iload_n k_Led_row_16 rfl rfl ?_
  obtain ⟨y5, m6, e_y5, e⟩ := o_b2_ex e
  refine g_cv k_Led_row_17 lv_Led_272 (by decide +kernel) (T := F_Tab) (N := 11) (ci := 7) rfl (sk_Tab (sy_Tab s)) (s_Tab_tellRow (bc := 0) (bs := 0) s F x1 x2 m e_y5 (by omega)) rfl rfl (Nat.le_of_ble_eq_true rfl) (by simp [Value.category]) (by omega) (by omega) (by omega) ?_
  refine g_iret k_Led_row_20 rfl ?_
  exact (by cases e; exact hq)
def f_Led_quiet (x1 : Int32) (m : aM) : Option (oX × aM) :=
  o_t (f_Led_checkRange x1 0 1000 m) m fun y1 =>
  o_let (a_st m 37 10 x1) fun m3 =>
  some ((.inl (m 37 10) : oX), m3)
theorem s_Led_quiet {K : aK} {d bc bs : Nat} {g : aG} (s : Sys g) (x1 : Int32) (m : aM) {r : oX} {m' : aM} (e : f_Led_quiet x1 m = some (r, m')) (hd : 7 ≤ d) (hc : 1 ≤ bc) (hs : 6 ≤ bs) : SpE K M_Led_quiet d bc bs [.ref 0, .int x1] (g, m) (o_out r) (g, m') := by
  refine spe_of ok_Led_quiet rfl (Nat.le_of_ble_eq_true rfl) (by simp [Value.category]) (fun Q hq => ?_)
  unfold f_Led_quiet at e
  refine g_iload_n k_Led_quiet_0 rfl rfl ?_
  refine g_iconst (v := 0) k_Led_quiet_1 rfl ?_
  refine g_sipush (v := 1000) k_Led_quiet_2 rfl ?_
  rcases o_t_ex e with ⟨y1, e_y1, e⟩ | ⟨E2, e_y1, e⟩
  rotate_left
  · refine g_csx k_Led_quiet_5 ls_Led_139 (by decide +kernel) (s_Led_checkRange (bc := 1) (bs := 6) s x1 0 1000 m e_y1 (by omega) (by omega) (by omega)) rfl rfl (Nat.le_of_ble_eq_true rfl) (by simp [Value.category]) (by omega) (by omega) (by omega) rfl ?_
    exact (by cases e; exact hq)
  refine g_cs k_Led_quiet_5 ls_Led_139 (by decide +kernel) (s_Led_checkRange (bc := 1) (bs := 6) s x1 0 1000 m e_y1 (by omega) (by omega) (by omega)) rfl rfl (Nat.le_of_ble_eq_true rfl) (by simp [Value.category]) (by omega) (by omega) (by omega) ?_
  refine g_aload_n k_Led_quiet_8 rfl rfl ?_
  refine p_getr k_Led_quiet_9 fl_Led_70 rfl (sk_Led s) (by decide) (sr_Led_9 s) ?_
  refine p_geti k_Led_quiet_12 fl_Led_275 rfl (sk_Tab (sy_Tab s)) (by decide) ?_
  refine g_istore_n k_Led_quiet_15 rfl (by decide) ?_
  refine g_aload_n k_Led_quiet_16 rfl rfl ?_
  refine p_getr k_Led_quiet_17 fl_Led_70 rfl (sk_Led s) (by decide) (sr_Led_9 s) ?_
  refine g_iload_n k_Led_quiet_20 rfl rfl ?_
  refine p_puti k_Led_quiet_21 fl_Led_275 rfl ⟨R_Tab, F_Tab, 11, rfl, Or.inl rfl⟩ (sk_Tab (sy_Tab s)) (by decide) ?_
  obtain ⟨m3, u_m3, e⟩ := o_let_ex e
  refine G.hm u_m3 ?_
  refine g_iload_n k_Led_quiet_24 rfl rfl ?_
  refine g_iret k_Led_quiet_25 rfl ?_
  exact (by cases e; exact hq)
def f_Led_asked (x1 : Int32) (x2 : Int32) (x3 : Int32) (x4 : Int32) (m : aM) : Option oX :=
  o_tp (f_Led_checkAsked x1 x2 x3 m) fun y1 =>
  o_b (f_Ask_latest x1 x2 x3 x4 m) fun y3 =>
  some (.inl y3 : oX)
theorem s_Led_asked {K : aK} {d bc bs : Nat} {g : aG} (s : Sys g) (x1 : Int32) (x2 : Int32) (x3 : Int32) (x4 : Int32) (m : aM) {r : oX} (e : f_Led_asked x1 x2 x3 x4 m = some r) (hd : 9 ≤ d) (hc : 3 ≤ bc) (hs : 18 ≤ bs) : SpE K M_Led_asked d bc bs [.ref 0, .int x1, .int x2, .int x3, .int x4] (g, m) (o_out r) (g, m) := by
  refine spe_of ok_Led_asked rfl (Nat.le_of_ble_eq_true rfl) (by simp [Value.category]) (fun Q hq => ?_)
  unfold f_Led_asked at e
  refine g_iload_n k_Led_asked_0 rfl rfl ?_
  refine g_iload_n k_Led_asked_1 rfl rfl ?_
  refine g_iload_n k_Led_asked_2 rfl rfl ?_
  rcases o_tp_ex e with ⟨y1, e_y1, e⟩ | ⟨E2, e_y1, e⟩
  rotate_left
  · refine g_csx k_Led_asked_3 ls_Led_240 (by decide +kernel) (s_Led_checkAsked (bc := 3) (bs := 18) s x1 x2 x3 m e_y1 (by omega) (by omega) (by omega)) rfl rfl (Nat.le_of_ble_eq_true rfl) (by simp [Value.category]) (by omega) (by omega) (by omega) rfl ?_
    exact (by cases e; exact hq)
  refine g_cs k_Led_asked_3 ls_Led_240 (by decide +kernel) (s_Led_checkAsked (bc := 3) (bs := 18) s x1 x2 x3 m e_y1 (by omega) (by omega) (by omega)) rfl rfl (Nat.le_of_ble_eq_true rfl) (by simp [Value.category]) (by omega) (by omega) (by omega) ?_
  refine g_aload_n k_Led_asked_6 rfl rfl ?_
  refine p_getr k_Led_asked_7 fl_Led_61 rfl (sk_Led s) (by decide) (sr_Led_8 s) ?_
  refine g_iload_n k_Led_asked_10 rfl rfl ?_
  refine g_iload_n k_Led_asked_11 rfl rfl ?_
  refine g_iload_n k_Led_asked_12 rfl rfl ?_
  refine g_iload k_Led_asked_13 rfl ?_
  obtain ⟨y3, e_y3, e⟩ := o_b_ex e
  refine g_cv k_Led_asked_15 lv_Led_278 (by decide +kernel) (T := F_Ask) (N := 1) (ci := 0) rfl (sk_Ask (sy_Ask s)) (s_Ask_latest (bc := 0) (bs := 0) s x1 x2 x3 x4 m e_y3 (by omega)) rfl rfl (Nat.le_of_ble_eq_true rfl) (by simp [Value.category]) (by omega) (by omega) (by omega) ?_
  refine g_iret k_Led_asked_18 rfl ?_
  exact (by cases e; exact hq)
def f_Led_still (F : Nat) (x1 : Int32) (x2 : Int32) (m : aM) : Option oX :=
  o_tp (f_Led_checkLetter x1 m) fun y1 =>
  o_b (f_Ask_oldAskers F x1 x2 m) fun y3 =>
  some (.inl y3 : oX)
theorem s_Led_still {K : aK} {d bc bs : Nat} {g : aG} (s : Sys g) (F : Nat) (x1 : Int32) (x2 : Int32) (m : aM) {r : oX} (e : f_Led_still F x1 x2 m = some r) (hd : 8 ≤ d) (hc : 1 ≤ bc) (hs : 6 ≤ bs) : SpE K M_Led_still d bc bs [.ref 0, .int x1, .int x2] (g, m) (o_out r) (g, m) := by
  refine spe_of ok_Led_still rfl (Nat.le_of_ble_eq_true rfl) (by simp [Value.category]) (fun Q hq => ?_)
  unfold f_Led_still at e
  refine g_iload_n k_Led_still_0 rfl rfl ?_
  rcases o_tp_ex e with ⟨y1, e_y1, e⟩ | ⟨E2, e_y1, e⟩
  rotate_left
  · refine g_csx k_Led_still_1 ls_Led_112 (by decide +kernel) (s_Led_checkLetter (bc := 1) (bs := 6) s x1 m e_y1 (by omega) (by omega) (by omega)) rfl rfl (Nat.le_of_ble_eq_true rfl) (by simp [Value.category]) (by omega) (by omega) (by omega) rfl ?_
    exact (by cases e; exact hq)
  refine g_cs k_Led_still_1 ls_Led_112 (by decide +kernel) (s_Led_checkLetter (bc := 1) (bs := 6) s x1 m e_y1 (by omega) (by omega) (by omega)) rfl rfl (Nat.le_of_ble_eq_true rfl) (by simp [Value.category]) (by omega) (by omega) (by omega) ?_
  refine g_aload_n k_Led_still_4 rfl rfl ?_
  refine p_getr k_Led_still_5 fl_Led_61 rfl (sk_Led s) (by decide) (sr_Led_8 s) ?_
  refine g_iload_n k_Led_still_8 rfl rfl ?_
  refine g_iload_n k_Led_still_9 rfl rfl ?_
  obtain ⟨y3, e_y3, e⟩ := o_b_ex e
  refine g_cv k_Led_still_10 lv_Led_282 (by decide +kernel) (T := F_Ask) (N := 1) (ci := 0) rfl (sk_Ask (sy_Ask s)) (s_Ask_oldAskers (bc := 0) (bs := 0) s F x1 x2 m e_y3 (by omega)) rfl rfl (Nat.le_of_ble_eq_true rfl) (by simp [Value.category]) (by omega) (by omega) (by omega) ?_
  refine g_iret k_Led_still_13 rfl ?_
  exact (by cases e; exact hq)
def f_Led_checkSpan (x0 : Int32) (x1 : Int32) (m : aM) : Option oX :=
  o_tp (f_Led_checkKey x0 m) fun y1 =>
  o_tp (f_Led_checkKey x1 m) fun y3 =>
  o_tp (f_Led_checkRange x0 0 x1 m) fun y5 =>
  some (.inl 0 : oX)
theorem s_Led_checkSpan {K : aK} {d bc bs : Nat} {g : aG} (s : Sys g) (x0 : Int32) (x1 : Int32) (m : aM) {r : oX} (e : f_Led_checkSpan x0 x1 m = some r) (hd : 7 ≤ d) (hc : 3 ≤ bc) (hs : 18 ≤ bs) : SpE K M_Led_checkSpan d bc bs [.int x0, .int x1] (g, m) (o_outv r) (g, m) := by
  refine spe_of ok_Led_checkSpan rfl (Nat.le_of_ble_eq_true rfl) (by simp [Value.category]) (fun Q hq => ?_)
  unfold f_Led_checkSpan at e
  refine g_iload_n k_Led_checkSpan_0 rfl rfl ?_
  rcases o_tp_ex e with ⟨y1, e_y1, e⟩ | ⟨E2, e_y1, e⟩
  rotate_left
  · refine g_csx k_Led_checkSpan_1 ls_Led_231 (by decide +kernel) (s_Led_checkKey (bc := 1) (bs := 6) s x0 m e_y1 (by omega) (by omega) (by omega)) rfl rfl (Nat.le_of_ble_eq_true rfl) (by simp [Value.category]) (by omega) (by omega) (by omega) rfl ?_
    exact (by cases e; exact hq)
  refine g_cs k_Led_checkSpan_1 ls_Led_231 (by decide +kernel) (s_Led_checkKey (bc := 1) (bs := 6) s x0 m e_y1 (by omega) (by omega) (by omega)) rfl rfl (Nat.le_of_ble_eq_true rfl) (by simp [Value.category]) (by omega) (by omega) (by omega) ?_
  refine g_iload_n k_Led_checkSpan_4 rfl rfl ?_
  rcases o_tp_ex e with ⟨y3, e_y3, e⟩ | ⟨E4, e_y3, e⟩
  rotate_left
  · refine g_csx k_Led_checkSpan_5 ls_Led_231 (by decide +kernel) (s_Led_checkKey (bc := 1) (bs := 6) s x1 m e_y3 (by omega) (by omega) (by omega)) rfl rfl (Nat.le_of_ble_eq_true rfl) (by simp [Value.category]) (by omega) (by omega) (by omega) rfl ?_
    exact (by cases e; exact hq)
  refine g_cs k_Led_checkSpan_5 ls_Led_231 (by decide +kernel) (s_Led_checkKey (bc := 1) (bs := 6) s x1 m e_y3 (by omega) (by omega) (by omega)) rfl rfl (Nat.le_of_ble_eq_true rfl) (by simp [Value.category]) (by omega) (by omega) (by omega) ?_
  refine g_iload_n k_Led_checkSpan_8 rfl rfl ?_
  refine g_iconst (v := 0) k_Led_checkSpan_9 rfl ?_
  refine g_iload_n k_Led_checkSpan_10 rfl rfl ?_
  rcases o_tp_ex e with ⟨y5, e_y5, e⟩ | ⟨E6, e_y5, e⟩
  rotate_left
  · refine g_csx k_Led_checkSpan_11 ls_Led_139 (by decide +kernel) (s_Led_checkRange (bc := 1) (bs := 6) s x0 0 x1 m e_y5 (by omega) (by omega) (by omega)) rfl rfl (Nat.le_of_ble_eq_true rfl) (by simp [Value.category]) (by omega) (by omega) (by omega) rfl ?_
    exact (by cases e; exact hq)
  refine g_cs k_Led_checkSpan_11 ls_Led_139 (by decide +kernel) (s_Led_checkRange (bc := 1) (bs := 6) s x0 0 x1 m e_y5 (by omega) (by omega) (by omega)) rfl rfl (Nat.le_of_ble_eq_true rfl) (by simp [Value.category]) (by omega) (by omega) (by omega) ?_
  refine g_vret k_Led_checkSpan_14 rfl ?_
  exact (by cases e; exact hq)
def f_Led_sum (F : Nat) (x1 : Int32) (x2 : Int32) (m : aM) : Option (oX × aM) :=
  o_t (f_Led_checkSpan x1 x2 m) m fun y1 =>
  o_b2 (f_Tab_sumOf F x1 x2 m) fun y3 m4 =>
  some ((.inl y3 : oX), m4)
theorem s_Led_sum {K : aK} {d bc bs : Nat} {g : aG} (s : Sys g) (F : Nat) (x1 : Int32) (x2 : Int32) (m : aM) {r : oX} {m' : aM} (e : f_Led_sum F x1 x2 m = some (r, m')) (hd : 8 ≤ d) (hc : 3 ≤ bc) (hs : 18 ≤ bs) : SpE K M_Led_sum d bc bs [.ref 0, .int x1, .int x2] (g, m) (o_out r) (g, m') := by
  refine spe_of ok_Led_sum rfl (Nat.le_of_ble_eq_true rfl) (by simp [Value.category]) (fun Q hq => ?_)
  unfold f_Led_sum at e
  refine g_iload_n k_Led_sum_0 rfl rfl ?_
  refine g_iload_n k_Led_sum_1 rfl rfl ?_
  rcases o_t_ex e with ⟨y1, e_y1, e⟩ | ⟨E2, e_y1, e⟩
  rotate_left
  · refine g_csx k_Led_sum_2 ls_Led_285 (by decide +kernel) (s_Led_checkSpan (bc := 3) (bs := 18) s x1 x2 m e_y1 (by omega) (by omega) (by omega)) rfl rfl (Nat.le_of_ble_eq_true rfl) (by simp [Value.category]) (by omega) (by omega) (by omega) rfl ?_
    exact (by cases e; exact hq)
  refine g_cs k_Led_sum_2 ls_Led_285 (by decide +kernel) (s_Led_checkSpan (bc := 3) (bs := 18) s x1 x2 m e_y1 (by omega) (by omega) (by omega)) rfl rfl (Nat.le_of_ble_eq_true rfl) (by simp [Value.category]) (by omega) (by omega) (by omega) ?_
  refine g_aload_n k_Led_sum_5 rfl rfl ?_
  refine p_getr k_Led_sum_6 fl_Led_70 rfl (sk_Led s) (by decide) (sr_Led_9 s) ?_
  refine g_iload_n k_Led_sum_9 rfl rfl ?_
  refine g_iload_n k_Led_sum_10 rfl rfl ?_
  obtain ⟨y3, m4, e_y3, e⟩ := o_b2_ex e
  refine g_cv k_Led_sum_11 lv_Led_288 (by decide +kernel) (T := F_Tab) (N := 11) (ci := 7) rfl (sk_Tab (sy_Tab s)) (s_Tab_sumOf (bc := 0) (bs := 0) s F x1 x2 m e_y3 (by omega)) rfl rfl (Nat.le_of_ble_eq_true rfl) (by simp [Value.category]) (by omega) (by omega) (by omega) ?_
  refine g_iret k_Led_sum_14 rfl ?_
  exact (by cases e; exact hq)
def f_Led_halves (F : Nat) (x1 : Int32) (x2 : Int32) (m : aM) : Option (oX × aM) :=
  o_t (f_Led_checkSpan x1 x2 m) m fun y1 =>
  o_b2 (f_Tab_halve F x1 x2 m) fun y3 m4 =>
  some ((.inl y3 : oX), m4)
theorem s_Led_halves {K : aK} {d bc bs : Nat} {g : aG} (s : Sys g) (F : Nat) (x1 : Int32) (x2 : Int32) (m : aM) {r : oX} {m' : aM} (e : f_Led_halves F x1 x2 m = some (r, m')) (hd : 8 ≤ d) (hc : 3 ≤ bc) (hs : 18 ≤ bs) : SpE K M_Led_halves d bc bs [.ref 0, .int x1, .int x2] (g, m) (o_out r) (g, m') := by
  refine spe_of ok_Led_halves rfl (Nat.le_of_ble_eq_true rfl) (by simp [Value.category]) (fun Q hq => ?_)
  unfold f_Led_halves at e
  refine g_iload_n k_Led_halves_0 rfl rfl ?_
  refine g_iload_n k_Led_halves_1 rfl rfl ?_
  rcases o_t_ex e with ⟨y1, e_y1, e⟩ | ⟨E2, e_y1, e⟩
  rotate_left
  · refine g_csx k_Led_halves_2 ls_Led_285 (by decide +kernel) (s_Led_checkSpan (bc := 3) (bs := 18) s x1 x2 m e_y1 (by omega) (by omega) (by omega)) rfl rfl (Nat.le_of_ble_eq_true rfl) (by simp [Value.category]) (by omega) (by omega) (by omega) rfl ?_
    exact (by cases e; exact hq)
  refine g_cs k_Led_halves_2 ls_Led_285 (by decide +kernel) (s_Led_checkSpan (bc := 3) (bs := 18) s x1 x2 m e_y1 (by omega) (by omega) (by omega)) rfl rfl (Nat.le_of_ble_eq_true rfl) (by simp [Value.category]) (by omega) (by omega) (by omega) ?_
  refine g_aload_n k_Led_halves_5 rfl rfl ?_
  refine p_getr k_Led_halves_6 fl_Led_70 rfl (sk_Led s) (by decide) (sr_Led_9 s) ?_
  refine g_iload_n k_Led_halves_9 rfl rfl ?_
  refine g_iload_n k_Led_halves_10 rfl rfl ?_
  obtain ⟨y3, m4, e_y3, e⟩ := o_b2_ex e
  refine g_cv k_Led_halves_11 lv_Led_291 (by decide +kernel) (T := F_Tab) (N := 11) (ci := 7) rfl (sk_Tab (sy_Tab s)) (s_Tab_halve (bc := 0) (bs := 0) s F x1 x2 m e_y3 (by omega)) rfl rfl (Nat.le_of_ble_eq_true rfl) (by simp [Value.category]) (by omega) (by omega) (by omega) ?_
  refine g_iret k_Led_halves_14 rfl ?_
  exact (by cases e; exact hq)
