/-! LedTables, what may throw NoSuchElement (made by wip/gen/auto2.py) -/
def f_Led_checkChange (x1 : Int32) (m : aM) : Option oX :=
  (if x1 < 0 then
  some (.inr "java/util/NoSuchElementException" : oX)
  else
  (if x1 < (m 29 5) then
  some (.inl 0 : oX)
  else
  some (.inr "java/util/NoSuchElementException" : oX)
  )
  )
theorem s_Led_checkChange {K : aK} {d bc bs : Nat} {g : aG} (s : Sys g) (x1 : Int32) (m : aM) {r : oX} (e : f_Led_checkChange x1 m = some r) (hd : 6 ≤ d) (hc : 1 ≤ bc) (hs : 6 ≤ bs) : SpE K M_Led_checkChange d bc bs [.ref 0, .int x1] (g, m) (o_outv r) (g, m) := by
  refine spe_of ok_Led_checkChange rfl (Nat.le_of_ble_eq_true rfl) (by simp [Value.category]) (fun Q hq => ?_)
  unfold f_Led_checkChange at e
  refine g_iload_n k_Led_checkChange_0 rfl rfl ?_
  refine g_if_lt (tgt := 15) k_Led_checkChange_1 (by decide) (fun c => ?_) (fun c => ?_)
  · rw [if_pos c] at e
    refine g_thwX rfl tl_nse (k := 11) rfl k_Led_checkChange_15 k_Led_checkChange_18 k_Led_checkChange_19 k_Led_checkChange_22 k_Led_checkChange_25 (by omega) (by omega) (by omega) ?_
    exact (by cases e; exact hq)
  · rw [if_neg c] at e
    refine g_iload_n k_Led_checkChange_4 rfl rfl ?_
    refine g_aload_n k_Led_checkChange_5 rfl rfl ?_
    refine p_getr k_Led_checkChange_6 fl_Led_50 rfl (sk_Led s) (by decide) (sr_Led_6 s) ?_
    refine p_geti k_Led_checkChange_9 fl_Led_311 rfl (sk_Pla (sy_Pla s)) (by decide) ?_
    refine g_icmp_lt (tgt := 26) k_Led_checkChange_12 (by decide) (fun c => ?_) (fun c => ?_)
    · rw [if_pos c] at e
      refine g_vret k_Led_checkChange_26 rfl ?_
      exact (by cases e; exact hq)
    · rw [if_neg c] at e
      refine g_thwX rfl tl_nse (k := 11) rfl k_Led_checkChange_15 k_Led_checkChange_18 k_Led_checkChange_19 k_Led_checkChange_22 k_Led_checkChange_25 (by omega) (by omega) (by omega) ?_
      exact (by cases e; exact hq)
def f_Led_hold (x1 : Int32) (x2 : Int32) (x3 : Int32) (m : aM) : Option (oX × aM) :=
  o_t (f_Led_checkChange x1 m) m fun y1 =>
  o_t (f_Led_checkRange x2 0 4 m) m fun y3 =>
  o_t (f_Led_checkRange x3 0 99 m) m fun y5 =>
  o_b2 (f_Pla_tellHold x1 x2 x3 m) fun y7 m8 =>
  some ((.inl y7 : oX), m8)
theorem s_Led_hold {K : aK} {d bc bs : Nat} {g : aG} (s : Sys g) (x1 : Int32) (x2 : Int32) (x3 : Int32) (m : aM) {r : oX} {m' : aM} (e : f_Led_hold x1 x2 x3 m = some (r, m')) (hd : 7 ≤ d) (hc : 3 ≤ bc) (hs : 18 ≤ bs) : SpE K M_Led_hold d bc bs [.ref 0, .int x1, .int x2, .int x3] (g, m) (o_out r) (g, m') := by
  refine spe_of ok_Led_hold rfl (Nat.le_of_ble_eq_true rfl) (by simp [Value.category]) (fun Q hq => ?_)
  unfold f_Led_hold at e
  refine g_aload_n k_Led_hold_0 rfl rfl ?_
  refine g_iload_n k_Led_hold_1 rfl rfl ?_
  rcases o_t_ex e with ⟨y1, e_y1, e⟩ | ⟨E2, e_y1, e⟩
  rotate_left
  · refine g_cvx k_Led_hold_2 lv_Led_164 (by decide +kernel) (T := F_Led) (N := 10) (ci := 9) rfl (sk_Led s) (s_Led_checkChange (bc := 1) (bs := 6) s x1 m e_y1 (by omega) (by omega) (by omega)) rfl rfl (Nat.le_of_ble_eq_true rfl) (by simp [Value.category]) (by omega) (by omega) (by omega) rfl ?_
    exact (by cases e; exact hq)
  refine g_cv k_Led_hold_2 lv_Led_164 (by decide +kernel) (T := F_Led) (N := 10) (ci := 9) rfl (sk_Led s) (s_Led_checkChange (bc := 1) (bs := 6) s x1 m e_y1 (by omega) (by omega) (by omega)) rfl rfl (Nat.le_of_ble_eq_true rfl) (by simp [Value.category]) (by omega) (by omega) (by omega) ?_
  refine g_iload_n k_Led_hold_5 rfl rfl ?_
  refine g_iconst (v := 0) k_Led_hold_6 rfl ?_
  refine g_iconst (v := 4) k_Led_hold_7 rfl ?_
  rcases o_t_ex e with ⟨y3, e_y3, e⟩ | ⟨E4, e_y3, e⟩
  rotate_left
  · refine g_csx k_Led_hold_8 ls_Led_139 (by decide +kernel) (s_Led_checkRange (bc := 1) (bs := 6) s x2 0 4 m e_y3 (by omega) (by omega) (by omega)) rfl rfl (Nat.le_of_ble_eq_true rfl) (by simp [Value.category]) (by omega) (by omega) (by omega) rfl ?_
    exact (by cases e; exact hq)
  refine g_cs k_Led_hold_8 ls_Led_139 (by decide +kernel) (s_Led_checkRange (bc := 1) (bs := 6) s x2 0 4 m e_y3 (by omega) (by omega) (by omega)) rfl rfl (Nat.le_of_ble_eq_true rfl) (by simp [Value.category]) (by omega) (by omega) (by omega) ?_
  refine g_iload_n k_Led_hold_11 rfl rfl ?_
  refine g_iconst (v := 0) k_Led_hold_12 rfl ?_
  refine g_bipush (v := 99) k_Led_hold_13 rfl ?_
  rcases o_t_ex e with ⟨y5, e_y5, e⟩ | ⟨E6, e_y5, e⟩
  rotate_left
  · refine g_csx k_Led_hold_15 ls_Led_139 (by decide +kernel) (s_Led_checkRange (bc := 1) (bs := 6) s x3 0 99 m e_y5 (by omega) (by omega) (by omega)) rfl rfl (Nat.le_of_ble_eq_true rfl) (by simp [Value.category]) (by omega) (by omega) (by omega) rfl ?_
    exact (by cases e; exact hq)
  refine g_cs k_Led_hold_15 ls_Led_139 (by decide +kernel) (s_Led_checkRange (bc := 1) (bs := 6) s x3 0 99 m e_y5 (by omega) (by omega) (by omega)) rfl rfl (Nat.le_of_ble_eq_true rfl) (by simp [Value.category]) (by omega) (by omega) (by omega) ?_
  refine g_aload_n k_Led_hold_18 rfl rfl ?_
  refine p_getr k_Led_hold_19 fl_Led_50 rfl (sk_Led s) (by decide) (sr_Led_6 s) ?_
  refine g_iload_n k_Led_hold_22 rfl rfl ?_
  refine g_iload_n k_Led_hold_23 rfl rfl ?_
  refine g_iload_n k_Led_hold_24 rfl rfl ?_
  obtain ⟨y7, m8, e_y7, e⟩ := o_b2_ex e
  refine g_cv k_Led_hold_25 lv_Led_167 (by decide +kernel) (T := F_Pla) (N := 8) (ci := 4) rfl (sk_Pla (sy_Pla s)) (s_Pla_tellHold (bc := 0) (bs := 0) s x1 x2 x3 m e_y7 (by omega)) rfl rfl (Nat.le_of_ble_eq_true rfl) (by simp [Value.category]) (by omega) (by omega) (by omega) ?_
  refine g_iret k_Led_hold_28 rfl ?_
  exact (by cases e; exact hq)
def b_Led_order_50 (xt0 : Int32) (m : aM) : Option (oX × aM) :=
  (if xt0 = 0 then
  some ((.inl 0 : oX), m)
  else
  some ((.inl 1 : oX), m)
  )
theorem t_Led_order_50 {K : aK} {d bc bs : Nat} {g : aG} (s : Sys g) {Q : aQ} {r : oX} {m' : aM} (xt0 : Int32) (m : aM) (hq : Q (o_out r) (g, m')) (e : b_Led_order_50 xt0 m = some (r, m')) (hd : 7 ≤ d) : G K M_Led_order d bc bs 50 [.double 0, .double 0, .double 0, .double 0, .double 0] [.int xt0] (g, m) Q := by
  unfold b_Led_order_50 at e
  refine g_istore k_Led_order_50 (by decide) ?_
  refine g_iload k_Led_order_52 rfl ?_
  refine g_if_eq (tgt := 61) k_Led_order_54 (by decide) (fun c => ?_) (fun c => ?_)
  · rw [if_pos c] at e
    refine g_iconst (v := 0) k_Led_order_61 rfl ?_
    refine g_iret k_Led_order_62 rfl ?_
    exact (by cases e; exact hq)
  · rw [if_neg c] at e
    refine g_iconst (v := 1) k_Led_order_57 rfl ?_
    refine g_goto (tgt := 62) k_Led_order_58 (by decide) ?_
    refine g_iret k_Led_order_62 rfl ?_
    exact (by cases e; exact hq)
def f_Led_order (x1 : Int32) (x2 : Int32) (x3 : Int32) (m : aM) : Option (oX × aM) :=
  o_t (f_Led_checkChange x1 m) m fun y1 =>
  o_t (f_Led_checkChange x2 m) m fun y3 =>
  (if x1 = x2 then
  some ((.inr "java/lang/IllegalArgumentException" : oX), m)
  else
  (if x3 = 0 then
  o_b2 (f_Pla_tellOrder x1 x2 m) fun y5 m6 =>
  b_Led_order_50 y5 m6
  else
  o_b2 (f_Pla_tellBar x1 x2 m) fun y7 m8 =>
  b_Led_order_50 y7 m8
  )
  )
theorem s_Led_order {K : aK} {d bc bs : Nat} {g : aG} (s : Sys g) (x1 : Int32) (x2 : Int32) (x3 : Int32) (m : aM) {r : oX} {m' : aM} (e : f_Led_order x1 x2 x3 m = some (r, m')) (hd : 7 ≤ d) (hc : 3 ≤ bc) (hs : 18 ≤ bs) : SpE K M_Led_order d bc bs [.ref 0, .int x1, .int x2, .int x3] (g, m) (o_out r) (g, m') := by
  refine spe_of ok_Led_order rfl (Nat.le_of_ble_eq_true rfl) (by simp [Value.category]) (fun Q hq => ?_)
  unfold f_Led_order at e
  refine g_aload_n k_Led_order_0 rfl rfl ?_
  refine g_iload_n k_Led_order_1 rfl rfl ?_
  rcases o_t_ex e with ⟨y1, e_y1, e⟩ | ⟨E2, e_y1, e⟩
  rotate_left
  · refine g_cvx k_Led_order_2 lv_Led_164 (by decide +kernel) (T := F_Led) (N := 10) (ci := 9) rfl (sk_Led s) (s_Led_checkChange (bc := 1) (bs := 6) s x1 m e_y1 (by omega) (by omega) (by omega)) rfl rfl (Nat.le_of_ble_eq_true rfl) (by simp [Value.category]) (by omega) (by omega) (by omega) rfl ?_
    exact (by cases e; exact hq)
  refine g_cv k_Led_order_2 lv_Led_164 (by decide +kernel) (T := F_Led) (N := 10) (ci := 9) rfl (sk_Led s) (s_Led_checkChange (bc := 1) (bs := 6) s x1 m e_y1 (by omega) (by omega) (by omega)) rfl rfl (Nat.le_of_ble_eq_true rfl) (by simp [Value.category]) (by omega) (by omega) (by omega) ?_
  refine g_aload_n k_Led_order_5 rfl rfl ?_
  refine g_iload_n k_Led_order_6 rfl rfl ?_
  rcases o_t_ex e with ⟨y3, e_y3, e⟩ | ⟨E4, e_y3, e⟩
  rotate_left
  · refine g_cvx k_Led_order_7 lv_Led_164 (by decide +kernel) (T := F_Led) (N := 10) (ci := 9) rfl (sk_Led s) (s_Led_checkChange (bc := 1) (bs := 6) s x2 m e_y3 (by omega) (by omega) (by omega)) rfl rfl (Nat.le_of_ble_eq_true rfl) (by simp [Value.category]) (by omega) (by omega) (by omega) rfl ?_
    exact (by cases e; exact hq)
  refine g_cv k_Led_order_7 lv_Led_164 (by decide +kernel) (T := F_Led) (N := 10) (ci := 9) rfl (sk_Led s) (s_Led_checkChange (bc := 1) (bs := 6) s x2 m e_y3 (by omega) (by omega) (by omega)) rfl rfl (Nat.le_of_ble_eq_true rfl) (by simp [Value.category]) (by omega) (by omega) (by omega) ?_
  refine g_iload_n k_Led_order_10 rfl rfl ?_
  refine g_iload_n k_Led_order_11 rfl rfl ?_
  refine g_icmp_ne (tgt := 25) k_Led_order_12 (by decide) (fun c => ?_) (fun c => ?_)
  · rw [if_pos c] at e
    refine g_th rfl tl_iae (k := 12) rfl k_Led_order_15 k_Led_order_18 k_Led_order_19 k_Led_order_21 k_Led_order_24 (by omega) (by omega) (by omega) ?_
    exact (by cases e; exact hq)
  · rw [if_neg c] at e
    refine g_iload_n k_Led_order_25 rfl rfl ?_
    refine g_if_eq (tgt := 41) k_Led_order_26 (by decide) (fun c => ?_) (fun c => ?_)
    · rw [if_pos c] at e
      refine g_aload_n k_Led_order_41 rfl rfl ?_
      refine p_getr k_Led_order_42 fl_Led_50 rfl (sk_Led s) (by decide) (sr_Led_6 s) ?_
      refine g_iload_n k_Led_order_45 rfl rfl ?_
      refine g_iload_n k_Led_order_46 rfl rfl ?_
      obtain ⟨y5, m6, e_y5, e⟩ := o_b2_ex e
      refine g_cv k_Led_order_47 lv_Led_177 (by decide +kernel) (T := F_Pla) (N := 8) (ci := 4) rfl (sk_Pla (sy_Pla s)) (s_Pla_tellOrder (bc := 0) (bs := 0) s x1 x2 m e_y5 (by omega)) rfl rfl (Nat.le_of_ble_eq_true rfl) (by simp [Value.category]) (by omega) (by omega) (by omega) ?_
      exact G.wl (wld (wld (wld (wld (wls wl0))))) (t_Led_order_50 s y5 m6 hq e hd)
    · rw [if_neg c] at e
      refine g_aload_n k_Led_order_29 rfl rfl ?_
      refine p_getr k_Led_order_30 fl_Led_50 rfl (sk_Led s) (by decide) (sr_Led_6 s) ?_
      refine g_iload_n k_Led_order_33 rfl rfl ?_
      refine g_iload_n k_Led_order_34 rfl rfl ?_
      obtain ⟨y7, m8, e_y7, e⟩ := o_b2_ex e
      refine g_cv k_Led_order_35 lv_Led_173 (by decide +kernel) (T := F_Pla) (N := 8) (ci := 4) rfl (sk_Pla (sy_Pla s)) (s_Pla_tellBar (bc := 0) (bs := 0) s x1 x2 m e_y7 (by omega)) rfl rfl (Nat.le_of_ble_eq_true rfl) (by simp [Value.category]) (by omega) (by omega) (by omega) ?_
      refine g_goto (tgt := 50) k_Led_order_38 (by decide) ?_
      exact G.wl (wld (wld (wld (wld (wls wl0))))) (t_Led_order_50 s y7 m8 hq e hd)
def f_Led_need (x1 : Int32) (x2 : Int32) (x3 : Int32) (m : aM) : Option (oX × aM) :=
  o_t (f_Led_checkProgram x1 m) m fun y1 =>
  o_t (f_Led_checkChange x2 m) m fun y3 =>
  o_t (f_Led_checkRange x3 0 2 m) m fun y5 =>
  o_b2 (f_Pla_tellNeed x1 x2 x3 m) fun y7 m8 =>
  some ((.inl y7 : oX), m8)
theorem s_Led_need {K : aK} {d bc bs : Nat} {g : aG} (s : Sys g) (x1 : Int32) (x2 : Int32) (x3 : Int32) (m : aM) {r : oX} {m' : aM} (e : f_Led_need x1 x2 x3 m = some (r, m')) (hd : 7 ≤ d) (hc : 3 ≤ bc) (hs : 18 ≤ bs) : SpE K M_Led_need d bc bs [.ref 0, .int x1, .int x2, .int x3] (g, m) (o_out r) (g, m') := by
  refine spe_of ok_Led_need rfl (Nat.le_of_ble_eq_true rfl) (by simp [Value.category]) (fun Q hq => ?_)
  unfold f_Led_need at e
  refine g_aload_n k_Led_need_0 rfl rfl ?_
  refine g_iload_n k_Led_need_1 rfl rfl ?_
  rcases o_t_ex e with ⟨y1, e_y1, e⟩ | ⟨E2, e_y1, e⟩
  rotate_left
  · refine g_cvx k_Led_need_2 lv_Led_183 (by decide +kernel) (T := F_Led) (N := 10) (ci := 9) rfl (sk_Led s) (s_Led_checkProgram (bc := 1) (bs := 6) s x1 m e_y1 (by omega) (by omega) (by omega)) rfl rfl (Nat.le_of_ble_eq_true rfl) (by simp [Value.category]) (by omega) (by omega) (by omega) rfl ?_
    exact (by cases e; exact hq)
  refine g_cv k_Led_need_2 lv_Led_183 (by decide +kernel) (T := F_Led) (N := 10) (ci := 9) rfl (sk_Led s) (s_Led_checkProgram (bc := 1) (bs := 6) s x1 m e_y1 (by omega) (by omega) (by omega)) rfl rfl (Nat.le_of_ble_eq_true rfl) (by simp [Value.category]) (by omega) (by omega) (by omega) ?_
  refine g_aload_n k_Led_need_5 rfl rfl ?_
  refine g_iload_n k_Led_need_6 rfl rfl ?_
  rcases o_t_ex e with ⟨y3, e_y3, e⟩ | ⟨E4, e_y3, e⟩
  rotate_left
  · refine g_cvx k_Led_need_7 lv_Led_164 (by decide +kernel) (T := F_Led) (N := 10) (ci := 9) rfl (sk_Led s) (s_Led_checkChange (bc := 1) (bs := 6) s x2 m e_y3 (by omega) (by omega) (by omega)) rfl rfl (Nat.le_of_ble_eq_true rfl) (by simp [Value.category]) (by omega) (by omega) (by omega) rfl ?_
    exact (by cases e; exact hq)
  refine g_cv k_Led_need_7 lv_Led_164 (by decide +kernel) (T := F_Led) (N := 10) (ci := 9) rfl (sk_Led s) (s_Led_checkChange (bc := 1) (bs := 6) s x2 m e_y3 (by omega) (by omega) (by omega)) rfl rfl (Nat.le_of_ble_eq_true rfl) (by simp [Value.category]) (by omega) (by omega) (by omega) ?_
  refine g_iload_n k_Led_need_10 rfl rfl ?_
  refine g_iconst (v := 0) k_Led_need_11 rfl ?_
  refine g_iconst (v := 2) k_Led_need_12 rfl ?_
  rcases o_t_ex e with ⟨y5, e_y5, e⟩ | ⟨E6, e_y5, e⟩
  rotate_left
  · refine g_csx k_Led_need_13 ls_Led_139 (by decide +kernel) (s_Led_checkRange (bc := 1) (bs := 6) s x3 0 2 m e_y5 (by omega) (by omega) (by omega)) rfl rfl (Nat.le_of_ble_eq_true rfl) (by simp [Value.category]) (by omega) (by omega) (by omega) rfl ?_
    exact (by cases e; exact hq)
  refine g_cs k_Led_need_13 ls_Led_139 (by decide +kernel) (s_Led_checkRange (bc := 1) (bs := 6) s x3 0 2 m e_y5 (by omega) (by omega) (by omega)) rfl rfl (Nat.le_of_ble_eq_true rfl) (by simp [Value.category]) (by omega) (by omega) (by omega) ?_
  refine g_aload_n k_Led_need_16 rfl rfl ?_
  refine p_getr k_Led_need_17 fl_Led_50 rfl (sk_Led s) (by decide) (sr_Led_6 s) ?_
  refine g_iload_n k_Led_need_20 rfl rfl ?_
  refine g_iload_n k_Led_need_21 rfl rfl ?_
  refine g_iload_n k_Led_need_22 rfl rfl ?_
  obtain ⟨y7, m8, e_y7, e⟩ := o_b2_ex e
  refine g_cv k_Led_need_23 lv_Led_186 (by decide +kernel) (T := F_Pla) (N := 8) (ci := 4) rfl (sk_Pla (sy_Pla s)) (s_Pla_tellNeed (bc := 0) (bs := 0) s x1 x2 x3 m e_y7 (by omega)) rfl rfl (Nat.le_of_ble_eq_true rfl) (by simp [Value.category]) (by omega) (by omega) (by omega) ?_
  refine g_iret k_Led_need_26 rfl ?_
  exact (by cases e; exact hq)
def f_Led_checkThere (x1 : Int32) (m : aM) : Option oX :=
  o_b (f_Tab_isThere x1 m) fun y1 =>
  (if y1 = 0 then
  some (.inr "java/util/NoSuchElementException" : oX)
  else
  some (.inl 0 : oX)
  )
theorem s_Led_checkThere {K : aK} {d bc bs : Nat} {g : aG} (s : Sys g) (x1 : Int32) (m : aM) {r : oX} (e : f_Led_checkThere x1 m = some r) (hd : 6 ≤ d) (hc : 1 ≤ bc) (hs : 6 ≤ bs) : SpE K M_Led_checkThere d bc bs [.ref 0, .int x1] (g, m) (o_outv r) (g, m) := by
  refine spe_of ok_Led_checkThere rfl (Nat.le_of_ble_eq_true rfl) (by simp [Value.category]) (fun Q hq => ?_)
  unfold f_Led_checkThere at e
  refine g_aload_n k_Led_checkThere_0 rfl rfl ?_
  refine p_getr k_Led_checkThere_1 fl_Led_70 rfl (sk_Led s) (by decide) (sr_Led_9 s) ?_
  refine g_iload_n k_Led_checkThere_4 rfl rfl ?_
  obtain ⟨y1, e_y1, e⟩ := o_b_ex e
  refine g_cv k_Led_checkThere_5 lv_Led_324 (by decide +kernel) (T := F_Tab) (N := 11) (ci := 7) rfl (sk_Tab (sy_Tab s)) (s_Tab_isThere (bc := 0) (bs := 0) s x1 m e_y1) rfl rfl (Nat.le_of_ble_eq_true rfl) (by simp [Value.category]) (by omega) (by omega) (by omega) ?_
  refine g_if_ne (tgt := 22) k_Led_checkThere_8 (by decide) (fun c => ?_) (fun c => ?_)
  · rw [if_pos c] at e
    refine g_thwX rfl tl_nse (k := 16) rfl k_Led_checkThere_11 k_Led_checkThere_14 k_Led_checkThere_15 k_Led_checkThere_18 k_Led_checkThere_21 (by omega) (by omega) (by omega) ?_
    exact (by cases e; exact hq)
  · rw [if_neg c] at e
    refine g_vret k_Led_checkThere_22 rfl ?_
    exact (by cases e; exact hq)
def f_Led_read (F : Nat) (x1 : Int32) (x2 : Int32) (x3 : Int32) (x4 : Int32) (m : aM) : Option (oX × aM) :=
  o_t (f_Led_checkKey x2 m) m fun y1 =>
  o_t (f_Led_checkAsked x1 x3 x4 m) m fun y3 =>
  o_t (f_Led_checkThere x2 m) m fun y5 =>
  o_b2 (f_Tab_readLetter F x1 x2 x3 x4 m) fun y7 m8 =>
  some ((.inl y7 : oX), m8)
theorem s_Led_read {K : aK} {d bc bs : Nat} {g : aG} (s : Sys g) (F : Nat) (x1 : Int32) (x2 : Int32) (x3 : Int32) (x4 : Int32) (m : aM) {r : oX} {m' : aM} (e : f_Led_read F x1 x2 x3 x4 m = some (r, m')) (hd : 9 ≤ d) (hc : 5 ≤ bc) (hs : 30 ≤ bs) : SpE K M_Led_read d bc bs [.ref 0, .int x1, .int x2, .int x3, .int x4] (g, m) (o_out r) (g, m') := by
  refine spe_of ok_Led_read rfl (Nat.le_of_ble_eq_true rfl) (by simp [Value.category]) (fun Q hq => ?_)
  unfold f_Led_read at e
  refine g_iload_n k_Led_read_0 rfl rfl ?_
  rcases o_t_ex e with ⟨y1, e_y1, e⟩ | ⟨E2, e_y1, e⟩
  rotate_left
  · refine g_csx k_Led_read_1 ls_Led_231 (by decide +kernel) (s_Led_checkKey (bc := 1) (bs := 6) s x2 m e_y1 (by omega) (by omega) (by omega)) rfl rfl (Nat.le_of_ble_eq_true rfl) (by simp [Value.category]) (by omega) (by omega) (by omega) rfl ?_
    exact (by cases e; exact hq)
  refine g_cs k_Led_read_1 ls_Led_231 (by decide +kernel) (s_Led_checkKey (bc := 1) (bs := 6) s x2 m e_y1 (by omega) (by omega) (by omega)) rfl rfl (Nat.le_of_ble_eq_true rfl) (by simp [Value.category]) (by omega) (by omega) (by omega) ?_
  refine g_iload_n k_Led_read_4 rfl rfl ?_
  refine g_iload_n k_Led_read_5 rfl rfl ?_
  refine g_iload k_Led_read_6 rfl ?_
  rcases o_t_ex e with ⟨y3, e_y3, e⟩ | ⟨E4, e_y3, e⟩
  rotate_left
  · refine g_csx k_Led_read_8 ls_Led_240 (by decide +kernel) (s_Led_checkAsked (bc := 3) (bs := 18) s x1 x3 x4 m e_y3 (by omega) (by omega) (by omega)) rfl rfl (Nat.le_of_ble_eq_true rfl) (by simp [Value.category]) (by omega) (by omega) (by omega) rfl ?_
    exact (by cases e; exact hq)
  refine g_cs k_Led_read_8 ls_Led_240 (by decide +kernel) (s_Led_checkAsked (bc := 3) (bs := 18) s x1 x3 x4 m e_y3 (by omega) (by omega) (by omega)) rfl rfl (Nat.le_of_ble_eq_true rfl) (by simp [Value.category]) (by omega) (by omega) (by omega) ?_
  refine g_aload_n k_Led_read_11 rfl rfl ?_
  refine g_iload_n k_Led_read_12 rfl rfl ?_
  rcases o_t_ex e with ⟨y5, e_y5, e⟩ | ⟨E6, e_y5, e⟩
  rotate_left
  · refine g_cvx k_Led_read_13 lv_Led_243 (by decide +kernel) (T := F_Led) (N := 10) (ci := 9) rfl (sk_Led s) (s_Led_checkThere (bc := 1) (bs := 6) s x2 m e_y5 (by omega) (by omega) (by omega)) rfl rfl (Nat.le_of_ble_eq_true rfl) (by simp [Value.category]) (by omega) (by omega) (by omega) rfl ?_
    exact (by cases e; exact hq)
  refine g_cv k_Led_read_13 lv_Led_243 (by decide +kernel) (T := F_Led) (N := 10) (ci := 9) rfl (sk_Led s) (s_Led_checkThere (bc := 1) (bs := 6) s x2 m e_y5 (by omega) (by omega) (by omega)) rfl rfl (Nat.le_of_ble_eq_true rfl) (by simp [Value.category]) (by omega) (by omega) (by omega) ?_
  refine g_aload_n k_Led_read_16 rfl rfl ?_
  refine p_getr k_Led_read_17 fl_Led_70 rfl (sk_Led s) (by decide) (sr_Led_9 s) ?_
  refine g_iload_n k_Led_read_20 rfl rfl ?_
  refine g_iload_n k_Led_read_21 rfl rfl ?_
  refine g_iload_n k_Led_read_22 rfl rfl ?_
  refine g_iload k_Led_read_23 rfl ?_
  obtain ⟨y7, m8, e_y7, e⟩ := o_b2_ex e
  refine g_cv k_Led_read_25 lv_Led_246 (by decide +kernel) (T := F_Tab) (N := 11) (ci := 7) rfl (sk_Tab (sy_Tab s)) (s_Tab_readLetter (bc := 0) (bs := 0) s F x1 x2 x3 x4 m e_y7 (by omega)) rfl rfl (Nat.le_of_ble_eq_true rfl) (by simp [Value.category]) (by omega) (by omega) (by omega) ?_
  refine g_iret k_Led_read_28 rfl ?_
  exact (by cases e; exact hq)
def f_Led_write (F : Nat) (x1 : Int32) (x2 : Int32) (x3 : Int32) (x4 : Int32) (x5 : Int32) (m : aM) : Option (oX × aM) :=
  o_t (f_Led_checkKey x2 m) m fun y1 =>
  o_t (f_Led_checkAsked x1 x3 x4 m) m fun y3 =>
  o_t (f_Led_checkRange x5 (-1000000) 1000000 m) m fun y5 =>
  o_t (f_Led_checkThere x2 m) m fun y7 =>
  o_b2 (f_Tab_writeLetter F x1 x2 x3 x4 x5 m) fun y9 m10 =>
  (if y9 = 0 then
  some ((.inl 0 : oX), m10)
  else
  some ((.inl 1 : oX), m10)
  )
theorem s_Led_write {K : aK} {d bc bs : Nat} {g : aG} (s : Sys g) (F : Nat) (x1 : Int32) (x2 : Int32) (x3 : Int32) (x4 : Int32) (x5 : Int32) (m : aM) {r : oX} {m' : aM} (e : f_Led_write F x1 x2 x3 x4 x5 m = some (r, m')) (hd : 9 ≤ d) (hc : 6 ≤ bc) (hs : 36 ≤ bs) : SpE K M_Led_write d bc bs [.ref 0, .int x1, .int x2, .int x3, .int x4, .int x5] (g, m) (o_out r) (g, m') := by
  refine spe_of ok_Led_write rfl (Nat.le_of_ble_eq_true rfl) (by simp [Value.category]) (fun Q hq => ?_)
  unfold f_Led_write at e
  refine g_iload_n k_Led_write_0 rfl rfl ?_
  rcases o_t_ex e with ⟨y1, e_y1, e⟩ | ⟨E2, e_y1, e⟩
  rotate_left
  · refine g_csx k_Led_write_1 ls_Led_231 (by decide +kernel) (s_Led_checkKey (bc := 1) (bs := 6) s x2 m e_y1 (by omega) (by omega) (by omega)) rfl rfl (Nat.le_of_ble_eq_true rfl) (by simp [Value.category]) (by omega) (by omega) (by omega) rfl ?_
    exact (by cases e; exact hq)
  refine g_cs k_Led_write_1 ls_Led_231 (by decide +kernel) (s_Led_checkKey (bc := 1) (bs := 6) s x2 m e_y1 (by omega) (by omega) (by omega)) rfl rfl (Nat.le_of_ble_eq_true rfl) (by simp [Value.category]) (by omega) (by omega) (by omega) ?_
  refine g_iload_n k_Led_write_4 rfl rfl ?_
  refine g_iload_n k_Led_write_5 rfl rfl ?_
  refine g_iload k_Led_write_6 rfl ?_
  rcases o_t_ex e with ⟨y3, e_y3, e⟩ | ⟨E4, e_y3, e⟩
  rotate_left
  · refine g_csx k_Led_write_8 ls_Led_240 (by decide +kernel) (s_Led_checkAsked (bc := 3) (bs := 18) s x1 x3 x4 m e_y3 (by omega) (by omega) (by omega)) rfl rfl (Nat.le_of_ble_eq_true rfl) (by simp [Value.category]) (by omega) (by omega) (by omega) rfl ?_
    exact (by cases e; exact hq)
  refine g_cs k_Led_write_8 ls_Led_240 (by decide +kernel) (s_Led_checkAsked (bc := 3) (bs := 18) s x1 x3 x4 m e_y3 (by omega) (by omega) (by omega)) rfl rfl (Nat.le_of_ble_eq_true rfl) (by simp [Value.category]) (by omega) (by omega) (by omega) ?_
  refine g_iload k_Led_write_11 rfl ?_
  refine g_ldc k_Led_write_13 kc_Led_250 ?_
  refine g_ldc k_Led_write_15 kc_Led_251 ?_
  rcases o_t_ex e with ⟨y5, e_y5, e⟩ | ⟨E6, e_y5, e⟩
  rotate_left
  · refine g_csx k_Led_write_17 ls_Led_139 (by decide +kernel) (s_Led_checkRange (bc := 1) (bs := 6) s x5 (-1000000) 1000000 m e_y5 (by omega) (by omega) (by omega)) rfl rfl (Nat.le_of_ble_eq_true rfl) (by simp [Value.category]) (by omega) (by omega) (by omega) rfl ?_
    exact (by cases e; exact hq)
  refine g_cs k_Led_write_17 ls_Led_139 (by decide +kernel) (s_Led_checkRange (bc := 1) (bs := 6) s x5 (-1000000) 1000000 m e_y5 (by omega) (by omega) (by omega)) rfl rfl (Nat.le_of_ble_eq_true rfl) (by simp [Value.category]) (by omega) (by omega) (by omega) ?_
  refine g_aload_n k_Led_write_20 rfl rfl ?_
  refine g_iload_n k_Led_write_21 rfl rfl ?_
  rcases o_t_ex e with ⟨y7, e_y7, e⟩ | ⟨E8, e_y7, e⟩
  rotate_left
  · refine g_cvx k_Led_write_22 lv_Led_243 (by decide +kernel) (T := F_Led) (N := 10) (ci := 9) rfl (sk_Led s) (s_Led_checkThere (bc := 1) (bs := 6) s x2 m e_y7 (by omega) (by omega) (by omega)) rfl rfl (Nat.le_of_ble_eq_true rfl) (by simp [Value.category]) (by omega) (by omega) (by omega) rfl ?_
    exact (by cases e; exact hq)
  refine g_cv k_Led_write_22 lv_Led_243 (by decide +kernel) (T := F_Led) (N := 10) (ci := 9) rfl (sk_Led s) (s_Led_checkThere (bc := 1) (bs := 6) s x2 m e_y7 (by omega) (by omega) (by omega)) rfl rfl (Nat.le_of_ble_eq_true rfl) (by simp [Value.category]) (by omega) (by omega) (by omega) ?_
  refine g_aload_n k_Led_write_25 rfl rfl ?_
  refine p_getr k_Led_write_26 fl_Led_70 rfl (sk_Led s) (by decide) (sr_Led_9 s) ?_
  refine g_iload_n k_Led_write_29 rfl rfl ?_
  refine g_iload_n k_Led_write_30 rfl rfl ?_
  refine g_iload_n k_Led_write_31 rfl rfl ?_
  refine g_iload k_Led_write_32 rfl ?_
  refine g_iload k_Led_write_34 rfl ?_
  obtain ⟨y9, m10, e_y9, e⟩ := o_b2_ex e
  refine g_cv k_Led_write_36 lv_Led_252 (by decide +kernel) (T := F_Tab) (N := 11) (ci := 7) rfl (sk_Tab (sy_Tab s)) (s_Tab_writeLetter (bc := 0) (bs := 0) s F x1 x2 x3 x4 x5 m e_y9 (by omega)) rfl rfl (Nat.le_of_ble_eq_true rfl) (by simp [Value.category]) (by omega) (by omega) (by omega) ?_
  refine g_if_eq (tgt := 46) k_Led_write_39 (by decide) (fun c => ?_) (fun c => ?_)
  · rw [if_pos c] at e
    refine g_iconst (v := 0) k_Led_write_46 rfl ?_
    refine g_iret k_Led_write_47 rfl ?_
    exact (by cases e; exact hq)
  · rw [if_neg c] at e
    refine g_iconst (v := 1) k_Led_write_42 rfl ?_
    refine g_goto (tgt := 47) k_Led_write_43 (by decide) ?_
    refine g_iret k_Led_write_47 rfl ?_
    exact (by cases e; exact hq)
def f_Led_mend (F : Nat) (x1 : Int32) (m : aM) : Option (oX × aM) :=
  o_t (f_Led_checkKey x1 m) m fun y1 =>
  o_t (f_Led_checkThere x1 m) m fun y3 =>
  o_b2 (f_Tab_mendRow F x1 m) fun y5 m6 =>
  o_gd (isb y5) <|
  some ((.inl y5 : oX), m6)
theorem s_Led_mend {K : aK} {d bc bs : Nat} {g : aG} (s : Sys g) (F : Nat) (x1 : Int32) (m : aM) {r : oX} {m' : aM} (e : f_Led_mend F x1 m = some (r, m')) (hd : 7 ≤ d) (hc : 2 ≤ bc) (hs : 12 ≤ bs) : SpE K M_Led_mend d bc bs [.ref 0, .int x1] (g, m) (o_out r) (g, m') := by
  refine spe_of ok_Led_mend rfl (Nat.le_of_ble_eq_true rfl) (by simp [Value.category]) (fun Q hq => ?_)
  unfold f_Led_mend at e
  refine g_iload_n k_Led_mend_0 rfl rfl ?_
  rcases o_t_ex e with ⟨y1, e_y1, e⟩ | ⟨E2, e_y1, e⟩
  rotate_left
  · refine g_csx k_Led_mend_1 ls_Led_231 (by decide +kernel) (s_Led_checkKey (bc := 1) (bs := 6) s x1 m e_y1 (by omega) (by omega) (by omega)) rfl rfl (Nat.le_of_ble_eq_true rfl) (by simp [Value.category]) (by omega) (by omega) (by omega) rfl ?_
    exact (by cases e; exact hq)
  refine g_cs k_Led_mend_1 ls_Led_231 (by decide +kernel) (s_Led_checkKey (bc := 1) (bs := 6) s x1 m e_y1 (by omega) (by omega) (by omega)) rfl rfl (Nat.le_of_ble_eq_true rfl) (by simp [Value.category]) (by omega) (by omega) (by omega) ?_
  refine g_aload_n k_Led_mend_4 rfl rfl ?_
  refine g_iload_n k_Led_mend_5 rfl rfl ?_
  rcases o_t_ex e with ⟨y3, e_y3, e⟩ | ⟨E4, e_y3, e⟩
  rotate_left
  · refine g_cvx k_Led_mend_6 lv_Led_243 (by decide +kernel) (T := F_Led) (N := 10) (ci := 9) rfl (sk_Led s) (s_Led_checkThere (bc := 1) (bs := 6) s x1 m e_y3 (by omega) (by omega) (by omega)) rfl rfl (Nat.le_of_ble_eq_true rfl) (by simp [Value.category]) (by omega) (by omega) (by omega) rfl ?_
    exact (by cases e; exact hq)
  refine g_cv k_Led_mend_6 lv_Led_243 (by decide +kernel) (T := F_Led) (N := 10) (ci := 9) rfl (sk_Led s) (s_Led_checkThere (bc := 1) (bs := 6) s x1 m e_y3 (by omega) (by omega) (by omega)) rfl rfl (Nat.le_of_ble_eq_true rfl) (by simp [Value.category]) (by omega) (by omega) (by omega) ?_
  refine g_aload_n k_Led_mend_9 rfl rfl ?_
  refine p_getr k_Led_mend_10 fl_Led_70 rfl (sk_Led s) (by decide) (sr_Led_9 s) ?_
  refine g_iload_n k_Led_mend_13 rfl rfl ?_
  obtain ⟨y5, m6, e_y5, e⟩ := o_b2_ex e
  refine g_cv k_Led_mend_14 lv_Led_294 (by decide +kernel) (T := F_Tab) (N := 11) (ci := 7) rfl (sk_Tab (sy_Tab s)) (s_Tab_mendRow (bc := 0) (bs := 0) s F x1 m e_y5 (by omega)) rfl rfl (Nat.le_of_ble_eq_true rfl) (by simp [Value.category]) (by omega) (by omega) (by omega) ?_
  obtain ⟨q7, e⟩ := o_gd_ex e
  refine g_zret k_Led_mend_17 rfl (isb_or q7) ?_
  exact (by cases e; exact hq)
