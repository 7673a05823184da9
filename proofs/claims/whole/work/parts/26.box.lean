/-! Box (made by wip/gen/auto2.py) -/
def lb_Box_manyBoxed_4 (F : Nat) (rec_4 : Int32 → Int32 → aM → Option Int32) (x1 : Int32) (x2 : Int32) (m : aM) : Option Int32 :=
  (if 4 ≤ x2 then
  o_let ((if 4096 < x1 then 4096 else x1)) fun y1 =>
  some y1
  else
  o_gd (inb x2 4) <|
  o_gd (inb x2 4) <|
  o_let (((m 23 x2.toNatClampNeg) - (m 22 x2.toNatClampNeg))) fun y4 =>
  rec_4 (x1 * (y4 + 1)) (x2 + 1) m
  )
theorem tb_Box_manyBoxed_4 {K : aK} {d bc bs : Nat} {g : aG} (s : Sys g) {Q : aQ} {r : Int32} (F : Nat) (m : aM) (rec_4 : Int32 → Int32 → aM → Option Int32) (hr_4 : ∀ (x1 : Int32) (x2 : Int32), rec_4 x1 x2 m = some r → G K M_Box_manyBoxed d bc bs 4 [.ref 21, .int x1, .int x2] [] (g, m) Q) (x1 : Int32) (x2 : Int32) (hq : Q (.inl (some (.int r))) (g, m)) (e : lb_Box_manyBoxed_4 F rec_4 x1 x2 m = some r) (hd : 1 ≤ d) : G K M_Box_manyBoxed d bc bs 4 [.ref 21, .int x1, .int x2] [] (g, m) Q := by
  unfold lb_Box_manyBoxed_4 at e
  refine g_iload_n k_Box_manyBoxed_4 rfl rfl ?_
  refine g_iconst (v := 4) k_Box_manyBoxed_5 rfl ?_
  refine g_icmp_ge (tgt := 33) k_Box_manyBoxed_6 (by decide) (fun c => ?_) (fun c => ?_)
  · rw [if_pos c] at e
    refine g_iload_n k_Box_manyBoxed_33 rfl rfl ?_
    refine g_sipush (v := 4096) k_Box_manyBoxed_34 rfl ?_
    refine g_mn k_Box_manyBoxed_37 mw_Box_92 (Nat.le_of_ble_eq_true rfl) (by omega) ?_
    obtain ⟨y1, u_y1, e⟩ := o_let_ex e
    refine G.vy u_y1 ?_
    refine g_iret k_Box_manyBoxed_40 rfl ?_
    exact (by cases e; exact hq)
  · rw [if_neg c] at e
    refine g_iload_n k_Box_manyBoxed_9 rfl rfl ?_
    refine g_aload_n k_Box_manyBoxed_10 rfl rfl ?_
    refine p_getr k_Box_manyBoxed_11 fl_Box_15 rfl (sk_Box (sy_Box s)) (by decide) (sr_Box_2 (sy_Box s)) ?_
    refine g_iload_n k_Box_manyBoxed_14 rfl rfl ?_
    obtain ⟨q2, e⟩ := o_gd_ex e
    refine p_iald k_Box_manyBoxed_15 (sa_Box_2 (sy_Box s)) (inb_in q2) (j := x2.toNatClampNeg) rfl ?_
    refine g_aload_n k_Box_manyBoxed_16 rfl rfl ?_
    refine p_getr k_Box_manyBoxed_17 fl_Box_9 rfl (sk_Box (sy_Box s)) (by decide) (sr_Box_1 (sy_Box s)) ?_
    refine g_iload_n k_Box_manyBoxed_20 rfl rfl ?_
    obtain ⟨q3, e⟩ := o_gd_ex e
    refine p_iald k_Box_manyBoxed_21 (sa_Box_1 (sy_Box s)) (inb_in q3) (j := x2.toNatClampNeg) rfl ?_
    refine g_isub k_Box_manyBoxed_22 ?_
    obtain ⟨y4, u_y4, e⟩ := o_let_ex e
    refine G.vy u_y4 ?_
    refine g_iconst (v := 1) k_Box_manyBoxed_23 rfl ?_
    refine g_iadd k_Box_manyBoxed_24 ?_
    refine g_imul k_Box_manyBoxed_25 ?_
    refine g_istore_n k_Box_manyBoxed_26 rfl (by decide) ?_
    refine g_iinc (v := _ + 1) k_Box_manyBoxed_27 rfl rfl (by decide) ?_
    refine g_goto (tgt := 4) k_Box_manyBoxed_30 (by decide) ?_
    exact (hr_4 (x1 * (y4 + 1)) (x2 + 1)  e)
def ll_Box_manyBoxed_4 (F : Nat) : Nat → Int32 → Int32 → aM → Option Int32
  | 0, _, _, _ => none
  | N + 1, x1, x2, m => lb_Box_manyBoxed_4 F (ll_Box_manyBoxed_4 F N) x1 x2 m
theorem t_Box_manyBoxed_4 {K : aK} {d bc bs : Nat} {g : aG} (s : Sys g) {Q : aQ} {r : Int32} (F : Nat) (m : aM) : ∀ (N : Nat) (x1 : Int32) (x2 : Int32), Q (.inl (some (.int r))) (g, m) → ll_Box_manyBoxed_4 F N x1 x2 m = some r → 1 ≤ d → G K M_Box_manyBoxed d bc bs 4 [.ref 21, .int x1, .int x2] [] (g, m) Q
  | 0, _, _ => fun _ e => nomatch e
  | N + 1, x1, x2 => fun hq e hd => tb_Box_manyBoxed_4 s F m (ll_Box_manyBoxed_4 F N) (fun x1 x2 e => t_Box_manyBoxed_4 s F m N x1 x2 hq e hd) x1 x2 hq e hd
def f_Box_manyBoxed (F : Nat)  (m : aM) : Option Int32 :=
  ll_Box_manyBoxed_4 F F 1 0 m
theorem s_Box_manyBoxed {K : aK} {d bc bs : Nat} {g : aG} (s : Sys g) (F : Nat)  (m : aM) {r : Int32} (e : f_Box_manyBoxed F  m = some r) (hd : 1 ≤ d) : Sp K M_Box_manyBoxed d bc bs [.ref 21] (g, m) (some (.int r)) (g, m) := by
  refine sp_of ok_Box_manyBoxed rfl (Nat.le_of_ble_eq_true rfl) (by simp [Value.category]) (fun Q hq => ?_)
  unfold f_Box_manyBoxed at e
  refine g_iconst (v := 1) k_Box_manyBoxed_0 rfl ?_
  refine g_istore_n k_Box_manyBoxed_1 rfl (by decide) ?_
  refine g_iconst (v := 0) k_Box_manyBoxed_2 rfl ?_
  refine g_istore_n k_Box_manyBoxed_3 rfl (by decide) ?_
  exact (t_Box_manyBoxed_4 s F m F 1 0  hq e hd)
def lb_Box_fillRow_5 (F : Nat) (rec_5 : Nat → Int32 → Int32 → aM → Option (Int32 × aM)) (a2 : Nat) (x3 : Int32) (x4 : Int32) (m : aM) : Option (Int32 × aM) :=
  (if x4 < 0 then
  some (0, m)
  else
  (if 4 ≤ x4 then
  some (0, m)
  else
  o_gd (inb x4 4) <|
  o_gd (inb x4 4) <|
  o_let (((m 23 x4.toNatClampNeg) - (m 22 x4.toNatClampNeg))) fun y3 =>
  o_let ((if (y3 + 1) < 1 then 1 else (y3 + 1))) fun y4 =>
  o_gd (inb x4 4) <|
  o_gd (nz y4) <|
  o_let (((m 22 x4.toNatClampNeg) + (x3 % y4))) fun y7 =>
  o_gd (inb x4 4) <|
  o_let (a_st m a2 x4.toNatClampNeg y7) fun m9 =>
  o_gd (nz y4) <|
  rec_5 a2 (x3 / y4) (x4 - 1) m9
  )
  )
theorem tb_Box_fillRow_5 {K : aK} {d bc bs : Nat} {g : aG} (s : Sys g) {Q : aQ} {r : Int32} {m' : aM} (F : Nat) (rec_5 : Nat → Int32 → Int32 → aM → Option (Int32 × aM)) (hr_5 : ∀ (a2 : Nat) (h2 : g.2.1 a2 = (0, 4)) (x3 : Int32) (x4 : Int32) (m : aM), rec_5 a2 x3 x4 m = some (r, m') → G K M_Box_fillRow d bc bs 5 [.ref 21, .double 0, .ref a2, .int x3, .int x4, .double 0] [] (g, m) Q) (a2 : Nat) (h2 : g.2.1 a2 = (0, 4)) (x3 : Int32) (x4 : Int32) (m : aM) (hq : Q (.inl none) (g, m')) (e : lb_Box_fillRow_5 F rec_5 a2 x3 x4 m = some (r, m')) (hd : 1 ≤ d) : G K M_Box_fillRow d bc bs 5 [.ref 21, .double 0, .ref a2, .int x3, .int x4, .double 0] [] (g, m) Q := by
  unfold lb_Box_fillRow_5 at e
  refine g_iload k_Box_fillRow_5 rfl ?_
  refine g_if_lt (tgt := 67) k_Box_fillRow_7 (by decide) (fun c => ?_) (fun c => ?_)
  · rw [if_pos c] at e
    refine g_vret k_Box_fillRow_67 rfl ?_
    exact (by cases e; exact hq)
  · rw [if_neg c] at e
    refine g_iload k_Box_fillRow_10 rfl ?_
    refine g_aload_n k_Box_fillRow_12 rfl rfl ?_
    refine p_alen (v := 4) k_Box_fillRow_13 h2 (by decide) rfl ?_
    refine g_icmp_ge (tgt := 67) k_Box_fillRow_14 (by decide) (fun c => ?_) (fun c => ?_)
    · rw [if_pos c] at e
      refine g_vret k_Box_fillRow_67 rfl ?_
      exact (by cases e; exact hq)
    · rw [if_neg c] at e
      refine g_aload_n k_Box_fillRow_17 rfl rfl ?_
      refine p_getr k_Box_fillRow_18 fl_Box_15 rfl (sk_Box (sy_Box s)) (by decide) (sr_Box_2 (sy_Box s)) ?_
      refine g_iload k_Box_fillRow_21 rfl ?_
      obtain ⟨q1, e⟩ := o_gd_ex e
      refine p_iald k_Box_fillRow_23 (sa_Box_2 (sy_Box s)) (inb_in q1) (j := x4.toNatClampNeg) rfl ?_
      refine g_aload_n k_Box_fillRow_24 rfl rfl ?_
      refine p_getr k_Box_fillRow_25 fl_Box_9 rfl (sk_Box (sy_Box s)) (by decide) (sr_Box_1 (sy_Box s)) ?_
      refine g_iload k_Box_fillRow_28 rfl ?_
      obtain ⟨q2, e⟩ := o_gd_ex e
      refine p_iald k_Box_fillRow_30 (sa_Box_1 (sy_Box s)) (inb_in q2) (j := x4.toNatClampNeg) rfl ?_
      refine g_isub k_Box_fillRow_31 ?_
      obtain ⟨y3, u_y3, e⟩ := o_let_ex e
      refine G.vy u_y3 ?_
      refine g_iconst (v := 1) k_Box_fillRow_32 rfl ?_
      refine g_iadd k_Box_fillRow_33 ?_
      refine g_iconst (v := 1) k_Box_fillRow_34 rfl ?_
      refine g_mx k_Box_fillRow_35 mw_Box_98 (Nat.le_of_ble_eq_true rfl) (by omega) ?_
      obtain ⟨y4, u_y4, e⟩ := o_let_ex e
      refine G.vy u_y4 ?_
      refine g_istore k_Box_fillRow_38 (by decide) ?_
      refine g_aload_n k_Box_fillRow_40 rfl rfl ?_
      refine g_iload k_Box_fillRow_41 rfl ?_
      refine g_aload_n k_Box_fillRow_43 rfl rfl ?_
      refine p_getr k_Box_fillRow_44 fl_Box_9 rfl (sk_Box (sy_Box s)) (by decide) (sr_Box_1 (sy_Box s)) ?_
      refine g_iload k_Box_fillRow_47 rfl ?_
      obtain ⟨q5, e⟩ := o_gd_ex e
      refine p_iald k_Box_fillRow_49 (sa_Box_1 (sy_Box s)) (inb_in q5) (j := x4.toNatClampNeg) rfl ?_
      refine g_iload_n k_Box_fillRow_50 rfl rfl ?_
      refine g_iload k_Box_fillRow_51 rfl ?_
      obtain ⟨q6, e⟩ := o_gd_ex e
      refine g_irem k_Box_fillRow_53 (nz_ne q6) ?_
      refine g_iadd k_Box_fillRow_54 ?_
      obtain ⟨y7, u_y7, e⟩ := o_let_ex e
      refine G.vy u_y7 ?_
      obtain ⟨q8, e⟩ := o_gd_ex e
      refine p_iast k_Box_fillRow_55 h2 (inb_in q8) (j := x4.toNatClampNeg) rfl ?_
      obtain ⟨m9, u_m9, e⟩ := o_let_ex e
      refine G.hm u_m9 ?_
      refine g_iload_n k_Box_fillRow_56 rfl rfl ?_
      refine g_iload k_Box_fillRow_57 rfl ?_
      obtain ⟨q10, e⟩ := o_gd_ex e
      refine g_idiv k_Box_fillRow_59 (nz_ne q10) ?_
      refine g_istore_n k_Box_fillRow_60 rfl (by decide) ?_
      refine g_iinc k_Box_fillRow_61 rfl (i_m1 _) (by decide) ?_
      refine g_goto (tgt := 5) k_Box_fillRow_64 (by decide) ?_
      exact G.wl (wls (wls (wls (wls (wls (wld wl0)))))) (hr_5 a2 h2 (x3 / y4) (x4 - 1) m9 e)
def ll_Box_fillRow_5 (F : Nat) : Nat → Nat → Int32 → Int32 → aM → Option (Int32 × aM)
  | 0, _, _, _, _ => none
  | N + 1, a2, x3, x4, m => lb_Box_fillRow_5 F (ll_Box_fillRow_5 F N) a2 x3 x4 m
theorem t_Box_fillRow_5 {K : aK} {d bc bs : Nat} {g : aG} (s : Sys g) {Q : aQ} {r : Int32} {m' : aM} (F : Nat) : ∀ (N : Nat) (a2 : Nat) (h2 : g.2.1 a2 = (0, 4)) (x3 : Int32) (x4 : Int32) (m : aM), Q (.inl none) (g, m') → ll_Box_fillRow_5 F N a2 x3 x4 m = some (r, m') → 1 ≤ d → G K M_Box_fillRow d bc bs 5 [.ref 21, .double 0, .ref a2, .int x3, .int x4, .double 0] [] (g, m) Q
  | 0, _, _, _, _, _ => fun _ e => nomatch e
  | N + 1, a2, h2, x3, x4, m => fun hq e hd => tb_Box_fillRow_5 s F (ll_Box_fillRow_5 F N) (fun a2 h2 x3 x4 m e => t_Box_fillRow_5 s F N a2 h2 x3 x4 m hq e hd) a2 h2 x3 x4 m hq e hd
def f_Box_fillRow (F : Nat) (x1 : Int32) (a2 : Nat) (m : aM) : Option (Int32 × aM) :=
  ll_Box_fillRow_5 F F a2 x1 3 m
theorem s_Box_fillRow {K : aK} {d bc bs : Nat} {g : aG} (s : Sys g) (F : Nat) (x1 : Int32) (a2 : Nat) (h2 : g.2.1 a2 = (0, 4)) (m : aM) {r : Int32} {m' : aM} (e : f_Box_fillRow F x1 a2 m = some (r, m')) (hd : 1 ≤ d) : Sp K M_Box_fillRow d bc bs [.ref 21, .int x1, .ref a2] (g, m) none (g, m') := by
  refine sp_of ok_Box_fillRow rfl (Nat.le_of_ble_eq_true rfl) (by simp [Value.category]) (fun Q hq => ?_)
  unfold f_Box_fillRow at e
  refine g_iload_n k_Box_fillRow_0 rfl rfl ?_
  refine g_istore_n k_Box_fillRow_1 rfl (by decide) ?_
  refine g_iconst (v := 3) k_Box_fillRow_2 rfl ?_
  refine g_istore k_Box_fillRow_3 (by decide) ?_
  exact G.wl (wls (wld (wls (wls (wls (wls wl0)))))) (t_Box_fillRow_5 s F F a2 h2 x1 3 m hq e hd)
def f_Box_seeRow (F : Nat) (x1 : Int32) (m : aM) : Option (Int32 × aM) :=
  o_b2 (f_Box_fillRow F x1 24 m) fun y1 m2 =>
  o_b2 (f_Len_toNew F 2 24 25 m2) fun y3 m4 =>
  o_b2 (f_Len_toBeside F 2 24 26 m4) fun y5 m6 =>
  some (0, m6)
theorem s_Box_seeRow {K : aK} {d bc bs : Nat} {g : aG} (s : Sys g) (F : Nat) (x1 : Int32) (m : aM) {r : Int32} {m' : aM} (e : f_Box_seeRow F x1 m = some (r, m')) (hd : 3 ≤ d) : Sp K M_Box_seeRow d bc bs [.ref 21, .int x1] (g, m) none (g, m') := by
  refine sp_of ok_Box_seeRow rfl (Nat.le_of_ble_eq_true rfl) (by simp [Value.category]) (fun Q hq => ?_)
  unfold f_Box_seeRow at e
  refine g_aload_n k_Box_seeRow_0 rfl rfl ?_
  refine g_iload_n k_Box_seeRow_1 rfl rfl ?_
  refine g_aload_n k_Box_seeRow_2 rfl rfl ?_
  refine p_getr k_Box_seeRow_3 fl_Box_18 rfl (sk_Box (sy_Box s)) (by decide) (sr_Box_3 (sy_Box s)) ?_
  obtain ⟨y1, m2, e_y1, e⟩ := o_b2_ex e
  refine g_cv k_Box_seeRow_6 lv_Box_70 (by decide +kernel) (T := F_Box) (N := 9) (ci := 1) rfl (sk_Box (sy_Box s)) (s_Box_fillRow (bc := 0) (bs := 0) s F x1 24 (sa_Box_3 (sy_Box s)) m e_y1 (by omega)) rfl rfl (Nat.le_of_ble_eq_true rfl) (by simp [Value.category]) (by omega) (by omega) (by omega) ?_
  refine g_aload_n k_Box_seeRow_9 rfl rfl ?_
  refine p_getr k_Box_seeRow_10 fl_Box_33 rfl (sk_Box (sy_Box s)) (by decide) (sr_Box_0 s) ?_
  refine g_aload_n k_Box_seeRow_13 rfl rfl ?_
  refine p_getr k_Box_seeRow_14 fl_Box_18 rfl (sk_Box (sy_Box s)) (by decide) (sr_Box_3 (sy_Box s)) ?_
  refine g_aload_n k_Box_seeRow_17 rfl rfl ?_
  refine p_getr k_Box_seeRow_18 fl_Box_21 rfl (sk_Box (sy_Box s)) (by decide) (sr_Box_4 (sy_Box s)) ?_
  obtain ⟨y3, m4, e_y3, e⟩ := o_b2_ex e
  refine g_cv k_Box_seeRow_21 lv_Box_85 (by decide +kernel) (T := F_Len) (N := 11) (ci := 2) rfl (sk_Len (sy_len s)) (s_Len_toNew (bc := 0) (bs := 0) s F 2 (sy_len s) 24 (sa_Box_3 (sy_Box s)) 25 (sa_Box_4 (sy_Box s)) m2 e_y3 (by omega)) rfl rfl (Nat.le_of_ble_eq_true rfl) (by simp [Value.category]) (by omega) (by omega) (by omega) ?_
  refine g_aload_n k_Box_seeRow_24 rfl rfl ?_
  refine p_getr k_Box_seeRow_25 fl_Box_33 rfl (sk_Box (sy_Box s)) (by decide) (sr_Box_0 s) ?_
  refine g_aload_n k_Box_seeRow_28 rfl rfl ?_
  refine p_getr k_Box_seeRow_29 fl_Box_18 rfl (sk_Box (sy_Box s)) (by decide) (sr_Box_3 (sy_Box s)) ?_
  refine g_aload_n k_Box_seeRow_32 rfl rfl ?_
  refine p_getr k_Box_seeRow_33 fl_Box_24 rfl (sk_Box (sy_Box s)) (by decide) (sr_Box_5 (sy_Box s)) ?_
  obtain ⟨y5, m6, e_y5, e⟩ := o_b2_ex e
  refine g_cv k_Box_seeRow_36 lv_Box_89 (by decide +kernel) (T := F_Len) (N := 11) (ci := 2) rfl (sk_Len (sy_len s)) (s_Len_toBeside (bc := 0) (bs := 0) s F 2 (sy_len s) 24 (sa_Box_3 (sy_Box s)) 26 (sa_Box_5 (sy_Box s)) m4 e_y5) rfl rfl (Nat.le_of_ble_eq_true rfl) (by simp [Value.category]) (by omega) (by omega) (by omega) ?_
  refine g_vret k_Box_seeRow_39 rfl ?_
  exact (by cases e; exact hq)
def b_Box_manyWrong_43 (F : Nat) (rec_9 : Int32 → Int32 → Int32 → aM → Option (Int32 × aM)) (x1 : Int32) (x3 : Int32) (xt0 : Int32) (xt1 : Int32) (m : aM) : Option (Int32 × aM) :=
  rec_9 x1 (xt1 + xt0) (x3 + 1) m
theorem t_Box_manyWrong_43 {K : aK} {d bc bs : Nat} {g : aG} (s : Sys g) {Q : aQ} {r : Int32} {m' : aM} (F : Nat) (rec_9 : Int32 → Int32 → Int32 → aM → Option (Int32 × aM)) (hr_9 : ∀ (x1 : Int32) (x2 : Int32) (x3 : Int32) (m : aM), rec_9 x1 x2 x3 m = some (r, m') → G K M_Box_manyWrong d bc bs 9 [.ref 21, .int x1, .int x2, .int x3] [] (g, m) Q) (x1 : Int32) (x3 : Int32) (xt0 : Int32) (xt1 : Int32) (m : aM) (hq : Q (.inl (some (.int r))) (g, m')) (e : b_Box_manyWrong_43 F rec_9 x1 x3 xt0 xt1 m = some (r, m')) (hd : 4 ≤ d) : G K M_Box_manyWrong d bc bs 43 [.ref 21, .int x1, .double 0, .int x3] [.int xt0, .int xt1] (g, m) Q := by
  unfold b_Box_manyWrong_43 at e
  refine g_iadd k_Box_manyWrong_43 ?_
  refine g_istore_n k_Box_manyWrong_44 rfl (by decide) ?_
  refine g_iinc (v := _ + 1) k_Box_manyWrong_45 rfl rfl (by decide) ?_
  refine g_goto (tgt := 9) k_Box_manyWrong_48 (by decide) ?_
  exact (hr_9 x1 (xt1 + xt0) (x3 + 1) m e)
def lb_Box_manyWrong_9 (F : Nat) (rec_9 : Int32 → Int32 → Int32 → aM → Option (Int32 × aM)) (x1 : Int32) (x2 : Int32) (x3 : Int32) (m : aM) : Option (Int32 × aM) :=
  (if x1 ≤ x3 then
  some (x2, m)
  else
  o_b2 (f_Box_seeRow F x3 m) fun y1 m2 =>
  o_b2 (f_Len_isRight F 2 25 26 m2) fun y3 m4 =>
  (if y3 = 0 then
  b_Box_manyWrong_43 F rec_9 x1 x3 1 x2 m4
  else
  b_Box_manyWrong_43 F rec_9 x1 x3 0 x2 m4
  )
  )
theorem tb_Box_manyWrong_9 {K : aK} {d bc bs : Nat} {g : aG} (s : Sys g) {Q : aQ} {r : Int32} {m' : aM} (F : Nat) (rec_9 : Int32 → Int32 → Int32 → aM → Option (Int32 × aM)) (hr_9 : ∀ (x1 : Int32) (x2 : Int32) (x3 : Int32) (m : aM), rec_9 x1 x2 x3 m = some (r, m') → G K M_Box_manyWrong d bc bs 9 [.ref 21, .int x1, .int x2, .int x3] [] (g, m) Q) (x1 : Int32) (x2 : Int32) (x3 : Int32) (m : aM) (hq : Q (.inl (some (.int r))) (g, m')) (e : lb_Box_manyWrong_9 F rec_9 x1 x2 x3 m = some (r, m')) (hd : 4 ≤ d) : G K M_Box_manyWrong d bc bs 9 [.ref 21, .int x1, .int x2, .int x3] [] (g, m) Q := by
  unfold lb_Box_manyWrong_9 at e
  refine g_iload_n k_Box_manyWrong_9 rfl rfl ?_
  refine g_iload_n k_Box_manyWrong_10 rfl rfl ?_
  refine g_icmp_ge (tgt := 51) k_Box_manyWrong_11 (by decide) (fun c => ?_) (fun c => ?_)
  · rw [if_pos c] at e
    refine g_iload_n k_Box_manyWrong_51 rfl rfl ?_
    refine g_iret k_Box_manyWrong_52 rfl ?_
    exact (by cases e; exact hq)
  · rw [if_neg c] at e
    refine g_aload_n k_Box_manyWrong_14 rfl rfl ?_
    refine g_iload_n k_Box_manyWrong_15 rfl rfl ?_
    obtain ⟨y1, m2, e_y1, e⟩ := o_b2_ex e
    refine g_cv k_Box_manyWrong_16 lv_Box_50 (by decide +kernel) (T := F_Box) (N := 9) (ci := 1) rfl (sk_Box (sy_Box s)) (s_Box_seeRow (bc := 0) (bs := 0) s F x3 m e_y1 (by omega)) rfl rfl (Nat.le_of_ble_eq_true rfl) (by simp [Value.category]) (by omega) (by omega) (by omega) ?_
    refine g_iload_n k_Box_manyWrong_19 rfl rfl ?_
    refine g_aload_n k_Box_manyWrong_20 rfl rfl ?_
    refine p_getr k_Box_manyWrong_21 fl_Box_33 rfl (sk_Box (sy_Box s)) (by decide) (sr_Box_0 s) ?_
    refine g_aload_n k_Box_manyWrong_24 rfl rfl ?_
    refine p_getr k_Box_manyWrong_25 fl_Box_21 rfl (sk_Box (sy_Box s)) (by decide) (sr_Box_4 (sy_Box s)) ?_
    refine g_aload_n k_Box_manyWrong_28 rfl rfl ?_
    refine p_getr k_Box_manyWrong_29 fl_Box_24 rfl (sk_Box (sy_Box s)) (by decide) (sr_Box_5 (sy_Box s)) ?_
    obtain ⟨y3, m4, e_y3, e⟩ := o_b2_ex e
    refine g_cv k_Box_manyWrong_32 lv_Box_54 (by decide +kernel) (T := F_Len) (N := 11) (ci := 2) rfl (sk_Len (sy_len s)) (s_Len_isRight (bc := 0) (bs := 0) s F 2 (sy_len s) 25 (sa_Box_4 (sy_Box s)) 26 (sa_Box_5 (sy_Box s)) m2 e_y3 (by omega)) rfl rfl (Nat.le_of_ble_eq_true rfl) (by simp [Value.category]) (by omega) (by omega) (by omega) ?_
    refine g_if_eq (tgt := 42) k_Box_manyWrong_35 (by decide) (fun c => ?_) (fun c => ?_)
    · rw [if_pos c] at e
      refine g_iconst (v := 1) k_Box_manyWrong_42 rfl ?_
      exact G.wl (wls (wls (wld (wls wl0)))) (t_Box_manyWrong_43 s F rec_9 hr_9 x1 x3 1 x2 m4 hq e hd)
    · rw [if_neg c] at e
      refine g_iconst (v := 0) k_Box_manyWrong_38 rfl ?_
      refine g_goto (tgt := 43) k_Box_manyWrong_39 (by decide) ?_
      exact G.wl (wls (wls (wld (wls wl0)))) (t_Box_manyWrong_43 s F rec_9 hr_9 x1 x3 0 x2 m4 hq e hd)
def ll_Box_manyWrong_9 (F : Nat) : Nat → Int32 → Int32 → Int32 → aM → Option (Int32 × aM)
  | 0, _, _, _, _ => none
  | N + 1, x1, x2, x3, m => lb_Box_manyWrong_9 F (ll_Box_manyWrong_9 F N) x1 x2 x3 m
theorem t_Box_manyWrong_9 {K : aK} {d bc bs : Nat} {g : aG} (s : Sys g) {Q : aQ} {r : Int32} {m' : aM} (F : Nat) : ∀ (N : Nat) (x1 : Int32) (x2 : Int32) (x3 : Int32) (m : aM), Q (.inl (some (.int r))) (g, m') → ll_Box_manyWrong_9 F N x1 x2 x3 m = some (r, m') → 4 ≤ d → G K M_Box_manyWrong d bc bs 9 [.ref 21, .int x1, .int x2, .int x3] [] (g, m) Q
  | 0, _, _, _, _ => fun _ e => nomatch e
  | N + 1, x1, x2, x3, m => fun hq e hd => tb_Box_manyWrong_9 s F (ll_Box_manyWrong_9 F N) (fun x1 x2 x3 m e => t_Box_manyWrong_9 s F N x1 x2 x3 m hq e hd) x1 x2 x3 m hq e hd
def f_Box_manyWrong (F : Nat)  (m : aM) : Option (Int32 × aM) :=
  o_b (f_Box_manyBoxed F  m) fun y1 =>
  ll_Box_manyWrong_9 F F y1 0 0 m
theorem s_Box_manyWrong {K : aK} {d bc bs : Nat} {g : aG} (s : Sys g) (F : Nat)  (m : aM) {r : Int32} {m' : aM} (e : f_Box_manyWrong F  m = some (r, m')) (hd : 4 ≤ d) : Sp K M_Box_manyWrong d bc bs [.ref 21] (g, m) (some (.int r)) (g, m') := by
  refine sp_of ok_Box_manyWrong rfl (Nat.le_of_ble_eq_true rfl) (by simp [Value.category]) (fun Q hq => ?_)
  unfold f_Box_manyWrong at e
  refine g_aload_n k_Box_manyWrong_0 rfl rfl ?_
  obtain ⟨y1, e_y1, e⟩ := o_b_ex e
  refine g_cv k_Box_manyWrong_1 lv_Box_41 (by decide +kernel) (T := F_Box) (N := 9) (ci := 1) rfl (sk_Box (sy_Box s)) (s_Box_manyBoxed (bc := 0) (bs := 0) s F  m e_y1 (by omega)) rfl rfl (Nat.le_of_ble_eq_true rfl) (by simp [Value.category]) (by omega) (by omega) (by omega) ?_
  refine g_istore_n k_Box_manyWrong_4 rfl (by decide) ?_
  refine g_iconst (v := 0) k_Box_manyWrong_5 rfl ?_
  refine g_istore_n k_Box_manyWrong_6 rfl (by decide) ?_
  refine g_iconst (v := 0) k_Box_manyWrong_7 rfl ?_
  refine g_istore_n k_Box_manyWrong_8 rfl (by decide) ?_
  exact (t_Box_manyWrong_9 s F F y1 0 0 m hq e hd)
def f_Box_bound (x1 : Int32) (x2 : Int32) (x3 : Int32) (m : aM) : Option (Int32 × aM) :=
  (if x1 < 0 then
  some (0, m)
  else
  (if 4 ≤ x1 then
  some (0, m)
  else
  o_gd (inb x1 4) <|
  o_let (a_st m 22 x1.toNatClampNeg x2) fun m2 =>
  o_gd (inb x1 4) <|
  o_let (a_st m2 23 x1.toNatClampNeg x3) fun m4 =>
  some (0, m4)
  )
  )
theorem s_Box_bound {K : aK} {d bc bs : Nat} {g : aG} (s : Sys g) (x1 : Int32) (x2 : Int32) (x3 : Int32) (m : aM) {r : Int32} {m' : aM} (e : f_Box_bound x1 x2 x3 m = some (r, m')) : Sp K M_Box_bound d bc bs [.ref 21, .int x1, .int x2, .int x3] (g, m) none (g, m') := by
  refine sp_of ok_Box_bound rfl (Nat.le_of_ble_eq_true rfl) (by simp [Value.category]) (fun Q hq => ?_)
  unfold f_Box_bound at e
  refine g_iload_n k_Box_bound_0 rfl rfl ?_
  refine g_if_lt (tgt := 23) k_Box_bound_1 (by decide) (fun c => ?_) (fun c => ?_)
  · rw [if_pos c] at e
    refine g_vret k_Box_bound_23 rfl ?_
    exact (by cases e; exact hq)
  · rw [if_neg c] at e
    refine g_iload_n k_Box_bound_4 rfl rfl ?_
    refine g_iconst (v := 4) k_Box_bound_5 rfl ?_
    refine g_icmp_ge (tgt := 23) k_Box_bound_6 (by decide) (fun c => ?_) (fun c => ?_)
    · rw [if_pos c] at e
      refine g_vret k_Box_bound_23 rfl ?_
      exact (by cases e; exact hq)
    · rw [if_neg c] at e
      refine g_aload_n k_Box_bound_9 rfl rfl ?_
      refine p_getr k_Box_bound_10 fl_Box_9 rfl (sk_Box (sy_Box s)) (by decide) (sr_Box_1 (sy_Box s)) ?_
      refine g_iload_n k_Box_bound_13 rfl rfl ?_
      refine g_iload_n k_Box_bound_14 rfl rfl ?_
      obtain ⟨q1, e⟩ := o_gd_ex e
      refine p_iast k_Box_bound_15 (sa_Box_1 (sy_Box s)) (inb_in q1) (j := x1.toNatClampNeg) rfl ?_
      obtain ⟨m2, u_m2, e⟩ := o_let_ex e
      refine G.hm u_m2 ?_
      refine g_aload_n k_Box_bound_16 rfl rfl ?_
      refine p_getr k_Box_bound_17 fl_Box_15 rfl (sk_Box (sy_Box s)) (by decide) (sr_Box_2 (sy_Box s)) ?_
      refine g_iload_n k_Box_bound_20 rfl rfl ?_
      refine g_iload_n k_Box_bound_21 rfl rfl ?_
      obtain ⟨q3, e⟩ := o_gd_ex e
      refine p_iast k_Box_bound_22 (sa_Box_2 (sy_Box s)) (inb_in q3) (j := x1.toNatClampNeg) rfl ?_
      obtain ⟨m4, u_m4, e⟩ := o_let_ex e
      refine G.hm u_m4 ?_
      refine g_vret k_Box_bound_23 rfl ?_
      exact (by cases e; exact hq)
def f_Box_comesBack (F : Nat) (x1 : Int32) (x2 : Int32) (m : aM) : Option (Int32 × aM) :=
  o_b2 (f_Box_seeRow F x1 m) fun y1 m2 =>
  o_b2 (f_Len_toOld F 2 25 26 27 m2) fun y3 m4 =>
  (if x2 = 0 then
  o_b (f_Led_areAlike F 27 24 m4) fun y5 =>
  o_gd (isb y5) <|
  some (y5, m4)
  else
  o_b2 (f_Len_toNew F 2 27 28 m4) fun y7 m8 =>
  o_b (f_Led_areAlike F 28 25 m8) fun y9 =>
  o_gd (isb y9) <|
  some (y9, m8)
  )
theorem s_Box_comesBack {K : aK} {d bc bs : Nat} {g : aG} (s : Sys g) (F : Nat) (x1 : Int32) (x2 : Int32) (m : aM) {r : Int32} {m' : aM} (e : f_Box_comesBack F x1 x2 m = some (r, m')) (hd : 4 ≤ d) : Sp K M_Box_comesBack d bc bs [.ref 21, .int x1, .int x2] (g, m) (some (.int r)) (g, m') := by
  refine sp_of ok_Box_comesBack rfl (Nat.le_of_ble_eq_true rfl) (by simp [Value.category]) (fun Q hq => ?_)
  unfold f_Box_comesBack at e
  refine g_aload_n k_Box_comesBack_0 rfl rfl ?_
  refine g_iload_n k_Box_comesBack_1 rfl rfl ?_
  obtain ⟨y1, m2, e_y1, e⟩ := o_b2_ex e
  refine g_cv k_Box_comesBack_2 lv_Box_50 (by decide +kernel) (T := F_Box) (N := 9) (ci := 1) rfl (sk_Box (sy_Box s)) (s_Box_seeRow (bc := 0) (bs := 0) s F x1 m e_y1 (by omega)) rfl rfl (Nat.le_of_ble_eq_true rfl) (by simp [Value.category]) (by omega) (by omega) (by omega) ?_
  refine g_aload_n k_Box_comesBack_5 rfl rfl ?_
  refine p_getr k_Box_comesBack_6 fl_Box_33 rfl (sk_Box (sy_Box s)) (by decide) (sr_Box_0 s) ?_
  refine g_aload_n k_Box_comesBack_9 rfl rfl ?_
  refine p_getr k_Box_comesBack_10 fl_Box_21 rfl (sk_Box (sy_Box s)) (by decide) (sr_Box_4 (sy_Box s)) ?_
  refine g_aload_n k_Box_comesBack_13 rfl rfl ?_
  refine p_getr k_Box_comesBack_14 fl_Box_24 rfl (sk_Box (sy_Box s)) (by decide) (sr_Box_5 (sy_Box s)) ?_
  refine g_aload_n k_Box_comesBack_17 rfl rfl ?_
  refine p_getr k_Box_comesBack_18 fl_Box_27 rfl (sk_Box (sy_Box s)) (by decide) (sr_Box_6 (sy_Box s)) ?_
  obtain ⟨y3, m4, e_y3, e⟩ := o_b2_ex e
  refine g_cv k_Box_comesBack_21 lv_Box_78 (by decide +kernel) (T := F_Len) (N := 11) (ci := 2) rfl (sk_Len (sy_len s)) (s_Len_toOld (bc := 0) (bs := 0) s F 2 (sy_len s) 25 (sa_Box_4 (sy_Box s)) 26 (sa_Box_5 (sy_Box s)) 27 (sa_Box_6 (sy_Box s)) m2 e_y3 (by omega)) rfl rfl (Nat.le_of_ble_eq_true rfl) (by simp [Value.category]) (by omega) (by omega) (by omega) ?_
  refine g_iload_n k_Box_comesBack_24 rfl rfl ?_
  refine g_if_ne (tgt := 40) k_Box_comesBack_25 (by decide) (fun c => ?_) (fun c => ?_)
  · rw [if_pos c] at e
    refine g_aload_n k_Box_comesBack_28 rfl rfl ?_
    refine p_getr k_Box_comesBack_29 fl_Box_27 rfl (sk_Box (sy_Box s)) (by decide) (sr_Box_6 (sy_Box s)) ?_
    refine g_aload_n k_Box_comesBack_32 rfl rfl ?_
    refine p_getr k_Box_comesBack_33 fl_Box_18 rfl (sk_Box (sy_Box s)) (by decide) (sr_Box_3 (sy_Box s)) ?_
    obtain ⟨y5, e_y5, e⟩ := o_b_ex e
    refine g_csn (M' := M_Led_areAlike) k_Box_comesBack_36 nn_Box_82 st_areAlike cm_Led_areAlike (by decide +kernel) (s_Led_areAlike (bc := 0) (bs := 0) s F 27 (sa_Box_6 (sy_Box s)) 24 (sa_Box_3 (sy_Box s)) m4 e_y5) rfl rfl (Nat.le_of_ble_eq_true rfl) (by simp [Value.category]) (by omega) (by omega) (by omega) ?_
    obtain ⟨q6, e⟩ := o_gd_ex e
    refine g_zret k_Box_comesBack_39 rfl (isb_or q6) ?_
    exact (by cases e; exact hq)
  · rw [if_neg c] at e
    refine g_aload_n k_Box_comesBack_40 rfl rfl ?_
    refine p_getr k_Box_comesBack_41 fl_Box_33 rfl (sk_Box (sy_Box s)) (by decide) (sr_Box_0 s) ?_
    refine g_aload_n k_Box_comesBack_44 rfl rfl ?_
    refine p_getr k_Box_comesBack_45 fl_Box_27 rfl (sk_Box (sy_Box s)) (by decide) (sr_Box_6 (sy_Box s)) ?_
    refine g_aload_n k_Box_comesBack_48 rfl rfl ?_
    refine p_getr k_Box_comesBack_49 fl_Box_30 rfl (sk_Box (sy_Box s)) (by decide) (sr_Box_7 (sy_Box s)) ?_
    obtain ⟨y7, m8, e_y7, e⟩ := o_b2_ex e
    refine g_cv k_Box_comesBack_52 lv_Box_85 (by decide +kernel) (T := F_Len) (N := 11) (ci := 2) rfl (sk_Len (sy_len s)) (s_Len_toNew (bc := 0) (bs := 0) s F 2 (sy_len s) 27 (sa_Box_6 (sy_Box s)) 28 (sa_Box_7 (sy_Box s)) m4 e_y7 (by omega)) rfl rfl (Nat.le_of_ble_eq_true rfl) (by simp [Value.category]) (by omega) (by omega) (by omega) ?_
    refine g_aload_n k_Box_comesBack_55 rfl rfl ?_
    refine p_getr k_Box_comesBack_56 fl_Box_30 rfl (sk_Box (sy_Box s)) (by decide) (sr_Box_7 (sy_Box s)) ?_
    refine g_aload_n k_Box_comesBack_59 rfl rfl ?_
    refine p_getr k_Box_comesBack_60 fl_Box_21 rfl (sk_Box (sy_Box s)) (by decide) (sr_Box_4 (sy_Box s)) ?_
    obtain ⟨y9, e_y9, e⟩ := o_b_ex e
    refine g_csn (M' := M_Led_areAlike) k_Box_comesBack_63 nn_Box_82 st_areAlike cm_Led_areAlike (by decide +kernel) (s_Led_areAlike (bc := 0) (bs := 0) s F 28 (sa_Box_7 (sy_Box s)) 25 (sa_Box_4 (sy_Box s)) m8 e_y9) rfl rfl (Nat.le_of_ble_eq_true rfl) (by simp [Value.category]) (by omega) (by omega) (by omega) ?_
    obtain ⟨q10, e⟩ := o_gd_ex e
    refine g_zret k_Box_comesBack_66 rfl (isb_or q10) ?_
    exact (by cases e; exact hq)
def lb_Box_firstUnlike_8 (F : Nat) (rec_8 : Int32 → Int32 → Int32 → Int32 → aM → Option (Int32 × aM)) (x1 : Int32) (x2 : Int32) (x3 : Int32) (x4 : Int32) (m : aM) : Option (Int32 × aM) :=
  (if x3 ≤ x4 then
  some ((-2147483648), m)
  else
  o_b2 (f_Box_comesBack F x4 x1 m) fun y1 m2 =>
  (if y1 = 0 then
  (if x2 < 0 then
  some ((-2147483648), m2)
  else
  (if 4 ≤ x2 then
  some ((-2147483648), m2)
  else
  o_gd (inb x2 4) <|
  some ((m2 24 x2.toNatClampNeg), m2)
  )
  )
  else
  rec_8 x1 x2 x3 (x4 + 1) m2
  )
  )
theorem tb_Box_firstUnlike_8 {K : aK} {d bc bs : Nat} {g : aG} (s : Sys g) {Q : aQ} {r : Int32} {m' : aM} (F : Nat) (rec_8 : Int32 → Int32 → Int32 → Int32 → aM → Option (Int32 × aM)) (hr_8 : ∀ (x1 : Int32) (x2 : Int32) (x3 : Int32) (x4 : Int32) (m : aM), rec_8 x1 x2 x3 x4 m = some (r, m') → G K M_Box_firstUnlike d bc bs 8 [.ref 21, .int x1, .int x2, .int x3, .int x4] [] (g, m) Q) (x1 : Int32) (x2 : Int32) (x3 : Int32) (x4 : Int32) (m : aM) (hq : Q (.inl (some (.int r))) (g, m')) (e : lb_Box_firstUnlike_8 F rec_8 x1 x2 x3 x4 m = some (r, m')) (hd : 5 ≤ d) : G K M_Box_firstUnlike d bc bs 8 [.ref 21, .int x1, .int x2, .int x3, .int x4] [] (g, m) Q := by
  unfold lb_Box_firstUnlike_8 at e
  refine g_iload k_Box_firstUnlike_8 rfl ?_
  refine g_iload_n k_Box_firstUnlike_10 rfl rfl ?_
  refine g_icmp_ge (tgt := 51) k_Box_firstUnlike_11 (by decide) (fun c => ?_) (fun c => ?_)
  · rw [if_pos c] at e
    refine g_ldc k_Box_firstUnlike_51 kc_Box_49 ?_
    refine g_iret k_Box_firstUnlike_53 rfl ?_
    exact (by cases e; exact hq)
  · rw [if_neg c] at e
    refine g_aload_n k_Box_firstUnlike_14 rfl rfl ?_
    refine g_iload k_Box_firstUnlike_15 rfl ?_
    refine g_iload_n k_Box_firstUnlike_17 rfl rfl ?_
    obtain ⟨y1, m2, e_y1, e⟩ := o_b2_ex e
    refine g_cv k_Box_firstUnlike_18 lv_Box_45 (by decide +kernel) (T := F_Box) (N := 9) (ci := 1) rfl (sk_Box (sy_Box s)) (s_Box_comesBack (bc := 0) (bs := 0) s F x4 x1 m e_y1 (by omega)) rfl rfl (Nat.le_of_ble_eq_true rfl) (by simp [Value.category]) (by omega) (by omega) (by omega) ?_
    refine g_if_ne (tgt := 45) k_Box_firstUnlike_21 (by decide) (fun c => ?_) (fun c => ?_)
    · rw [if_pos c] at e
      refine g_iload_n k_Box_firstUnlike_24 rfl rfl ?_
      refine g_if_lt (tgt := 42) k_Box_firstUnlike_25 (by decide) (fun c => ?_) (fun c => ?_)
      · rw [if_pos c] at e
        refine g_ldc k_Box_firstUnlike_42 kc_Box_49 ?_
        refine g_iret k_Box_firstUnlike_44 rfl ?_
        exact (by cases e; exact hq)
      · rw [if_neg c] at e
        refine g_iload_n k_Box_firstUnlike_28 rfl rfl ?_
        refine g_iconst (v := 4) k_Box_firstUnlike_29 rfl ?_
        refine g_icmp_ge (tgt := 42) k_Box_firstUnlike_30 (by decide) (fun c => ?_) (fun c => ?_)
        · rw [if_pos c] at e
          refine g_ldc k_Box_firstUnlike_42 kc_Box_49 ?_
          refine g_iret k_Box_firstUnlike_44 rfl ?_
          exact (by cases e; exact hq)
        · rw [if_neg c] at e
          refine g_aload_n k_Box_firstUnlike_33 rfl rfl ?_
          refine p_getr k_Box_firstUnlike_34 fl_Box_18 rfl (sk_Box (sy_Box s)) (by decide) (sr_Box_3 (sy_Box s)) ?_
          refine g_iload_n k_Box_firstUnlike_37 rfl rfl ?_
          obtain ⟨q3, e⟩ := o_gd_ex e
          refine p_iald k_Box_firstUnlike_38 (sa_Box_3 (sy_Box s)) (inb_in q3) (j := x2.toNatClampNeg) rfl ?_
          refine g_goto (tgt := 44) k_Box_firstUnlike_39 (by decide) ?_
          refine g_iret k_Box_firstUnlike_44 rfl ?_
          exact (by cases e; exact hq)
    · rw [if_neg c] at e
      refine g_iinc (v := _ + 1) k_Box_firstUnlike_45 rfl rfl (by decide) ?_
      refine g_goto (tgt := 8) k_Box_firstUnlike_48 (by decide) ?_
      exact (hr_8 x1 x2 x3 (x4 + 1) m2 e)
def ll_Box_firstUnlike_8 (F : Nat) : Nat → Int32 → Int32 → Int32 → Int32 → aM → Option (Int32 × aM)
  | 0, _, _, _, _, _ => none
  | N + 1, x1, x2, x3, x4, m => lb_Box_firstUnlike_8 F (ll_Box_firstUnlike_8 F N) x1 x2 x3 x4 m
theorem t_Box_firstUnlike_8 {K : aK} {d bc bs : Nat} {g : aG} (s : Sys g) {Q : aQ} {r : Int32} {m' : aM} (F : Nat) : ∀ (N : Nat) (x1 : Int32) (x2 : Int32) (x3 : Int32) (x4 : Int32) (m : aM), Q (.inl (some (.int r))) (g, m') → ll_Box_firstUnlike_8 F N x1 x2 x3 x4 m = some (r, m') → 5 ≤ d → G K M_Box_firstUnlike d bc bs 8 [.ref 21, .int x1, .int x2, .int x3, .int x4] [] (g, m) Q
  | 0, _, _, _, _, _ => fun _ e => nomatch e
  | N + 1, x1, x2, x3, x4, m => fun hq e hd => tb_Box_firstUnlike_8 s F (ll_Box_firstUnlike_8 F N) (fun x1 x2 x3 x4 m e => t_Box_firstUnlike_8 s F N x1 x2 x3 x4 m hq e hd) x1 x2 x3 x4 m hq e hd
def f_Box_firstUnlike (F : Nat) (x1 : Int32) (x2 : Int32) (m : aM) : Option (Int32 × aM) :=
  o_b (f_Box_manyBoxed F  m) fun y1 =>
  ll_Box_firstUnlike_8 F F x1 x2 y1 0 m
theorem s_Box_firstUnlike {K : aK} {d bc bs : Nat} {g : aG} (s : Sys g) (F : Nat) (x1 : Int32) (x2 : Int32) (m : aM) {r : Int32} {m' : aM} (e : f_Box_firstUnlike F x1 x2 m = some (r, m')) (hd : 5 ≤ d) : Sp K M_Box_firstUnlike d bc bs [.ref 21, .int x1, .int x2] (g, m) (some (.int r)) (g, m') := by
  refine sp_of ok_Box_firstUnlike rfl (Nat.le_of_ble_eq_true rfl) (by simp [Value.category]) (fun Q hq => ?_)
  unfold f_Box_firstUnlike at e
  refine g_aload_n k_Box_firstUnlike_0 rfl rfl ?_
  obtain ⟨y1, e_y1, e⟩ := o_b_ex e
  refine g_cv k_Box_firstUnlike_1 lv_Box_41 (by decide +kernel) (T := F_Box) (N := 9) (ci := 1) rfl (sk_Box (sy_Box s)) (s_Box_manyBoxed (bc := 0) (bs := 0) s F  m e_y1 (by omega)) rfl rfl (Nat.le_of_ble_eq_true rfl) (by simp [Value.category]) (by omega) (by omega) (by omega) ?_
  refine g_istore_n k_Box_firstUnlike_4 rfl (by decide) ?_
  refine g_iconst (v := 0) k_Box_firstUnlike_5 rfl ?_
  refine g_istore k_Box_firstUnlike_6 (by decide) ?_
  exact (t_Box_firstUnlike_8 s F F x1 x2 y1 0 m hq e hd)
def b_Box_manyUnlike_32 (F : Nat) (rec_10 : Int32 → Int32 → Int32 → Int32 → aM → Option (Int32 × aM)) (x1 : Int32) (x2 : Int32) (x4 : Int32) (xt0 : Int32) (xt1 : Int32) (m : aM) : Option (Int32 × aM) :=
  rec_10 x1 x2 (xt1 + xt0) (x4 + 1) m
theorem t_Box_manyUnlike_32 {K : aK} {d bc bs : Nat} {g : aG} (s : Sys g) {Q : aQ} {r : Int32} {m' : aM} (F : Nat) (rec_10 : Int32 → Int32 → Int32 → Int32 → aM → Option (Int32 × aM)) (hr_10 : ∀ (x1 : Int32) (x2 : Int32) (x3 : Int32) (x4 : Int32) (m : aM), rec_10 x1 x2 x3 x4 m = some (r, m') → G K M_Box_manyUnlike d bc bs 10 [.ref 21, .int x1, .int x2, .int x3, .int x4] [] (g, m) Q) (x1 : Int32) (x2 : Int32) (x4 : Int32) (xt0 : Int32) (xt1 : Int32) (m : aM) (hq : Q (.inl (some (.int r))) (g, m')) (e : b_Box_manyUnlike_32 F rec_10 x1 x2 x4 xt0 xt1 m = some (r, m')) (hd : 5 ≤ d) : G K M_Box_manyUnlike d bc bs 32 [.ref 21, .int x1, .int x2, .double 0, .int x4] [.int xt0, .int xt1] (g, m) Q := by
  unfold b_Box_manyUnlike_32 at e
  refine g_iadd k_Box_manyUnlike_32 ?_
  refine g_istore_n k_Box_manyUnlike_33 rfl (by decide) ?_
  refine g_iinc (v := _ + 1) k_Box_manyUnlike_34 rfl rfl (by decide) ?_
  refine g_goto (tgt := 10) k_Box_manyUnlike_37 (by decide) ?_
  exact (hr_10 x1 x2 (xt1 + xt0) (x4 + 1) m e)
def lb_Box_manyUnlike_10 (F : Nat) (rec_10 : Int32 → Int32 → Int32 → Int32 → aM → Option (Int32 × aM)) (x1 : Int32) (x2 : Int32) (x3 : Int32) (x4 : Int32) (m : aM) : Option (Int32 × aM) :=
  (if x2 ≤ x4 then
  some (x3, m)
  else
  o_b2 (f_Box_comesBack F x4 x1 m) fun y1 m2 =>
  (if y1 = 0 then
  b_Box_manyUnlike_32 F rec_10 x1 x2 x4 1 x3 m2
  else
  b_Box_manyUnlike_32 F rec_10 x1 x2 x4 0 x3 m2
  )
  )
theorem tb_Box_manyUnlike_10 {K : aK} {d bc bs : Nat} {g : aG} (s : Sys g) {Q : aQ} {r : Int32} {m' : aM} (F : Nat) (rec_10 : Int32 → Int32 → Int32 → Int32 → aM → Option (Int32 × aM)) (hr_10 : ∀ (x1 : Int32) (x2 : Int32) (x3 : Int32) (x4 : Int32) (m : aM), rec_10 x1 x2 x3 x4 m = some (r, m') → G K M_Box_manyUnlike d bc bs 10 [.ref 21, .int x1, .int x2, .int x3, .int x4] [] (g, m) Q) (x1 : Int32) (x2 : Int32) (x3 : Int32) (x4 : Int32) (m : aM) (hq : Q (.inl (some (.int r))) (g, m')) (e : lb_Box_manyUnlike_10 F rec_10 x1 x2 x3 x4 m = some (r, m')) (hd : 5 ≤ d) : G K M_Box_manyUnlike d bc bs 10 [.ref 21, .int x1, .int x2, .int x3, .int x4] [] (g, m) Q := by
  unfold lb_Box_manyUnlike_10 at e
  refine g_iload k_Box_manyUnlike_10 rfl ?_
  refine g_iload_n k_Box_manyUnlike_12 rfl rfl ?_
  refine g_icmp_ge (tgt := 40) k_Box_manyUnlike_13 (by decide) (fun c => ?_) (fun c => ?_)
  · rw [if_pos c] at e
    refine g_iload_n k_Box_manyUnlike_40 rfl rfl ?_
    refine g_iret k_Box_manyUnlike_41 rfl ?_
    exact (by cases e; exact hq)
  · rw [if_neg c] at e
    refine g_iload_n k_Box_manyUnlike_16 rfl rfl ?_
    refine g_aload_n k_Box_manyUnlike_17 rfl rfl ?_
    refine g_iload k_Box_manyUnlike_18 rfl ?_
    refine g_iload_n k_Box_manyUnlike_20 rfl rfl ?_
    obtain ⟨y1, m2, e_y1, e⟩ := o_b2_ex e
    refine g_cv k_Box_manyUnlike_21 lv_Box_45 (by decide +kernel) (T := F_Box) (N := 9) (ci := 1) rfl (sk_Box (sy_Box s)) (s_Box_comesBack (bc := 0) (bs := 0) s F x4 x1 m e_y1 (by omega)) rfl rfl (Nat.le_of_ble_eq_true rfl) (by simp [Value.category]) (by omega) (by omega) (by omega) ?_
    refine g_if_eq (tgt := 31) k_Box_manyUnlike_24 (by decide) (fun c => ?_) (fun c => ?_)
    · rw [if_pos c] at e
      refine g_iconst (v := 1) k_Box_manyUnlike_31 rfl ?_
      exact G.wl (wls (wls (wls (wld (wls wl0))))) (t_Box_manyUnlike_32 s F rec_10 hr_10 x1 x2 x4 1 x3 m2 hq e hd)
    · rw [if_neg c] at e
      refine g_iconst (v := 0) k_Box_manyUnlike_27 rfl ?_
      refine g_goto (tgt := 32) k_Box_manyUnlike_28 (by decide) ?_
      exact G.wl (wls (wls (wls (wld (wls wl0))))) (t_Box_manyUnlike_32 s F rec_10 hr_10 x1 x2 x4 0 x3 m2 hq e hd)
def ll_Box_manyUnlike_10 (F : Nat) : Nat → Int32 → Int32 → Int32 → Int32 → aM → Option (Int32 × aM)
  | 0, _, _, _, _, _ => none
  | N + 1, x1, x2, x3, x4, m => lb_Box_manyUnlike_10 F (ll_Box_manyUnlike_10 F N) x1 x2 x3 x4 m
theorem t_Box_manyUnlike_10 {K : aK} {d bc bs : Nat} {g : aG} (s : Sys g) {Q : aQ} {r : Int32} {m' : aM} (F : Nat) : ∀ (N : Nat) (x1 : Int32) (x2 : Int32) (x3 : Int32) (x4 : Int32) (m : aM), Q (.inl (some (.int r))) (g, m') → ll_Box_manyUnlike_10 F N x1 x2 x3 x4 m = some (r, m') → 5 ≤ d → G K M_Box_manyUnlike d bc bs 10 [.ref 21, .int x1, .int x2, .int x3, .int x4] [] (g, m) Q
  | 0, _, _, _, _, _ => fun _ e => nomatch e
  | N + 1, x1, x2, x3, x4, m => fun hq e hd => tb_Box_manyUnlike_10 s F (ll_Box_manyUnlike_10 F N) (fun x1 x2 x3 x4 m e => t_Box_manyUnlike_10 s F N x1 x2 x3 x4 m hq e hd) x1 x2 x3 x4 m hq e hd
def f_Box_manyUnlike (F : Nat) (x1 : Int32) (m : aM) : Option (Int32 × aM) :=
  o_b (f_Box_manyBoxed F  m) fun y1 =>
  ll_Box_manyUnlike_10 F F x1 y1 0 0 m
theorem s_Box_manyUnlike {K : aK} {d bc bs : Nat} {g : aG} (s : Sys g) (F : Nat) (x1 : Int32) (m : aM) {r : Int32} {m' : aM} (e : f_Box_manyUnlike F x1 m = some (r, m')) (hd : 5 ≤ d) : Sp K M_Box_manyUnlike d bc bs [.ref 21, .int x1] (g, m) (some (.int r)) (g, m') := by
  refine sp_of ok_Box_manyUnlike rfl (Nat.le_of_ble_eq_true rfl) (by simp [Value.category]) (fun Q hq => ?_)
  unfold f_Box_manyUnlike at e
  refine g_aload_n k_Box_manyUnlike_0 rfl rfl ?_
  obtain ⟨y1, e_y1, e⟩ := o_b_ex e
  refine g_cv k_Box_manyUnlike_1 lv_Box_41 (by decide +kernel) (T := F_Box) (N := 9) (ci := 1) rfl (sk_Box (sy_Box s)) (s_Box_manyBoxed (bc := 0) (bs := 0) s F  m e_y1 (by omega)) rfl rfl (Nat.le_of_ble_eq_true rfl) (by simp [Value.category]) (by omega) (by omega) (by omega) ?_
  refine g_istore_n k_Box_manyUnlike_4 rfl (by decide) ?_
  refine g_iconst (v := 0) k_Box_manyUnlike_5 rfl ?_
  refine g_istore_n k_Box_manyUnlike_6 rfl (by decide) ?_
  refine g_iconst (v := 0) k_Box_manyUnlike_7 rfl ?_
  refine g_istore k_Box_manyUnlike_8 (by decide) ?_
  exact (t_Box_manyUnlike_10 s F F x1 y1 0 0 m hq e hd)
