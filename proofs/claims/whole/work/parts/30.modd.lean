/-! the reference, further -/
def b_Mod_isBack_20 (F : Nat) (x1 : Int32) (x2 : Int32) (xt0 : Int32) (m : aM) : Option (Int32 × aM) :=
  o_b2 (f_Mod_bad xt0 1 m) fun y1 m2 =>
  (if y1 = 0 then
  o_b (f_Mod_stands0 F x1 x2 m2) fun y3 =>
  (if y3 = 0 then
  some (0, m2)
  else
  o_b2 (f_Mod_findBest F 0 1 m2) fun y4 m5 =>
  o_gd (inb ((32 * x1) + x2) 6912) <|
  o_let ((m5 8471 (((32 * x1) + x2).toNatClampNeg))) fun y7 =>
  (if y7 = (-1) then
  some (0, m5)
  else
  some (1, m5)
  )
  )
  else
  some (0, m2)
  )
theorem t_Mod_isBack_20 {K : aK} {d bc bs : Nat} {g : aG} (s : SyM g) {Q : aQ} {r : Int32} {m' : aM} (F : Nat) (x1 : Int32) (x2 : Int32) (xt0 : Int32) (m : aM) (hq : Q (.inl (some (.int r))) (g, m')) (e : b_Mod_isBack_20 F x1 x2 xt0 m = some (r, m')) (hd : 4 ≤ d) : G K M_Mod_isBack d bc bs 20 [.ref 242, .int x1, .int x2] [.int xt0, .ref 242] (g, m) Q := by
  unfold b_Mod_isBack_20 at e
  refine g_iconst (v := 1) k_Mod_isBack_20 rfl ?_
  obtain ⟨y1, m2, e_y1, e⟩ := o_b2_ex e
  refine g_cv k_Mod_isBack_21 lv_Mod_240 (by decide +kernel) (T := F_Mod) (N := 61) (ci := 10) rfl (sk_Mod s) (s_Mod_bad (bc := 0) (bs := 0) s xt0 1 m e_y1) rfl rfl (Nat.le_of_ble_eq_true rfl) (by simp [Value.category]) (by omega) (by omega) (by omega) ?_
  refine g_if_eq (tgt := 29) k_Mod_isBack_24 (by decide) (fun c => ?_) (fun c => ?_)
  · rw [if_pos c] at e
    refine g_aload_n k_Mod_isBack_29 rfl rfl ?_
    refine g_iload_n k_Mod_isBack_30 rfl rfl ?_
    refine g_iload_n k_Mod_isBack_31 rfl rfl ?_
    obtain ⟨y3, e_y3, e⟩ := o_b_ex e
    refine g_cv k_Mod_isBack_32 lv_Mod_329 (by decide +kernel) (T := F_Mod) (N := 61) (ci := 10) rfl (sk_Mod s) (s_Mod_stands0 (bc := 0) (bs := 0) s F x1 x2 m2 e_y3 (by omega)) rfl rfl (Nat.le_of_ble_eq_true rfl) (by simp [Value.category]) (by omega) (by omega) (by omega) ?_
    refine g_if_ne (tgt := 40) k_Mod_isBack_35 (by decide) (fun c => ?_) (fun c => ?_)
    · rw [if_pos c] at e
      refine g_iconst (v := 0) k_Mod_isBack_38 rfl ?_
      refine g_zret k_Mod_isBack_39 rfl (by decide) ?_
      exact (by cases e; exact hq)
    · rw [if_neg c] at e
      refine g_aload_n k_Mod_isBack_40 rfl rfl ?_
      refine g_iconst (v := 0) k_Mod_isBack_41 rfl ?_
      refine g_iconst (v := 1) k_Mod_isBack_42 rfl ?_
      obtain ⟨y4, m5, e_y4, e⟩ := o_b2_ex e
      refine g_cv k_Mod_isBack_43 lv_Mod_339 (by decide +kernel) (T := F_Mod) (N := 61) (ci := 10) rfl (sk_Mod s) (s_Mod_findBest (bc := 0) (bs := 0) s F 0 1 m2 e_y4 (by omega)) rfl rfl (Nat.le_of_ble_eq_true rfl) (by simp [Value.category]) (by omega) (by omega) (by omega) ?_
      refine g_aload_n k_Mod_isBack_46 rfl rfl ?_
      refine p_getr k_Mod_isBack_47 fl_Mod_87 rfl (sk_Mod s) (by decide) (sr_Mod_43 s) ?_
      refine g_bipush (v := 32) k_Mod_isBack_50 rfl ?_
      refine g_iload_n k_Mod_isBack_52 rfl rfl ?_
      refine g_imul k_Mod_isBack_53 ?_
      refine g_iload_n k_Mod_isBack_54 rfl rfl ?_
      refine g_iadd k_Mod_isBack_55 ?_
      obtain ⟨q6, e⟩ := o_gd_ex e
      refine p_iald k_Mod_isBack_56 (sa_Mod_43 s) (inb_in q6) (j := ((32 * x1) + x2).toNatClampNeg) rfl ?_
      obtain ⟨y7, u_y7, e⟩ := o_let_ex e
      refine G.vy u_y7 ?_
      refine g_iconst (v := (-1)) k_Mod_isBack_57 rfl ?_
      refine g_icmp_eq (tgt := 65) k_Mod_isBack_58 (by decide) (fun c => ?_) (fun c => ?_)
      · rw [if_pos c] at e
        refine g_iconst (v := 0) k_Mod_isBack_65 rfl ?_
        refine g_zret k_Mod_isBack_66 rfl (by decide) ?_
        exact (by cases e; exact hq)
      · rw [if_neg c] at e
        refine g_iconst (v := 1) k_Mod_isBack_61 rfl ?_
        refine g_goto (tgt := 66) k_Mod_isBack_62 (by decide) ?_
        refine g_zret k_Mod_isBack_66 rfl (by decide) ?_
        exact (by cases e; exact hq)
  · rw [if_neg c] at e
    refine g_iconst (v := 0) k_Mod_isBack_27 rfl ?_
    refine g_zret k_Mod_isBack_28 rfl (by decide) ?_
    exact (by cases e; exact hq)
def f_Mod_isBack (F : Nat) (x1 : Int32) (x2 : Int32) (m : aM) : Option (Int32 × aM) :=
  o_let (a_st m 242 0 0) fun m1 =>
  o_b (f_Mod_isNode x1 x2 m1) fun y2 =>
  (if y2 = 0 then
  b_Mod_isBack_20 F x1 x2 1 m1
  else
  b_Mod_isBack_20 F x1 x2 0 m1
  )
theorem s_Mod_isBack {K : aK} {d bc bs : Nat} {g : aG} (s : SyM g) (F : Nat) (x1 : Int32) (x2 : Int32) (m : aM) {r : Int32} {m' : aM} (e : f_Mod_isBack F x1 x2 m = some (r, m')) (hd : 4 ≤ d) : Sp K M_Mod_isBack d bc bs [.ref 242, .int x1, .int x2] (g, m) (some (.int r)) (g, m') := by
  refine sp_of ok_Mod_isBack rfl (Nat.le_of_ble_eq_true rfl) (by simp [Value.category]) (fun Q hq => ?_)
  unfold f_Mod_isBack at e
  refine g_aload_n k_Mod_isBack_0 rfl rfl ?_
  refine g_iconst (v := 0) k_Mod_isBack_1 rfl ?_
  refine p_puti k_Mod_isBack_2 fl_Mod_131 rfl ⟨R_Mod, F_Mod, 61, rfl, Or.inl rfl⟩ (sk_Mod s) (by decide) ?_
  obtain ⟨m1, u_m1, e⟩ := o_let_ex e
  refine G.hm u_m1 ?_
  refine g_aload_n k_Mod_isBack_5 rfl rfl ?_
  refine g_aload_n k_Mod_isBack_6 rfl rfl ?_
  refine g_iload_n k_Mod_isBack_7 rfl rfl ?_
  refine g_iload_n k_Mod_isBack_8 rfl rfl ?_
  obtain ⟨y2, e_y2, e⟩ := o_b_ex e
  refine g_cv k_Mod_isBack_9 lv_Mod_325 (by decide +kernel) (T := F_Mod) (N := 61) (ci := 10) rfl (sk_Mod s) (s_Mod_isNode (bc := 0) (bs := 0) s x1 x2 m1 e_y2 (by omega)) rfl rfl (Nat.le_of_ble_eq_true rfl) (by simp [Value.category]) (by omega) (by omega) (by omega) ?_
  refine g_if_ne (tgt := 19) k_Mod_isBack_12 (by decide) (fun c => ?_) (fun c => ?_)
  · rw [if_pos c] at e
    refine g_iconst (v := 1) k_Mod_isBack_15 rfl ?_
    refine g_goto (tgt := 20) k_Mod_isBack_16 (by decide) ?_
    exact (t_Mod_isBack_20 s F x1 x2 1 m1 hq e hd)
  · rw [if_neg c] at e
    refine g_iconst (v := 0) k_Mod_isBack_19 rfl ?_
    exact (t_Mod_isBack_20 s F x1 x2 0 m1 hq e hd)
def b_Mod_many_35 (F : Nat) (rec_4 : Int32 → Int32 → Int32 → aM → Option Int32) (x1 : Int32) (x3 : Int32) (xt0 : Int32) (xt1 : Int32) (m : aM) : Option Int32 :=
  rec_4 x1 (xt1 + xt0) (x3 + 1) m
theorem t_Mod_many_35 {K : aK} {d bc bs : Nat} {g : aG} (s : SyM g) {Q : aQ} {r : Int32} (F : Nat) (m : aM) (rec_4 : Int32 → Int32 → Int32 → aM → Option Int32) (hr_4 : ∀ (x1 : Int32) (x2 : Int32) (x3 : Int32), rec_4 x1 x2 x3 m = some r → G K M_Mod_many d bc bs 4 [.ref 242, .int x1, .int x2, .int x3] [] (g, m) Q) (x1 : Int32) (x3 : Int32) (xt0 : Int32) (xt1 : Int32) (hq : Q (.inl (some (.int r))) (g, m)) (e : b_Mod_many_35 F rec_4 x1 x3 xt0 xt1 m = some r) : G K M_Mod_many d bc bs 35 [.ref 242, .int x1, .double 0, .int x3] [.int xt0, .int xt1] (g, m) Q := by
  unfold b_Mod_many_35 at e
  refine g_iadd k_Mod_many_35 ?_
  refine g_istore_n k_Mod_many_36 rfl (by decide) ?_
  refine g_iinc (v := _ + 1) k_Mod_many_37 rfl rfl (by decide) ?_
  refine g_goto (tgt := 4) k_Mod_many_40 (by decide) ?_
  exact (hr_4 x1 (xt1 + xt0) (x3 + 1)  e)
def b_Mod_many_34 (F : Nat) (rec_4 : Int32 → Int32 → Int32 → aM → Option Int32) (x1 : Int32) (x3 : Int32) (xt0 : Int32) (m : aM) : Option Int32 :=
  b_Mod_many_35 F rec_4 x1 x3 0 xt0 m
theorem t_Mod_many_34 {K : aK} {d bc bs : Nat} {g : aG} (s : SyM g) {Q : aQ} {r : Int32} (F : Nat) (m : aM) (rec_4 : Int32 → Int32 → Int32 → aM → Option Int32) (hr_4 : ∀ (x1 : Int32) (x2 : Int32) (x3 : Int32), rec_4 x1 x2 x3 m = some r → G K M_Mod_many d bc bs 4 [.ref 242, .int x1, .int x2, .int x3] [] (g, m) Q) (x1 : Int32) (x3 : Int32) (xt0 : Int32) (hq : Q (.inl (some (.int r))) (g, m)) (e : b_Mod_many_34 F rec_4 x1 x3 xt0 m = some r) : G K M_Mod_many d bc bs 34 [.ref 242, .int x1, .double 0, .int x3] [.int xt0] (g, m) Q := by
  unfold b_Mod_many_34 at e
  refine g_iconst (v := 0) k_Mod_many_34 rfl ?_
  exact (t_Mod_many_35 s F m rec_4 hr_4 x1 x3 0 xt0  hq e)
def lb_Mod_many_4 (F : Nat) (rec_4 : Int32 → Int32 → Int32 → aM → Option Int32) (x1 : Int32) (x2 : Int32) (x3 : Int32) (m : aM) : Option Int32 :=
  (if 40 ≤ x3 then
  some x2
  else
  o_gd (inb x3 40) <|
  (if (m 8473 x3.toNatClampNeg) = 0 then
  b_Mod_many_34 F rec_4 x1 x3 x2 m
  else
  o_gd (inb x3 40) <|
  (if (m 8475 x3.toNatClampNeg) = x1 then
  b_Mod_many_35 F rec_4 x1 x3 1 x2 m
  else
  b_Mod_many_34 F rec_4 x1 x3 x2 m
  )
  )
  )
theorem tb_Mod_many_4 {K : aK} {d bc bs : Nat} {g : aG} (s : SyM g) {Q : aQ} {r : Int32} (F : Nat) (m : aM) (rec_4 : Int32 → Int32 → Int32 → aM → Option Int32) (hr_4 : ∀ (x1 : Int32) (x2 : Int32) (x3 : Int32), rec_4 x1 x2 x3 m = some r → G K M_Mod_many d bc bs 4 [.ref 242, .int x1, .int x2, .int x3] [] (g, m) Q) (x1 : Int32) (x2 : Int32) (x3 : Int32) (hq : Q (.inl (some (.int r))) (g, m)) (e : lb_Mod_many_4 F rec_4 x1 x2 x3 m = some r) : G K M_Mod_many d bc bs 4 [.ref 242, .int x1, .int x2, .int x3] [] (g, m) Q := by
  unfold lb_Mod_many_4 at e
  refine g_iload_n k_Mod_many_4 rfl rfl ?_
  refine g_bipush (v := 40) k_Mod_many_5 rfl ?_
  refine g_icmp_ge (tgt := 43) k_Mod_many_7 (by decide) (fun c => ?_) (fun c => ?_)
  · rw [if_pos c] at e
    refine g_iload_n k_Mod_many_43 rfl rfl ?_
    refine g_iret k_Mod_many_44 rfl ?_
    exact (by cases e; exact hq)
  · rw [if_neg c] at e
    refine g_iload_n k_Mod_many_10 rfl rfl ?_
    refine g_aload_n k_Mod_many_11 rfl rfl ?_
    refine p_getr k_Mod_many_12 fl_Mod_96 rfl (sk_Mod s) (by decide) (sr_Mod_50 s) ?_
    refine g_iload_n k_Mod_many_15 rfl rfl ?_
    obtain ⟨q1, e⟩ := o_gd_ex e
    refine p_zald k_Mod_many_16 (sa_Mod_50 s) (inb_in q1) (j := x3.toNatClampNeg) rfl ?_
    refine g_if_eq (tgt := 34) k_Mod_many_17 (by decide) (fun c => ?_) (fun c => ?_)
    · rw [if_pos c] at e
      exact G.wl (wls (wls (wld (wls wl0)))) (t_Mod_many_34 s F m rec_4 hr_4 x1 x3 x2  hq e)
    · rw [if_neg c] at e
      refine g_aload_n k_Mod_many_20 rfl rfl ?_
      refine p_getr k_Mod_many_21 fl_Mod_102 rfl (sk_Mod s) (by decide) (sr_Mod_52 s) ?_
      refine g_iload_n k_Mod_many_24 rfl rfl ?_
      obtain ⟨q2, e⟩ := o_gd_ex e
      refine p_iald k_Mod_many_25 (sa_Mod_52 s) (inb_in q2) (j := x3.toNatClampNeg) rfl ?_
      refine g_iload_n k_Mod_many_26 rfl rfl ?_
      refine g_icmp_ne (tgt := 34) k_Mod_many_27 (by decide) (fun c => ?_) (fun c => ?_)
      · rw [if_pos c] at e
        refine g_iconst (v := 1) k_Mod_many_30 rfl ?_
        refine g_goto (tgt := 35) k_Mod_many_31 (by decide) ?_
        exact G.wl (wls (wls (wld (wls wl0)))) (t_Mod_many_35 s F m rec_4 hr_4 x1 x3 1 x2  hq e)
      · rw [if_neg c] at e
        exact G.wl (wls (wls (wld (wls wl0)))) (t_Mod_many_34 s F m rec_4 hr_4 x1 x3 x2  hq e)
def ll_Mod_many_4 (F : Nat) : Nat → Int32 → Int32 → Int32 → aM → Option Int32
  | 0, _, _, _, _ => none
  | N + 1, x1, x2, x3, m => lb_Mod_many_4 F (ll_Mod_many_4 F N) x1 x2 x3 m
theorem t_Mod_many_4 {K : aK} {d bc bs : Nat} {g : aG} (s : SyM g) {Q : aQ} {r : Int32} (F : Nat) (m : aM) : ∀ (N : Nat) (x1 : Int32) (x2 : Int32) (x3 : Int32), Q (.inl (some (.int r))) (g, m) → ll_Mod_many_4 F N x1 x2 x3 m = some r → G K M_Mod_many d bc bs 4 [.ref 242, .int x1, .int x2, .int x3] [] (g, m) Q
  | 0, _, _, _ => fun _ e => nomatch e
  | N + 1, x1, x2, x3 => fun hq e => tb_Mod_many_4 s F m (ll_Mod_many_4 F N) (fun x1 x2 x3 e => t_Mod_many_4 s F m N x1 x2 x3 hq e) x1 x2 x3 hq e
def f_Mod_many (F : Nat) (x1 : Int32) (m : aM) : Option Int32 :=
  ll_Mod_many_4 F F x1 0 0 m
theorem s_Mod_many {K : aK} {d bc bs : Nat} {g : aG} (s : SyM g) (F : Nat) (x1 : Int32) (m : aM) {r : Int32} (e : f_Mod_many F x1 m = some r) : Sp K M_Mod_many d bc bs [.ref 242, .int x1] (g, m) (some (.int r)) (g, m) := by
  refine sp_of ok_Mod_many rfl (Nat.le_of_ble_eq_true rfl) (by simp [Value.category]) (fun Q hq => ?_)
  unfold f_Mod_many at e
  refine g_iconst (v := 0) k_Mod_many_0 rfl ?_
  refine g_istore_n k_Mod_many_1 rfl (by decide) ?_
  refine g_iconst (v := 0) k_Mod_many_2 rfl ?_
  refine g_istore_n k_Mod_many_3 rfl (by decide) ?_
  exact (t_Mod_many_4 s F m F x1 0 0  hq e)
def b_Mod_brokenOnes_34 (F : Nat) (rec_4 : Int32 → Int32 → aM → Option Int32) (x2 : Int32) (xt0 : Int32) (xt1 : Int32) (m : aM) : Option Int32 :=
  rec_4 (xt1 + xt0) (x2 + 1) m
theorem t_Mod_brokenOnes_34 {K : aK} {d bc bs : Nat} {g : aG} (s : SyM g) {Q : aQ} {r : Int32} (F : Nat) (m : aM) (rec_4 : Int32 → Int32 → aM → Option Int32) (hr_4 : ∀ (x1 : Int32) (x2 : Int32), rec_4 x1 x2 m = some r → G K M_Mod_brokenOnes d bc bs 4 [.ref 242, .int x1, .int x2] [] (g, m) Q) (x2 : Int32) (xt0 : Int32) (xt1 : Int32) (hq : Q (.inl (some (.int r))) (g, m)) (e : b_Mod_brokenOnes_34 F rec_4 x2 xt0 xt1 m = some r) : G K M_Mod_brokenOnes d bc bs 34 [.ref 242, .double 0, .int x2] [.int xt0, .int xt1] (g, m) Q := by
  unfold b_Mod_brokenOnes_34 at e
  refine g_iadd k_Mod_brokenOnes_34 ?_
  refine g_istore_n k_Mod_brokenOnes_35 rfl (by decide) ?_
  refine g_iinc (v := _ + 1) k_Mod_brokenOnes_36 rfl rfl (by decide) ?_
  refine g_goto (tgt := 4) k_Mod_brokenOnes_39 (by decide) ?_
  exact (hr_4 (xt1 + xt0) (x2 + 1)  e)
def b_Mod_brokenOnes_33 (F : Nat) (rec_4 : Int32 → Int32 → aM → Option Int32) (x2 : Int32) (xt0 : Int32) (m : aM) : Option Int32 :=
  b_Mod_brokenOnes_34 F rec_4 x2 0 xt0 m
theorem t_Mod_brokenOnes_33 {K : aK} {d bc bs : Nat} {g : aG} (s : SyM g) {Q : aQ} {r : Int32} (F : Nat) (m : aM) (rec_4 : Int32 → Int32 → aM → Option Int32) (hr_4 : ∀ (x1 : Int32) (x2 : Int32), rec_4 x1 x2 m = some r → G K M_Mod_brokenOnes d bc bs 4 [.ref 242, .int x1, .int x2] [] (g, m) Q) (x2 : Int32) (xt0 : Int32) (hq : Q (.inl (some (.int r))) (g, m)) (e : b_Mod_brokenOnes_33 F rec_4 x2 xt0 m = some r) : G K M_Mod_brokenOnes d bc bs 33 [.ref 242, .double 0, .int x2] [.int xt0] (g, m) Q := by
  unfold b_Mod_brokenOnes_33 at e
  refine g_iconst (v := 0) k_Mod_brokenOnes_33 rfl ?_
  exact (t_Mod_brokenOnes_34 s F m rec_4 hr_4 x2 0 xt0  hq e)
def lb_Mod_brokenOnes_4 (F : Nat) (rec_4 : Int32 → Int32 → aM → Option Int32) (x1 : Int32) (x2 : Int32) (m : aM) : Option Int32 :=
  (if 40 ≤ x2 then
  some x1
  else
  o_gd (inb x2 40) <|
  (if (m 8473 x2.toNatClampNeg) = 0 then
  b_Mod_brokenOnes_33 F rec_4 x2 x1 m
  else
  o_gd (inb x2 40) <|
  (if (m 8474 x2.toNatClampNeg) = 0 then
  b_Mod_brokenOnes_33 F rec_4 x2 x1 m
  else
  b_Mod_brokenOnes_34 F rec_4 x2 1 x1 m
  )
  )
  )
theorem tb_Mod_brokenOnes_4 {K : aK} {d bc bs : Nat} {g : aG} (s : SyM g) {Q : aQ} {r : Int32} (F : Nat) (m : aM) (rec_4 : Int32 → Int32 → aM → Option Int32) (hr_4 : ∀ (x1 : Int32) (x2 : Int32), rec_4 x1 x2 m = some r → G K M_Mod_brokenOnes d bc bs 4 [.ref 242, .int x1, .int x2] [] (g, m) Q) (x1 : Int32) (x2 : Int32) (hq : Q (.inl (some (.int r))) (g, m)) (e : lb_Mod_brokenOnes_4 F rec_4 x1 x2 m = some r) : G K M_Mod_brokenOnes d bc bs 4 [.ref 242, .int x1, .int x2] [] (g, m) Q := by
  unfold lb_Mod_brokenOnes_4 at e
  refine g_iload_n k_Mod_brokenOnes_4 rfl rfl ?_
  refine g_bipush (v := 40) k_Mod_brokenOnes_5 rfl ?_
  refine g_icmp_ge (tgt := 42) k_Mod_brokenOnes_7 (by decide) (fun c => ?_) (fun c => ?_)
  · rw [if_pos c] at e
    refine g_iload_n k_Mod_brokenOnes_42 rfl rfl ?_
    refine g_iret k_Mod_brokenOnes_43 rfl ?_
    exact (by cases e; exact hq)
  · rw [if_neg c] at e
    refine g_iload_n k_Mod_brokenOnes_10 rfl rfl ?_
    refine g_aload_n k_Mod_brokenOnes_11 rfl rfl ?_
    refine p_getr k_Mod_brokenOnes_12 fl_Mod_96 rfl (sk_Mod s) (by decide) (sr_Mod_50 s) ?_
    refine g_iload_n k_Mod_brokenOnes_15 rfl rfl ?_
    obtain ⟨q1, e⟩ := o_gd_ex e
    refine p_zald k_Mod_brokenOnes_16 (sa_Mod_50 s) (inb_in q1) (j := x2.toNatClampNeg) rfl ?_
    refine g_if_eq (tgt := 33) k_Mod_brokenOnes_17 (by decide) (fun c => ?_) (fun c => ?_)
    · rw [if_pos c] at e
      exact G.wl (wls (wld (wls wl0))) (t_Mod_brokenOnes_33 s F m rec_4 hr_4 x2 x1  hq e)
    · rw [if_neg c] at e
      refine g_aload_n k_Mod_brokenOnes_20 rfl rfl ?_
      refine p_getr k_Mod_brokenOnes_21 fl_Mod_99 rfl (sk_Mod s) (by decide) (sr_Mod_51 s) ?_
      refine g_iload_n k_Mod_brokenOnes_24 rfl rfl ?_
      obtain ⟨q2, e⟩ := o_gd_ex e
      refine p_zald k_Mod_brokenOnes_25 (sa_Mod_51 s) (inb_in q2) (j := x2.toNatClampNeg) rfl ?_
      refine g_if_eq (tgt := 33) k_Mod_brokenOnes_26 (by decide) (fun c => ?_) (fun c => ?_)
      · rw [if_pos c] at e
        exact G.wl (wls (wld (wls wl0))) (t_Mod_brokenOnes_33 s F m rec_4 hr_4 x2 x1  hq e)
      · rw [if_neg c] at e
        refine g_iconst (v := 1) k_Mod_brokenOnes_29 rfl ?_
        refine g_goto (tgt := 34) k_Mod_brokenOnes_30 (by decide) ?_
        exact G.wl (wls (wld (wls wl0))) (t_Mod_brokenOnes_34 s F m rec_4 hr_4 x2 1 x1  hq e)
def ll_Mod_brokenOnes_4 (F : Nat) : Nat → Int32 → Int32 → aM → Option Int32
  | 0, _, _, _ => none
  | N + 1, x1, x2, m => lb_Mod_brokenOnes_4 F (ll_Mod_brokenOnes_4 F N) x1 x2 m
theorem t_Mod_brokenOnes_4 {K : aK} {d bc bs : Nat} {g : aG} (s : SyM g) {Q : aQ} {r : Int32} (F : Nat) (m : aM) : ∀ (N : Nat) (x1 : Int32) (x2 : Int32), Q (.inl (some (.int r))) (g, m) → ll_Mod_brokenOnes_4 F N x1 x2 m = some r → G K M_Mod_brokenOnes d bc bs 4 [.ref 242, .int x1, .int x2] [] (g, m) Q
  | 0, _, _ => fun _ e => nomatch e
  | N + 1, x1, x2 => fun hq e => tb_Mod_brokenOnes_4 s F m (ll_Mod_brokenOnes_4 F N) (fun x1 x2 e => t_Mod_brokenOnes_4 s F m N x1 x2 hq e) x1 x2 hq e
def f_Mod_brokenOnes (F : Nat)  (m : aM) : Option Int32 :=
  ll_Mod_brokenOnes_4 F F 0 0 m
theorem s_Mod_brokenOnes {K : aK} {d bc bs : Nat} {g : aG} (s : SyM g) (F : Nat)  (m : aM) {r : Int32} (e : f_Mod_brokenOnes F  m = some r) : Sp K M_Mod_brokenOnes d bc bs [.ref 242] (g, m) (some (.int r)) (g, m) := by
  refine sp_of ok_Mod_brokenOnes rfl (Nat.le_of_ble_eq_true rfl) (by simp [Value.category]) (fun Q hq => ?_)
  unfold f_Mod_brokenOnes at e
  refine g_iconst (v := 0) k_Mod_brokenOnes_0 rfl ?_
  refine g_istore_n k_Mod_brokenOnes_1 rfl (by decide) ?_
  refine g_iconst (v := 0) k_Mod_brokenOnes_2 rfl ?_
  refine g_istore_n k_Mod_brokenOnes_3 rfl (by decide) ?_
  exact (t_Mod_brokenOnes_4 s F m F 0 0  hq e)
def b_Mod_seesOf_46 (F : Nat) (rec_2 : Int32 → Int32 → aM → Option (Int32 × aM)) (x1 : Int32) (x2 : Int32) (xt0 : Int32) (xt1 : Int32) (m : aM) : Option (Int32 × aM) :=
  o_gd (inb xt1 4) <|
  o_let (a_st m 256 xt1.toNatClampNeg xt0) fun m2 =>
  rec_2 x1 (x2 + 1) m2
theorem t_Mod_seesOf_46 {K : aK} {d bc bs : Nat} {g : aG} (s : SyM g) {Q : aQ} {r : Int32} {m' : aM} (F : Nat) (rec_2 : Int32 → Int32 → aM → Option (Int32 × aM)) (hr_2 : ∀ (x1 : Int32) (x2 : Int32) (m : aM), rec_2 x1 x2 m = some (r, m') → G K M_Mod_seesOf d bc bs 2 [.ref 242, .int x1, .int x2] [] (g, m) Q) (x1 : Int32) (x2 : Int32) (xt0 : Int32) (xt1 : Int32) (m : aM) (hq : Q (.inl none) (g, m')) (e : b_Mod_seesOf_46 F rec_2 x1 x2 xt0 xt1 m = some (r, m')) (hd : 399 ≤ d) : G K M_Mod_seesOf d bc bs 46 [.ref 242, .int x1, .int x2] [.int xt0, .int xt1, .ref 256] (g, m) Q := by
  unfold b_Mod_seesOf_46 at e
  obtain ⟨q1, e⟩ := o_gd_ex e
  refine p_iast k_Mod_seesOf_46 (sa_Mod_31 s) (inb_in q1) (j := xt1.toNatClampNeg) rfl ?_
  obtain ⟨m2, u_m2, e⟩ := o_let_ex e
  refine G.hm u_m2 ?_
  refine g_iinc (v := _ + 1) k_Mod_seesOf_47 rfl rfl (by decide) ?_
  refine g_goto (tgt := 2) k_Mod_seesOf_50 (by decide) ?_
  exact (hr_2 x1 (x2 + 1) m2 e)
def lb_Mod_seesOf_2 (F : Nat) (rec_2 : Int32 → Int32 → aM → Option (Int32 × aM)) (x1 : Int32) (x2 : Int32) (m : aM) : Option (Int32 × aM) :=
  (if 4 ≤ x2 then
  o_b2 (f_Mod_sees F  m) fun y1 m2 =>
  some (0, m2)
  else
  o_gd (inb x1 40) <|
  o_gd (inb x2 4) <|
  o_let ((m (8479 + x1.toNatClampNeg) x2.toNatClampNeg)) fun y5 =>
  o_gd (inb x2 4) <|
  o_let (a_st m 249 x2.toNatClampNeg y5) fun m7 =>
  o_b (f_Mod_isKept x2 m7) fun y8 =>
  (if y8 = 0 then
  b_Mod_seesOf_46 F rec_2 x1 x2 0 x2 m7
  else
  o_gd (inb x1 40) <|
  o_gd (inb x2 4) <|
  o_let ((m7 (8479 + x1.toNatClampNeg) x2.toNatClampNeg)) fun y11 =>
  b_Mod_seesOf_46 F rec_2 x1 x2 y11 x2 m7
  )
  )
theorem tb_Mod_seesOf_2 {K : aK} {d bc bs : Nat} {g : aG} (s : SyM g) {Q : aQ} {r : Int32} {m' : aM} (F : Nat) (rec_2 : Int32 → Int32 → aM → Option (Int32 × aM)) (hr_2 : ∀ (x1 : Int32) (x2 : Int32) (m : aM), rec_2 x1 x2 m = some (r, m') → G K M_Mod_seesOf d bc bs 2 [.ref 242, .int x1, .int x2] [] (g, m) Q) (x1 : Int32) (x2 : Int32) (m : aM) (hq : Q (.inl none) (g, m')) (e : lb_Mod_seesOf_2 F rec_2 x1 x2 m = some (r, m')) (hd : 399 ≤ d) : G K M_Mod_seesOf d bc bs 2 [.ref 242, .int x1, .int x2] [] (g, m) Q := by
  unfold lb_Mod_seesOf_2 at e
  refine g_iload_n k_Mod_seesOf_2 rfl rfl ?_
  refine g_iconst (v := 4) k_Mod_seesOf_3 rfl ?_
  refine g_icmp_ge (tgt := 53) k_Mod_seesOf_4 (by decide) (fun c => ?_) (fun c => ?_)
  · rw [if_pos c] at e
    refine g_aload_n k_Mod_seesOf_53 rfl rfl ?_
    obtain ⟨y1, m2, e_y1, e⟩ := o_b2_ex e
    refine g_cv k_Mod_seesOf_54 lv_Mod_271 (by decide +kernel) (T := F_Mod) (N := 61) (ci := 10) rfl (sk_Mod s) (s_Mod_sees (bc := 0) (bs := 0) s F  m e_y1 (by omega)) rfl rfl (Nat.le_of_ble_eq_true rfl) (by simp [Value.category]) (by omega) (by omega) (by omega) ?_
    refine g_vret k_Mod_seesOf_57 rfl ?_
    exact (by cases e; exact hq)
  · rw [if_neg c] at e
    refine g_aload_n k_Mod_seesOf_7 rfl rfl ?_
    refine p_getr k_Mod_seesOf_8 fl_Mod_34 rfl (sk_Mod s) (by decide) (sr_Mod_24 s) ?_
    refine g_iload_n k_Mod_seesOf_11 rfl rfl ?_
    refine g_aload_n k_Mod_seesOf_12 rfl rfl ?_
    refine p_getr k_Mod_seesOf_13 fl_Mod_111 rfl (sk_Mod s) (by decide) (sr_Mod_55 s) ?_
    refine g_iload_n k_Mod_seesOf_16 rfl rfl ?_
    obtain ⟨q3, e⟩ := o_gd_ex e
    refine p_aald k_Mod_seesOf_17 (sa_Mod_55 s) (by decide) (by decide) (inb_in q3) (j := x1.toNatClampNeg) rfl (si_Mod_55 s _ (vp_lt (inb_in q3))).1 ?_
    refine g_iload_n k_Mod_seesOf_18 rfl rfl ?_
    obtain ⟨q4, e⟩ := o_gd_ex e
    refine p_iald k_Mod_seesOf_19 (si_Mod_55 s _ (vp_lt (inb_in q3))).2 (inb_in q4) (j := x2.toNatClampNeg) rfl ?_
    obtain ⟨y5, u_y5, e⟩ := o_let_ex e
    refine G.vy u_y5 ?_
    obtain ⟨q6, e⟩ := o_gd_ex e
    refine p_iast k_Mod_seesOf_20 (sa_Mod_24 s) (inb_in q6) (j := x2.toNatClampNeg) rfl ?_
    obtain ⟨m7, u_m7, e⟩ := o_let_ex e
    refine G.hm u_m7 ?_
    refine g_aload_n k_Mod_seesOf_21 rfl rfl ?_
    refine p_getr k_Mod_seesOf_22 fl_Mod_55 rfl (sk_Mod s) (by decide) (sr_Mod_31 s) ?_
    refine g_iload_n k_Mod_seesOf_25 rfl rfl ?_
    refine g_aload_n k_Mod_seesOf_26 rfl rfl ?_
    refine g_iload_n k_Mod_seesOf_27 rfl rfl ?_
    obtain ⟨y8, e_y8, e⟩ := o_b_ex e
    refine g_cv k_Mod_seesOf_28 lv_Mod_274 (by decide +kernel) (T := F_Mod) (N := 61) (ci := 10) rfl (sk_Mod s) (s_Mod_isKept (bc := 0) (bs := 0) s x2 m7 e_y8) rfl rfl (Nat.le_of_ble_eq_true rfl) (by simp [Value.category]) (by omega) (by omega) (by omega) ?_
    refine g_if_eq (tgt := 45) k_Mod_seesOf_31 (by decide) (fun c => ?_) (fun c => ?_)
    · rw [if_pos c] at e
      refine g_iconst (v := 0) k_Mod_seesOf_45 rfl ?_
      exact (t_Mod_seesOf_46 s F rec_2 hr_2 x1 x2 0 x2 m7 hq e hd)
    · rw [if_neg c] at e
      refine g_aload_n k_Mod_seesOf_34 rfl rfl ?_
      refine p_getr k_Mod_seesOf_35 fl_Mod_111 rfl (sk_Mod s) (by decide) (sr_Mod_55 s) ?_
      refine g_iload_n k_Mod_seesOf_38 rfl rfl ?_
      obtain ⟨q9, e⟩ := o_gd_ex e
      refine p_aald k_Mod_seesOf_39 (sa_Mod_55 s) (by decide) (by decide) (inb_in q9) (j := x1.toNatClampNeg) rfl (si_Mod_55 s _ (vp_lt (inb_in q9))).1 ?_
      refine g_iload_n k_Mod_seesOf_40 rfl rfl ?_
      obtain ⟨q10, e⟩ := o_gd_ex e
      refine p_iald k_Mod_seesOf_41 (si_Mod_55 s _ (vp_lt (inb_in q9))).2 (inb_in q10) (j := x2.toNatClampNeg) rfl ?_
      obtain ⟨y11, u_y11, e⟩ := o_let_ex e
      refine G.vy u_y11 ?_
      refine g_goto (tgt := 46) k_Mod_seesOf_42 (by decide) ?_
      exact (t_Mod_seesOf_46 s F rec_2 hr_2 x1 x2 y11 x2 m7 hq e hd)
def ll_Mod_seesOf_2 (F : Nat) : Nat → Int32 → Int32 → aM → Option (Int32 × aM)
  | 0, _, _, _ => none
  | N + 1, x1, x2, m => lb_Mod_seesOf_2 F (ll_Mod_seesOf_2 F N) x1 x2 m
theorem t_Mod_seesOf_2 {K : aK} {d bc bs : Nat} {g : aG} (s : SyM g) {Q : aQ} {r : Int32} {m' : aM} (F : Nat) : ∀ (N : Nat) (x1 : Int32) (x2 : Int32) (m : aM), Q (.inl none) (g, m') → ll_Mod_seesOf_2 F N x1 x2 m = some (r, m') → 399 ≤ d → G K M_Mod_seesOf d bc bs 2 [.ref 242, .int x1, .int x2] [] (g, m) Q
  | 0, _, _, _ => fun _ e => nomatch e
  | N + 1, x1, x2, m => fun hq e hd => tb_Mod_seesOf_2 s F (ll_Mod_seesOf_2 F N) (fun x1 x2 m e => t_Mod_seesOf_2 s F N x1 x2 m hq e hd) x1 x2 m hq e hd
def f_Mod_seesOf (F : Nat) (x1 : Int32) (m : aM) : Option (Int32 × aM) :=
  ll_Mod_seesOf_2 F F x1 0 m
theorem s_Mod_seesOf {K : aK} {d bc bs : Nat} {g : aG} (s : SyM g) (F : Nat) (x1 : Int32) (m : aM) {r : Int32} {m' : aM} (e : f_Mod_seesOf F x1 m = some (r, m')) (hd : 399 ≤ d) : Sp K M_Mod_seesOf d bc bs [.ref 242, .int x1] (g, m) none (g, m') := by
  refine sp_of ok_Mod_seesOf rfl (Nat.le_of_ble_eq_true rfl) (by simp [Value.category]) (fun Q hq => ?_)
  unfold f_Mod_seesOf at e
  refine g_iconst (v := 0) k_Mod_seesOf_0 rfl ?_
  refine g_istore_n k_Mod_seesOf_1 rfl (by decide) ?_
  exact (t_Mod_seesOf_2 s F F x1 0 m hq e hd)
def lb_Mod_isOdd_28 (F : Nat) (rec_28 : Int32 → Int32 → aM → Option (Int32 × aM)) (x1 : Int32) (x2 : Int32) (m : aM) : Option (Int32 × aM) :=
  (if 4 ≤ x2 then
  some (0, m)
  else
  o_gd (inb x2 4) <|
  o_gd (inb x1 40) <|
  o_gd (inb x2 4) <|
  o_let ((m (8520 + x1.toNatClampNeg) x2.toNatClampNeg)) fun y4 =>
  (if (m 251 x2.toNatClampNeg) = y4 then
  rec_28 x1 (x2 + 1) m
  else
  some (1, m)
  )
  )
theorem tb_Mod_isOdd_28 {K : aK} {d bc bs : Nat} {g : aG} (s : SyM g) {Q : aQ} {r : Int32} {m' : aM} (F : Nat) (rec_28 : Int32 → Int32 → aM → Option (Int32 × aM)) (hr_28 : ∀ (x1 : Int32) (x2 : Int32) (m : aM), rec_28 x1 x2 m = some (r, m') → G K M_Mod_isOdd d bc bs 28 [.ref 242, .int x1, .int x2] [] (g, m) Q) (x1 : Int32) (x2 : Int32) (m : aM) (hq : Q (.inl (some (.int r))) (g, m')) (e : lb_Mod_isOdd_28 F rec_28 x1 x2 m = some (r, m')) (hd : 400 ≤ d) : G K M_Mod_isOdd d bc bs 28 [.ref 242, .int x1, .int x2] [] (g, m) Q := by
  unfold lb_Mod_isOdd_28 at e
  refine g_iload_n k_Mod_isOdd_28 rfl rfl ?_
  refine g_iconst (v := 4) k_Mod_isOdd_29 rfl ?_
  refine g_icmp_ge (tgt := 58) k_Mod_isOdd_30 (by decide) (fun c => ?_) (fun c => ?_)
  · rw [if_pos c] at e
    refine g_iconst (v := 0) k_Mod_isOdd_58 rfl ?_
    refine g_zret k_Mod_isOdd_59 rfl (by decide) ?_
    exact (by cases e; exact hq)
  · rw [if_neg c] at e
    refine g_aload_n k_Mod_isOdd_33 rfl rfl ?_
    refine p_getr k_Mod_isOdd_34 fl_Mod_40 rfl (sk_Mod s) (by decide) (sr_Mod_26 s) ?_
    refine g_iload_n k_Mod_isOdd_37 rfl rfl ?_
    obtain ⟨q1, e⟩ := o_gd_ex e
    refine p_iald k_Mod_isOdd_38 (sa_Mod_26 s) (inb_in q1) (j := x2.toNatClampNeg) rfl ?_
    refine g_aload_n k_Mod_isOdd_39 rfl rfl ?_
    refine p_getr k_Mod_isOdd_40 fl_Mod_114 rfl (sk_Mod s) (by decide) (sr_Mod_56 s) ?_
    refine g_iload_n k_Mod_isOdd_43 rfl rfl ?_
    obtain ⟨q2, e⟩ := o_gd_ex e
    refine p_aald k_Mod_isOdd_44 (sa_Mod_56 s) (by decide) (by decide) (inb_in q2) (j := x1.toNatClampNeg) rfl (si_Mod_56 s _ (vp_lt (inb_in q2))).1 ?_
    refine g_iload_n k_Mod_isOdd_45 rfl rfl ?_
    obtain ⟨q3, e⟩ := o_gd_ex e
    refine p_iald k_Mod_isOdd_46 (si_Mod_56 s _ (vp_lt (inb_in q2))).2 (inb_in q3) (j := x2.toNatClampNeg) rfl ?_
    obtain ⟨y4, u_y4, e⟩ := o_let_ex e
    refine G.vy u_y4 ?_
    refine g_icmp_eq (tgt := 52) k_Mod_isOdd_47 (by decide) (fun c => ?_) (fun c => ?_)
    · rw [if_pos c] at e
      refine g_iinc (v := _ + 1) k_Mod_isOdd_52 rfl rfl (by decide) ?_
      refine g_goto (tgt := 28) k_Mod_isOdd_55 (by decide) ?_
      exact (hr_28 x1 (x2 + 1) m e)
    · rw [if_neg c] at e
      refine g_iconst (v := 1) k_Mod_isOdd_50 rfl ?_
      refine g_zret k_Mod_isOdd_51 rfl (by decide) ?_
      exact (by cases e; exact hq)
def ll_Mod_isOdd_28 (F : Nat) : Nat → Int32 → Int32 → aM → Option (Int32 × aM)
  | 0, _, _, _ => none
  | N + 1, x1, x2, m => lb_Mod_isOdd_28 F (ll_Mod_isOdd_28 F N) x1 x2 m
theorem t_Mod_isOdd_28 {K : aK} {d bc bs : Nat} {g : aG} (s : SyM g) {Q : aQ} {r : Int32} {m' : aM} (F : Nat) : ∀ (N : Nat) (x1 : Int32) (x2 : Int32) (m : aM), Q (.inl (some (.int r))) (g, m') → ll_Mod_isOdd_28 F N x1 x2 m = some (r, m') → 400 ≤ d → G K M_Mod_isOdd d bc bs 28 [.ref 242, .int x1, .int x2] [] (g, m) Q
  | 0, _, _, _ => fun _ e => nomatch e
  | N + 1, x1, x2, m => fun hq e hd => tb_Mod_isOdd_28 s F (ll_Mod_isOdd_28 F N) (fun x1 x2 m e => t_Mod_isOdd_28 s F N x1 x2 m hq e hd) x1 x2 m hq e hd
def f_Mod_isOdd (F : Nat) (x1 : Int32) (m : aM) : Option (Int32 × aM) :=
  o_gd (inb x1 40) <|
  (if (m 8473 x1.toNatClampNeg) = 0 then
  some (0, m)
  else
  o_gd (inb x1 40) <|
  (if (m 8475 x1.toNatClampNeg) = 1 then
  o_b2 (f_Mod_seesOf F x1 m) fun y3 m4 =>
  ll_Mod_isOdd_28 F F x1 0 m4
  else
  some (0, m)
  )
  )
theorem s_Mod_isOdd {K : aK} {d bc bs : Nat} {g : aG} (s : SyM g) (F : Nat) (x1 : Int32) (m : aM) {r : Int32} {m' : aM} (e : f_Mod_isOdd F x1 m = some (r, m')) (hd : 400 ≤ d) : Sp K M_Mod_isOdd d bc bs [.ref 242, .int x1] (g, m) (some (.int r)) (g, m') := by
  refine sp_of ok_Mod_isOdd rfl (Nat.le_of_ble_eq_true rfl) (by simp [Value.category]) (fun Q hq => ?_)
  unfold f_Mod_isOdd at e
  refine g_aload_n k_Mod_isOdd_0 rfl rfl ?_
  refine p_getr k_Mod_isOdd_1 fl_Mod_96 rfl (sk_Mod s) (by decide) (sr_Mod_50 s) ?_
  refine g_iload_n k_Mod_isOdd_4 rfl rfl ?_
  obtain ⟨q1, e⟩ := o_gd_ex e
  refine p_zald k_Mod_isOdd_5 (sa_Mod_50 s) (inb_in q1) (j := x1.toNatClampNeg) rfl ?_
  refine g_if_eq (tgt := 19) k_Mod_isOdd_6 (by decide) (fun c => ?_) (fun c => ?_)
  · rw [if_pos c] at e
    refine g_iconst (v := 0) k_Mod_isOdd_19 rfl ?_
    refine g_zret k_Mod_isOdd_20 rfl (by decide) ?_
    exact (by cases e; exact hq)
  · rw [if_neg c] at e
    refine g_aload_n k_Mod_isOdd_9 rfl rfl ?_
    refine p_getr k_Mod_isOdd_10 fl_Mod_102 rfl (sk_Mod s) (by decide) (sr_Mod_52 s) ?_
    refine g_iload_n k_Mod_isOdd_13 rfl rfl ?_
    obtain ⟨q2, e⟩ := o_gd_ex e
    refine p_iald k_Mod_isOdd_14 (sa_Mod_52 s) (inb_in q2) (j := x1.toNatClampNeg) rfl ?_
    refine g_iconst (v := 1) k_Mod_isOdd_15 rfl ?_
    refine g_icmp_eq (tgt := 21) k_Mod_isOdd_16 (by decide) (fun c => ?_) (fun c => ?_)
    · rw [if_pos c] at e
      refine g_aload_n k_Mod_isOdd_21 rfl rfl ?_
      refine g_iload_n k_Mod_isOdd_22 rfl rfl ?_
      obtain ⟨y3, m4, e_y3, e⟩ := o_b2_ex e
      refine g_cv k_Mod_isOdd_23 lv_Mod_345 (by decide +kernel) (T := F_Mod) (N := 61) (ci := 10) rfl (sk_Mod s) (s_Mod_seesOf (bc := 0) (bs := 0) s F x1 m e_y3 (by omega)) rfl rfl (Nat.le_of_ble_eq_true rfl) (by simp [Value.category]) (by omega) (by omega) (by omega) ?_
      refine g_iconst (v := 0) k_Mod_isOdd_26 rfl ?_
      refine g_istore_n k_Mod_isOdd_27 rfl (by decide) ?_
      exact (t_Mod_isOdd_28 s F F x1 0 m4 hq e hd)
    · rw [if_neg c] at e
      refine g_iconst (v := 0) k_Mod_isOdd_19 rfl ?_
      refine g_zret k_Mod_isOdd_20 rfl (by decide) ?_
      exact (by cases e; exact hq)
def b_Mod_oddOnes_24 (F : Nat) (rec_4 : Int32 → Int32 → aM → Option (Int32 × aM)) (x2 : Int32) (xt0 : Int32) (xt1 : Int32) (m : aM) : Option (Int32 × aM) :=
  rec_4 (xt1 + xt0) (x2 + 1) m
theorem t_Mod_oddOnes_24 {K : aK} {d bc bs : Nat} {g : aG} (s : SyM g) {Q : aQ} {r : Int32} {m' : aM} (F : Nat) (rec_4 : Int32 → Int32 → aM → Option (Int32 × aM)) (hr_4 : ∀ (x1 : Int32) (x2 : Int32) (m : aM), rec_4 x1 x2 m = some (r, m') → G K M_Mod_oddOnes d bc bs 4 [.ref 242, .int x1, .int x2] [] (g, m) Q) (x2 : Int32) (xt0 : Int32) (xt1 : Int32) (m : aM) (hq : Q (.inl (some (.int r))) (g, m')) (e : b_Mod_oddOnes_24 F rec_4 x2 xt0 xt1 m = some (r, m')) (hd : 401 ≤ d) : G K M_Mod_oddOnes d bc bs 24 [.ref 242, .double 0, .int x2] [.int xt0, .int xt1] (g, m) Q := by
  unfold b_Mod_oddOnes_24 at e
  refine g_iadd k_Mod_oddOnes_24 ?_
  refine g_istore_n k_Mod_oddOnes_25 rfl (by decide) ?_
  refine g_iinc (v := _ + 1) k_Mod_oddOnes_26 rfl rfl (by decide) ?_
  refine g_goto (tgt := 4) k_Mod_oddOnes_29 (by decide) ?_
  exact (hr_4 (xt1 + xt0) (x2 + 1) m e)
def lb_Mod_oddOnes_4 (F : Nat) (rec_4 : Int32 → Int32 → aM → Option (Int32 × aM)) (x1 : Int32) (x2 : Int32) (m : aM) : Option (Int32 × aM) :=
  (if 40 ≤ x2 then
  some (x1, m)
  else
  o_b2 (f_Mod_isOdd F x2 m) fun y1 m2 =>
  (if y1 = 0 then
  b_Mod_oddOnes_24 F rec_4 x2 0 x1 m2
  else
  b_Mod_oddOnes_24 F rec_4 x2 1 x1 m2
  )
  )
theorem tb_Mod_oddOnes_4 {K : aK} {d bc bs : Nat} {g : aG} (s : SyM g) {Q : aQ} {r : Int32} {m' : aM} (F : Nat) (rec_4 : Int32 → Int32 → aM → Option (Int32 × aM)) (hr_4 : ∀ (x1 : Int32) (x2 : Int32) (m : aM), rec_4 x1 x2 m = some (r, m') → G K M_Mod_oddOnes d bc bs 4 [.ref 242, .int x1, .int x2] [] (g, m) Q) (x1 : Int32) (x2 : Int32) (m : aM) (hq : Q (.inl (some (.int r))) (g, m')) (e : lb_Mod_oddOnes_4 F rec_4 x1 x2 m = some (r, m')) (hd : 401 ≤ d) : G K M_Mod_oddOnes d bc bs 4 [.ref 242, .int x1, .int x2] [] (g, m) Q := by
  unfold lb_Mod_oddOnes_4 at e
  refine g_iload_n k_Mod_oddOnes_4 rfl rfl ?_
  refine g_bipush (v := 40) k_Mod_oddOnes_5 rfl ?_
  refine g_icmp_ge (tgt := 32) k_Mod_oddOnes_7 (by decide) (fun c => ?_) (fun c => ?_)
  · rw [if_pos c] at e
    refine g_iload_n k_Mod_oddOnes_32 rfl rfl ?_
    refine g_iret k_Mod_oddOnes_33 rfl ?_
    exact (by cases e; exact hq)
  · rw [if_neg c] at e
    refine g_iload_n k_Mod_oddOnes_10 rfl rfl ?_
    refine g_aload_n k_Mod_oddOnes_11 rfl rfl ?_
    refine g_iload_n k_Mod_oddOnes_12 rfl rfl ?_
    obtain ⟨y1, m2, e_y1, e⟩ := o_b2_ex e
    refine g_cv k_Mod_oddOnes_13 lv_Mod_348 (by decide +kernel) (T := F_Mod) (N := 61) (ci := 10) rfl (sk_Mod s) (s_Mod_isOdd (bc := 0) (bs := 0) s F x2 m e_y1 (by omega)) rfl rfl (Nat.le_of_ble_eq_true rfl) (by simp [Value.category]) (by omega) (by omega) (by omega) ?_
    refine g_if_eq (tgt := 23) k_Mod_oddOnes_16 (by decide) (fun c => ?_) (fun c => ?_)
    · rw [if_pos c] at e
      refine g_iconst (v := 0) k_Mod_oddOnes_23 rfl ?_
      exact G.wl (wls (wld (wls wl0))) (t_Mod_oddOnes_24 s F rec_4 hr_4 x2 0 x1 m2 hq e hd)
    · rw [if_neg c] at e
      refine g_iconst (v := 1) k_Mod_oddOnes_19 rfl ?_
      refine g_goto (tgt := 24) k_Mod_oddOnes_20 (by decide) ?_
      exact G.wl (wls (wld (wls wl0))) (t_Mod_oddOnes_24 s F rec_4 hr_4 x2 1 x1 m2 hq e hd)
def ll_Mod_oddOnes_4 (F : Nat) : Nat → Int32 → Int32 → aM → Option (Int32 × aM)
  | 0, _, _, _ => none
  | N + 1, x1, x2, m => lb_Mod_oddOnes_4 F (ll_Mod_oddOnes_4 F N) x1 x2 m
theorem t_Mod_oddOnes_4 {K : aK} {d bc bs : Nat} {g : aG} (s : SyM g) {Q : aQ} {r : Int32} {m' : aM} (F : Nat) : ∀ (N : Nat) (x1 : Int32) (x2 : Int32) (m : aM), Q (.inl (some (.int r))) (g, m') → ll_Mod_oddOnes_4 F N x1 x2 m = some (r, m') → 401 ≤ d → G K M_Mod_oddOnes d bc bs 4 [.ref 242, .int x1, .int x2] [] (g, m) Q
  | 0, _, _, _ => fun _ e => nomatch e
  | N + 1, x1, x2, m => fun hq e hd => tb_Mod_oddOnes_4 s F (ll_Mod_oddOnes_4 F N) (fun x1 x2 m e => t_Mod_oddOnes_4 s F N x1 x2 m hq e hd) x1 x2 m hq e hd
def f_Mod_oddOnes (F : Nat)  (m : aM) : Option (Int32 × aM) :=
  ll_Mod_oddOnes_4 F F 0 0 m
theorem s_Mod_oddOnes {K : aK} {d bc bs : Nat} {g : aG} (s : SyM g) (F : Nat)  (m : aM) {r : Int32} {m' : aM} (e : f_Mod_oddOnes F  m = some (r, m')) (hd : 401 ≤ d) : Sp K M_Mod_oddOnes d bc bs [.ref 242] (g, m) (some (.int r)) (g, m') := by
  refine sp_of ok_Mod_oddOnes rfl (Nat.le_of_ble_eq_true rfl) (by simp [Value.category]) (fun Q hq => ?_)
  unfold f_Mod_oddOnes at e
  refine g_iconst (v := 0) k_Mod_oddOnes_0 rfl ?_
  refine g_istore_n k_Mod_oddOnes_1 rfl (by decide) ?_
  refine g_iconst (v := 0) k_Mod_oddOnes_2 rfl ?_
  refine g_istore_n k_Mod_oddOnes_3 rfl (by decide) ?_
  exact (t_Mod_oddOnes_4 s F F 0 0 m hq e hd)
def b_Mod_isAskedFrom_28 (x1 : Int32) (x2 : Int32) (x3 : Int32) (m : aM) : Option Int32 :=
  o_gd (inb x1 8) <|
  o_gd (inb x2 4) <|
  o_let ((m (8669 + 3 * x1.toNatClampNeg + 0) x2.toNatClampNeg)) fun y3 =>
  (if y3 = (-1) then
  some 0
  else
  o_gd (inb x1 8) <|
  o_gd (inb x2 4) <|
  o_let ((m (8669 + 3 * x1.toNatClampNeg + 0) x2.toNatClampNeg)) fun y6 =>
  (if y6 < x3 then
  some 0
  else
  some 1
  )
  )
theorem t_Mod_isAskedFrom_28 {K : aK} {d bc bs : Nat} {g : aG} (s : SyM g) {Q : aQ} {r : Int32} (m : aM) (x1 : Int32) (x2 : Int32) (x3 : Int32) (hq : Q (.inl (some (.int r))) (g, m)) (e : b_Mod_isAskedFrom_28 x1 x2 x3 m = some r) : G K M_Mod_isAskedFrom d bc bs 28 [.ref 242, .int x1, .int x2, .int x3] [] (g, m) Q := by
  unfold b_Mod_isAskedFrom_28 at e
  refine g_aload_n k_Mod_isAskedFrom_28 rfl rfl ?_
  refine p_getr k_Mod_isAskedFrom_29 fl_Mod_128 rfl (sk_Mod s) (by decide) (sr_Mod_60 s) ?_
  refine g_iload_n k_Mod_isAskedFrom_32 rfl rfl ?_
  obtain ⟨q1, e⟩ := o_gd_ex e
  refine p_aald k_Mod_isAskedFrom_33 (sa_Mod_60 s) (by decide) (by decide) (inb_in q1) (j := x1.toNatClampNeg) rfl (si_Mod_60 s _ (vp_lt (inb_in q1))).1 ?_
  refine g_iconst (v := 0) k_Mod_isAskedFrom_34 rfl ?_
  refine p_aald k_Mod_isAskedFrom_35 (si_Mod_60 s _ (vp_lt (inb_in q1))).2 (by decide) (by decide) (vp_in_nI (n := 0) (N := 2) (by decide) (by decide)) (j := 0) rfl (sj_Mod_60 s _ _ (vp_lt (inb_in q1)) (vp_lt (vp_in_nI (n := 0) (N := 2) (by decide) (by decide)))).1 ?_
  refine g_iload_n k_Mod_isAskedFrom_36 rfl rfl ?_
  obtain ⟨q2, e⟩ := o_gd_ex e
  refine p_iald k_Mod_isAskedFrom_37 (sj_Mod_60 s _ _ (vp_lt (inb_in q1)) (vp_lt (vp_in_nI (n := 0) (N := 2) (by decide) (by decide)))).2 (inb_in q2) (j := x2.toNatClampNeg) rfl ?_
  obtain ⟨y3, u_y3, e⟩ := o_let_ex e
  refine G.vy u_y3 ?_
  refine g_iconst (v := (-1)) k_Mod_isAskedFrom_38 rfl ?_
  refine g_icmp_eq (tgt := 60) k_Mod_isAskedFrom_39 (by decide) (fun c => ?_) (fun c => ?_)
  · rw [if_pos c] at e
    refine g_iconst (v := 0) k_Mod_isAskedFrom_60 rfl ?_
    refine g_zret k_Mod_isAskedFrom_61 rfl (by decide) ?_
    exact (by cases e; exact hq)
  · rw [if_neg c] at e
    refine g_aload_n k_Mod_isAskedFrom_42 rfl rfl ?_
    refine p_getr k_Mod_isAskedFrom_43 fl_Mod_128 rfl (sk_Mod s) (by decide) (sr_Mod_60 s) ?_
    refine g_iload_n k_Mod_isAskedFrom_46 rfl rfl ?_
    obtain ⟨q4, e⟩ := o_gd_ex e
    refine p_aald k_Mod_isAskedFrom_47 (sa_Mod_60 s) (by decide) (by decide) (inb_in q4) (j := x1.toNatClampNeg) rfl (si_Mod_60 s _ (vp_lt (inb_in q4))).1 ?_
    refine g_iconst (v := 0) k_Mod_isAskedFrom_48 rfl ?_
    refine p_aald k_Mod_isAskedFrom_49 (si_Mod_60 s _ (vp_lt (inb_in q4))).2 (by decide) (by decide) (vp_in_nI (n := 0) (N := 2) (by decide) (by decide)) (j := 0) rfl (sj_Mod_60 s _ _ (vp_lt (inb_in q4)) (vp_lt (vp_in_nI (n := 0) (N := 2) (by decide) (by decide)))).1 ?_
    refine g_iload_n k_Mod_isAskedFrom_50 rfl rfl ?_
    obtain ⟨q5, e⟩ := o_gd_ex e
    refine p_iald k_Mod_isAskedFrom_51 (sj_Mod_60 s _ _ (vp_lt (inb_in q4)) (vp_lt (vp_in_nI (n := 0) (N := 2) (by decide) (by decide)))).2 (inb_in q5) (j := x2.toNatClampNeg) rfl ?_
    obtain ⟨y6, u_y6, e⟩ := o_let_ex e
    refine G.vy u_y6 ?_
    refine g_iload_n k_Mod_isAskedFrom_52 rfl rfl ?_
    refine g_icmp_lt (tgt := 60) k_Mod_isAskedFrom_53 (by decide) (fun c => ?_) (fun c => ?_)
    · rw [if_pos c] at e
      refine g_iconst (v := 0) k_Mod_isAskedFrom_60 rfl ?_
      refine g_zret k_Mod_isAskedFrom_61 rfl (by decide) ?_
      exact (by cases e; exact hq)
    · rw [if_neg c] at e
      refine g_iconst (v := 1) k_Mod_isAskedFrom_56 rfl ?_
      refine g_goto (tgt := 61) k_Mod_isAskedFrom_57 (by decide) ?_
      refine g_zret k_Mod_isAskedFrom_61 rfl (by decide) ?_
      exact (by cases e; exact hq)
def f_Mod_isAskedFrom (x1 : Int32) (x2 : Int32) (x3 : Int32) (m : aM) : Option Int32 :=
  o_gd (inb x1 8) <|
  o_gd (inb x2 4) <|
  o_let ((m (8644 + 3 * x1.toNatClampNeg + 0) x2.toNatClampNeg)) fun y3 =>
  (if y3 = (-1) then
  b_Mod_isAskedFrom_28 x1 x2 x3 m
  else
  o_gd (inb x1 8) <|
  o_gd (inb x2 4) <|
  o_let ((m (8644 + 3 * x1.toNatClampNeg + 0) x2.toNatClampNeg)) fun y6 =>
  (if x3 ≤ y6 then
  some 1
  else
  b_Mod_isAskedFrom_28 x1 x2 x3 m
  )
  )
theorem s_Mod_isAskedFrom {K : aK} {d bc bs : Nat} {g : aG} (s : SyM g) (x1 : Int32) (x2 : Int32) (x3 : Int32) (m : aM) {r : Int32} (e : f_Mod_isAskedFrom x1 x2 x3 m = some r) : Sp K M_Mod_isAskedFrom d bc bs [.ref 242, .int x1, .int x2, .int x3] (g, m) (some (.int r)) (g, m) := by
  refine sp_of ok_Mod_isAskedFrom rfl (Nat.le_of_ble_eq_true rfl) (by simp [Value.category]) (fun Q hq => ?_)
  unfold f_Mod_isAskedFrom at e
  refine g_aload_n k_Mod_isAskedFrom_0 rfl rfl ?_
  refine p_getr k_Mod_isAskedFrom_1 fl_Mod_125 rfl (sk_Mod s) (by decide) (sr_Mod_59 s) ?_
  refine g_iload_n k_Mod_isAskedFrom_4 rfl rfl ?_
  obtain ⟨q1, e⟩ := o_gd_ex e
  refine p_aald k_Mod_isAskedFrom_5 (sa_Mod_59 s) (by decide) (by decide) (inb_in q1) (j := x1.toNatClampNeg) rfl (si_Mod_59 s _ (vp_lt (inb_in q1))).1 ?_
  refine g_iconst (v := 0) k_Mod_isAskedFrom_6 rfl ?_
  refine p_aald k_Mod_isAskedFrom_7 (si_Mod_59 s _ (vp_lt (inb_in q1))).2 (by decide) (by decide) (vp_in_nI (n := 0) (N := 2) (by decide) (by decide)) (j := 0) rfl (sj_Mod_59 s _ _ (vp_lt (inb_in q1)) (vp_lt (vp_in_nI (n := 0) (N := 2) (by decide) (by decide)))).1 ?_
  refine g_iload_n k_Mod_isAskedFrom_8 rfl rfl ?_
  obtain ⟨q2, e⟩ := o_gd_ex e
  refine p_iald k_Mod_isAskedFrom_9 (sj_Mod_59 s _ _ (vp_lt (inb_in q1)) (vp_lt (vp_in_nI (n := 0) (N := 2) (by decide) (by decide)))).2 (inb_in q2) (j := x2.toNatClampNeg) rfl ?_
  obtain ⟨y3, u_y3, e⟩ := o_let_ex e
  refine G.vy u_y3 ?_
  refine g_iconst (v := (-1)) k_Mod_isAskedFrom_10 rfl ?_
  refine g_icmp_eq (tgt := 28) k_Mod_isAskedFrom_11 (by decide) (fun c => ?_) (fun c => ?_)
  · rw [if_pos c] at e
    exact (t_Mod_isAskedFrom_28 s m x1 x2 x3  hq e)
  · rw [if_neg c] at e
    refine g_aload_n k_Mod_isAskedFrom_14 rfl rfl ?_
    refine p_getr k_Mod_isAskedFrom_15 fl_Mod_125 rfl (sk_Mod s) (by decide) (sr_Mod_59 s) ?_
    refine g_iload_n k_Mod_isAskedFrom_18 rfl rfl ?_
    obtain ⟨q4, e⟩ := o_gd_ex e
    refine p_aald k_Mod_isAskedFrom_19 (sa_Mod_59 s) (by decide) (by decide) (inb_in q4) (j := x1.toNatClampNeg) rfl (si_Mod_59 s _ (vp_lt (inb_in q4))).1 ?_
    refine g_iconst (v := 0) k_Mod_isAskedFrom_20 rfl ?_
    refine p_aald k_Mod_isAskedFrom_21 (si_Mod_59 s _ (vp_lt (inb_in q4))).2 (by decide) (by decide) (vp_in_nI (n := 0) (N := 2) (by decide) (by decide)) (j := 0) rfl (sj_Mod_59 s _ _ (vp_lt (inb_in q4)) (vp_lt (vp_in_nI (n := 0) (N := 2) (by decide) (by decide)))).1 ?_
    refine g_iload_n k_Mod_isAskedFrom_22 rfl rfl ?_
    obtain ⟨q5, e⟩ := o_gd_ex e
    refine p_iald k_Mod_isAskedFrom_23 (sj_Mod_59 s _ _ (vp_lt (inb_in q4)) (vp_lt (vp_in_nI (n := 0) (N := 2) (by decide) (by decide)))).2 (inb_in q5) (j := x2.toNatClampNeg) rfl ?_
    obtain ⟨y6, u_y6, e⟩ := o_let_ex e
    refine G.vy u_y6 ?_
    refine g_iload_n k_Mod_isAskedFrom_24 rfl rfl ?_
    refine g_icmp_ge (tgt := 56) k_Mod_isAskedFrom_25 (by decide) (fun c => ?_) (fun c => ?_)
    · rw [if_pos c] at e
      refine g_iconst (v := 1) k_Mod_isAskedFrom_56 rfl ?_
      refine g_goto (tgt := 61) k_Mod_isAskedFrom_57 (by decide) ?_
      refine g_zret k_Mod_isAskedFrom_61 rfl (by decide) ?_
      exact (by cases e; exact hq)
    · rw [if_neg c] at e
      exact (t_Mod_isAskedFrom_28 s m x1 x2 x3  hq e)
def lb_Mod_isQuiet_10 (F : Nat) (rec_2 : Int32 → aM → Option Int32) (rec_10 : Int32 → Int32 → aM → Option Int32) (x1 : Int32) (x2 : Int32) (m : aM) : Option Int32 :=
  (if 4 ≤ x2 then
  rec_2 (x1 + 1) m
  else
  o_b (f_Mod_isAskedFrom x1 x2 ((m 242 46) - (m 242 48)) m) fun y1 =>
  (if y1 = 0 then
  rec_10 x1 (x2 + 1) m
  else
  some 0
  )
  )
theorem tb_Mod_isQuiet_10 {K : aK} {d bc bs : Nat} {g : aG} (s : SyM g) {Q : aQ} {r : Int32} (F : Nat) (m : aM) (rec_2 : Int32 → aM → Option Int32) (hr_2 : ∀ (x1 : Int32), rec_2 x1 m = some r → G K M_Mod_isQuiet d bc bs 2 [.ref 242, .int x1, .double 0] [] (g, m) Q) (rec_10 : Int32 → Int32 → aM → Option Int32) (hr_10 : ∀ (x1 : Int32) (x2 : Int32), rec_10 x1 x2 m = some r → G K M_Mod_isQuiet d bc bs 10 [.ref 242, .int x1, .int x2] [] (g, m) Q) (x1 : Int32) (x2 : Int32) (hq : Q (.inl (some (.int r))) (g, m)) (e : lb_Mod_isQuiet_10 F rec_2 rec_10 x1 x2 m = some r) (hd : 1 ≤ d) : G K M_Mod_isQuiet d bc bs 10 [.ref 242, .int x1, .int x2] [] (g, m) Q := by
  unfold lb_Mod_isQuiet_10 at e
  refine g_iload_n k_Mod_isQuiet_10 rfl rfl ?_
  refine g_iconst (v := 4) k_Mod_isQuiet_11 rfl ?_
  refine g_icmp_ge (tgt := 41) k_Mod_isQuiet_12 (by decide) (fun c => ?_) (fun c => ?_)
  · rw [if_pos c] at e
    refine g_iinc (v := _ + 1) k_Mod_isQuiet_41 rfl rfl (by decide) ?_
    refine g_goto (tgt := 2) k_Mod_isQuiet_44 (by decide) ?_
    exact G.wl (wls (wls (wld wl0))) (hr_2 (x1 + 1)  e)
  · rw [if_neg c] at e
    refine g_aload_n k_Mod_isQuiet_15 rfl rfl ?_
    refine g_iload_n k_Mod_isQuiet_16 rfl rfl ?_
    refine g_iload_n k_Mod_isQuiet_17 rfl rfl ?_
    refine g_aload_n k_Mod_isQuiet_18 rfl rfl ?_
    refine p_geti k_Mod_isQuiet_19 fl_Mod_351 rfl (sk_Mod s) (by decide) ?_
    refine g_aload_n k_Mod_isQuiet_22 rfl rfl ?_
    refine p_geti k_Mod_isQuiet_23 fl_Mod_93 rfl (sk_Mod s) (by decide) ?_
    refine g_isub k_Mod_isQuiet_26 ?_
    obtain ⟨y1, e_y1, e⟩ := o_b_ex e
    refine g_cv k_Mod_isQuiet_27 lv_Mod_354 (by decide +kernel) (T := F_Mod) (N := 61) (ci := 10) rfl (sk_Mod s) (s_Mod_isAskedFrom (bc := 0) (bs := 0) s x1 x2 ((m 242 46) - (m 242 48)) m e_y1) rfl rfl (Nat.le_of_ble_eq_true rfl) (by simp [Value.category]) (by omega) (by omega) (by omega) ?_
    refine g_if_eq (tgt := 35) k_Mod_isQuiet_30 (by decide) (fun c => ?_) (fun c => ?_)
    · rw [if_pos c] at e
      refine g_iinc (v := _ + 1) k_Mod_isQuiet_35 rfl rfl (by decide) ?_
      refine g_goto (tgt := 10) k_Mod_isQuiet_38 (by decide) ?_
      exact (hr_10 x1 (x2 + 1)  e)
    · rw [if_neg c] at e
      refine g_iconst (v := 0) k_Mod_isQuiet_33 rfl ?_
      refine g_zret k_Mod_isQuiet_34 rfl (by decide) ?_
      exact (by cases e; exact hq)
def ll_Mod_isQuiet_10 (F : Nat) (rec_2 : Int32 → aM → Option Int32) : Nat → Int32 → Int32 → aM → Option Int32
  | 0, _, _, _ => none
  | N + 1, x1, x2, m => lb_Mod_isQuiet_10 F rec_2 (ll_Mod_isQuiet_10 F rec_2 N) x1 x2 m
theorem t_Mod_isQuiet_10 {K : aK} {d bc bs : Nat} {g : aG} (s : SyM g) {Q : aQ} {r : Int32} (F : Nat) (m : aM) (rec_2 : Int32 → aM → Option Int32) (hr_2 : ∀ (x1 : Int32), rec_2 x1 m = some r → G K M_Mod_isQuiet d bc bs 2 [.ref 242, .int x1, .double 0] [] (g, m) Q) : ∀ (N : Nat) (x1 : Int32) (x2 : Int32), Q (.inl (some (.int r))) (g, m) → ll_Mod_isQuiet_10 F rec_2 N x1 x2 m = some r → 1 ≤ d → G K M_Mod_isQuiet d bc bs 10 [.ref 242, .int x1, .int x2] [] (g, m) Q
  | 0, _, _ => fun _ e => nomatch e
  | N + 1, x1, x2 => fun hq e hd => tb_Mod_isQuiet_10 s F m rec_2 hr_2 (ll_Mod_isQuiet_10 F rec_2 N) (fun x1 x2 e => t_Mod_isQuiet_10 s F m rec_2 hr_2 N x1 x2 hq e hd) x1 x2 hq e hd
def lb_Mod_isQuiet_2 (F : Nat) (rec_2 : Int32 → aM → Option Int32) (x1 : Int32) (m : aM) : Option Int32 :=
  (if 8 ≤ x1 then
  some 1
  else
  ll_Mod_isQuiet_10 F rec_2 F x1 0 m
  )
theorem tb_Mod_isQuiet_2 {K : aK} {d bc bs : Nat} {g : aG} (s : SyM g) {Q : aQ} {r : Int32} (F : Nat) (m : aM) (rec_2 : Int32 → aM → Option Int32) (hr_2 : ∀ (x1 : Int32), rec_2 x1 m = some r → G K M_Mod_isQuiet d bc bs 2 [.ref 242, .int x1, .double 0] [] (g, m) Q) (x1 : Int32) (hq : Q (.inl (some (.int r))) (g, m)) (e : lb_Mod_isQuiet_2 F rec_2 x1 m = some r) (hd : 1 ≤ d) : G K M_Mod_isQuiet d bc bs 2 [.ref 242, .int x1, .double 0] [] (g, m) Q := by
  unfold lb_Mod_isQuiet_2 at e
  refine g_iload_n k_Mod_isQuiet_2 rfl rfl ?_
  refine g_bipush (v := 8) k_Mod_isQuiet_3 rfl ?_
  refine g_icmp_ge (tgt := 47) k_Mod_isQuiet_5 (by decide) (fun c => ?_) (fun c => ?_)
  · rw [if_pos c] at e
    refine g_iconst (v := 1) k_Mod_isQuiet_47 rfl ?_
    refine g_zret k_Mod_isQuiet_48 rfl (by decide) ?_
    exact (by cases e; exact hq)
  · rw [if_neg c] at e
    refine g_iconst (v := 0) k_Mod_isQuiet_8 rfl ?_
    refine g_istore_n k_Mod_isQuiet_9 rfl (by decide) ?_
    exact (t_Mod_isQuiet_10 s F m rec_2 hr_2 F x1 0  hq e hd)
def ll_Mod_isQuiet_2 (F : Nat) : Nat → Int32 → aM → Option Int32
  | 0, _, _ => none
  | N + 1, x1, m => lb_Mod_isQuiet_2 F (ll_Mod_isQuiet_2 F N) x1 m
theorem t_Mod_isQuiet_2 {K : aK} {d bc bs : Nat} {g : aG} (s : SyM g) {Q : aQ} {r : Int32} (F : Nat) (m : aM) : ∀ (N : Nat) (x1 : Int32), Q (.inl (some (.int r))) (g, m) → ll_Mod_isQuiet_2 F N x1 m = some r → 1 ≤ d → G K M_Mod_isQuiet d bc bs 2 [.ref 242, .int x1, .double 0] [] (g, m) Q
  | 0, _ => fun _ e => nomatch e
  | N + 1, x1 => fun hq e hd => tb_Mod_isQuiet_2 s F m (ll_Mod_isQuiet_2 F N) (fun x1 e => t_Mod_isQuiet_2 s F m N x1 hq e hd) x1 hq e hd
def f_Mod_isQuiet (F : Nat)  (m : aM) : Option Int32 :=
  ll_Mod_isQuiet_2 F F 0 m
theorem s_Mod_isQuiet {K : aK} {d bc bs : Nat} {g : aG} (s : SyM g) (F : Nat)  (m : aM) {r : Int32} (e : f_Mod_isQuiet F  m = some r) (hd : 1 ≤ d) : Sp K M_Mod_isQuiet d bc bs [.ref 242] (g, m) (some (.int r)) (g, m) := by
  refine sp_of ok_Mod_isQuiet rfl (Nat.le_of_ble_eq_true rfl) (by simp [Value.category]) (fun Q hq => ?_)
  unfold f_Mod_isQuiet at e
  refine g_iconst (v := 0) k_Mod_isQuiet_0 rfl ?_
  refine g_istore_n k_Mod_isQuiet_1 rfl (by decide) ?_
  exact (t_Mod_isQuiet_2 s F m F 0  hq e hd)
def lb_Mod_go_118 (F : Nat) (rec_118 : Int32 → aM → Option (Int32 × aM)) (x1 : Int32) (m : aM) : Option (Int32 × aM) :=
  (if 40 ≤ x1 then
  some (1, m)
  else
  (if (m 242 45) = 5 then
  o_gd (inb x1 40) <|
  o_let (a_st m 8475 x1.toNatClampNeg 2) fun m2 =>
  rec_118 (x1 + 1) m2
  else
  some (1, m)
  )
  )
theorem tb_Mod_go_118 {K : aK} {d bc bs : Nat} {g : aG} (s : SyM g) {Q : aQ} {r : Int32} {m' : aM} (F : Nat) (rec_118 : Int32 → aM → Option (Int32 × aM)) (hr_118 : ∀ (x1 : Int32) (m : aM), rec_118 x1 m = some (r, m') → G K M_Mod_go d bc bs 118 [.ref 242, .int x1] [] (g, m) Q) (x1 : Int32) (m : aM) (hq : Q (.inl (some (.int r))) (g, m')) (e : lb_Mod_go_118 F rec_118 x1 m = some (r, m')) (hd : 402 ≤ d) : G K M_Mod_go d bc bs 118 [.ref 242, .int x1] [] (g, m) Q := by
  unfold lb_Mod_go_118 at e
  refine g_iload_n k_Mod_go_118 rfl rfl ?_
  refine g_bipush (v := 40) k_Mod_go_119 rfl ?_
  refine g_icmp_ge (tgt := 145) k_Mod_go_121 (by decide) (fun c => ?_) (fun c => ?_)
  · rw [if_pos c] at e
    refine g_iconst (v := 1) k_Mod_go_145 rfl ?_
    refine g_iret k_Mod_go_146 rfl ?_
    exact (by cases e; exact hq)
  · rw [if_neg c] at e
    refine g_aload_n k_Mod_go_124 rfl rfl ?_
    refine p_geti k_Mod_go_125 fl_Mod_244 rfl (sk_Mod s) (by decide) ?_
    refine g_iconst (v := 5) k_Mod_go_128 rfl ?_
    refine g_icmp_ne (tgt := 145) k_Mod_go_129 (by decide) (fun c => ?_) (fun c => ?_)
    · rw [if_pos c] at e
      refine g_aload_n k_Mod_go_132 rfl rfl ?_
      refine p_getr k_Mod_go_133 fl_Mod_102 rfl (sk_Mod s) (by decide) (sr_Mod_52 s) ?_
      refine g_iload_n k_Mod_go_136 rfl rfl ?_
      refine g_iconst (v := 2) k_Mod_go_137 rfl ?_
      obtain ⟨q1, e⟩ := o_gd_ex e
      refine p_iast k_Mod_go_138 (sa_Mod_52 s) (inb_in q1) (j := x1.toNatClampNeg) rfl ?_
      obtain ⟨m2, u_m2, e⟩ := o_let_ex e
      refine G.hm u_m2 ?_
      refine g_iinc (v := _ + 1) k_Mod_go_139 rfl rfl (by decide) ?_
      refine g_goto (tgt := 118) k_Mod_go_142 (by decide) ?_
      exact (hr_118 (x1 + 1) m2 e)
    · rw [if_neg c] at e
      refine g_iconst (v := 1) k_Mod_go_145 rfl ?_
      refine g_iret k_Mod_go_146 rfl ?_
      exact (by cases e; exact hq)
def ll_Mod_go_118 (F : Nat) : Nat → Int32 → aM → Option (Int32 × aM)
  | 0, _, _ => none
  | N + 1, x1, m => lb_Mod_go_118 F (ll_Mod_go_118 F N) x1 m
theorem t_Mod_go_118 {K : aK} {d bc bs : Nat} {g : aG} (s : SyM g) {Q : aQ} {r : Int32} {m' : aM} (F : Nat) : ∀ (N : Nat) (x1 : Int32) (m : aM), Q (.inl (some (.int r))) (g, m') → ll_Mod_go_118 F N x1 m = some (r, m') → 402 ≤ d → G K M_Mod_go d bc bs 118 [.ref 242, .int x1] [] (g, m) Q
  | 0, _, _ => fun _ e => nomatch e
  | N + 1, x1, m => fun hq e hd => tb_Mod_go_118 s F (ll_Mod_go_118 F N) (fun x1 m e => t_Mod_go_118 s F N x1 m hq e hd) x1 m hq e hd
def b_Mod_go_106 (F : Nat)  (m : aM) : Option (Int32 × aM) :=
  o_let (a_st m 242 45 ((m 242 45) + 1)) fun m1 =>
  ll_Mod_go_118 F F 0 m1
theorem t_Mod_go_106 {K : aK} {d bc bs : Nat} {g : aG} (s : SyM g) {Q : aQ} {r : Int32} {m' : aM} (F : Nat)  (m : aM) (hq : Q (.inl (some (.int r))) (g, m')) (e : b_Mod_go_106 F  m = some (r, m')) (hd : 402 ≤ d) : G K M_Mod_go d bc bs 106 [.ref 242, .double 0] [] (g, m) Q := by
  unfold b_Mod_go_106 at e
  refine g_aload_n k_Mod_go_106 rfl rfl ?_
  refine g_dup k_Mod_go_107 rfl ?_
  refine p_geti k_Mod_go_108 fl_Mod_244 rfl (sk_Mod s) (by decide) ?_
  refine g_iconst (v := 1) k_Mod_go_111 rfl ?_
  refine g_iadd k_Mod_go_112 ?_
  refine p_puti k_Mod_go_113 fl_Mod_244 rfl ⟨R_Mod, F_Mod, 61, rfl, Or.inl rfl⟩ (sk_Mod s) (by decide) ?_
  obtain ⟨m1, u_m1, e⟩ := o_let_ex e
  refine G.hm u_m1 ?_
  refine g_iconst (v := 0) k_Mod_go_116 rfl ?_
  refine g_istore_n k_Mod_go_117 rfl (by decide) ?_
  exact (t_Mod_go_118 s F F 0 m1 hq e hd)
def b_Mod_go_73 (F : Nat)  (m : aM) : Option (Int32 × aM) :=
  (if (m 242 45) = 4 then
  o_b (f_Mod_many F 0 m) fun y1 =>
  (if 0 < y1 then
  some (0, m)
  else
  o_b (f_Mod_many F 3 m) fun y2 =>
  (if 0 < y2 then
  some (0, m)
  else
  o_b (f_Mod_isQuiet F  m) fun y3 =>
  (if y3 = 0 then
  some (0, m)
  else
  b_Mod_go_106 F  m
  )
  )
  )
  else
  b_Mod_go_106 F  m
  )
theorem t_Mod_go_73 {K : aK} {d bc bs : Nat} {g : aG} (s : SyM g) {Q : aQ} {r : Int32} {m' : aM} (F : Nat)  (m : aM) (hq : Q (.inl (some (.int r))) (g, m')) (e : b_Mod_go_73 F  m = some (r, m')) (hd : 402 ≤ d) : G K M_Mod_go d bc bs 73 [.ref 242, .double 0] [] (g, m) Q := by
  unfold b_Mod_go_73 at e
  refine g_aload_n k_Mod_go_73 rfl rfl ?_
  refine p_geti k_Mod_go_74 fl_Mod_244 rfl (sk_Mod s) (by decide) ?_
  refine g_iconst (v := 4) k_Mod_go_77 rfl ?_
  refine g_icmp_ne (tgt := 106) k_Mod_go_78 (by decide) (fun c => ?_) (fun c => ?_)
  · rw [if_pos c] at e
    refine g_aload_n k_Mod_go_81 rfl rfl ?_
    refine g_iconst (v := 0) k_Mod_go_82 rfl ?_
    obtain ⟨y1, e_y1, e⟩ := o_b_ex e
    refine g_cv k_Mod_go_83 lv_Mod_357 (by decide +kernel) (T := F_Mod) (N := 61) (ci := 10) rfl (sk_Mod s) (s_Mod_many (bc := 0) (bs := 0) s F 0 m e_y1) rfl rfl (Nat.le_of_ble_eq_true rfl) (by simp [Value.category]) (by omega) (by omega) (by omega) ?_
    refine g_if_gt (tgt := 104) k_Mod_go_86 (by decide) (fun c => ?_) (fun c => ?_)
    · rw [if_pos c] at e
      refine g_iconst (v := 0) k_Mod_go_104 rfl ?_
      refine g_iret k_Mod_go_105 rfl ?_
      exact (by cases e; exact hq)
    · rw [if_neg c] at e
      refine g_aload_n k_Mod_go_89 rfl rfl ?_
      refine g_iconst (v := 3) k_Mod_go_90 rfl ?_
      obtain ⟨y2, e_y2, e⟩ := o_b_ex e
      refine g_cv k_Mod_go_91 lv_Mod_357 (by decide +kernel) (T := F_Mod) (N := 61) (ci := 10) rfl (sk_Mod s) (s_Mod_many (bc := 0) (bs := 0) s F 3 m e_y2) rfl rfl (Nat.le_of_ble_eq_true rfl) (by simp [Value.category]) (by omega) (by omega) (by omega) ?_
      refine g_if_gt (tgt := 104) k_Mod_go_94 (by decide) (fun c => ?_) (fun c => ?_)
      · rw [if_pos c] at e
        refine g_iconst (v := 0) k_Mod_go_104 rfl ?_
        refine g_iret k_Mod_go_105 rfl ?_
        exact (by cases e; exact hq)
      · rw [if_neg c] at e
        refine g_aload_n k_Mod_go_97 rfl rfl ?_
        obtain ⟨y3, e_y3, e⟩ := o_b_ex e
        refine g_cv k_Mod_go_98 lv_Mod_366 (by decide +kernel) (T := F_Mod) (N := 61) (ci := 10) rfl (sk_Mod s) (s_Mod_isQuiet (bc := 0) (bs := 0) s F  m e_y3 (by omega)) rfl rfl (Nat.le_of_ble_eq_true rfl) (by simp [Value.category]) (by omega) (by omega) (by omega) ?_
        refine g_if_ne (tgt := 106) k_Mod_go_101 (by decide) (fun c => ?_) (fun c => ?_)
        · rw [if_pos c] at e
          refine g_iconst (v := 0) k_Mod_go_104 rfl ?_
          refine g_iret k_Mod_go_105 rfl ?_
          exact (by cases e; exact hq)
        · rw [if_neg c] at e
          exact (t_Mod_go_106 s F  m hq e hd)
  · rw [if_neg c] at e
    exact (t_Mod_go_106 s F  m hq e hd)
def b_Mod_go_33 (F : Nat)  (m : aM) : Option (Int32 × aM) :=
  (if (m 242 45) = 3 then
  o_b (f_Mod_many F 0 m) fun y1 =>
  (if 0 < y1 then
  some (0, m)
  else
  o_b (f_Mod_many F 3 m) fun y2 =>
  (if 0 < y2 then
  some (0, m)
  else
  o_b (f_Mod_brokenOnes F  m) fun y3 =>
  (if 0 < y3 then
  some (0, m)
  else
  o_b2 (f_Mod_oddOnes F  m) fun y4 m5 =>
  (if y4 ≤ 0 then
  b_Mod_go_73 F  m5
  else
  some (0, m5)
  )
  )
  )
  )
  else
  b_Mod_go_73 F  m
  )
theorem t_Mod_go_33 {K : aK} {d bc bs : Nat} {g : aG} (s : SyM g) {Q : aQ} {r : Int32} {m' : aM} (F : Nat)  (m : aM) (hq : Q (.inl (some (.int r))) (g, m')) (e : b_Mod_go_33 F  m = some (r, m')) (hd : 402 ≤ d) : G K M_Mod_go d bc bs 33 [.ref 242, .double 0] [] (g, m) Q := by
  unfold b_Mod_go_33 at e
  refine g_aload_n k_Mod_go_33 rfl rfl ?_
  refine p_geti k_Mod_go_34 fl_Mod_244 rfl (sk_Mod s) (by decide) ?_
  refine g_iconst (v := 3) k_Mod_go_37 rfl ?_
  refine g_icmp_ne (tgt := 73) k_Mod_go_38 (by decide) (fun c => ?_) (fun c => ?_)
  · rw [if_pos c] at e
    refine g_aload_n k_Mod_go_41 rfl rfl ?_
    refine g_iconst (v := 0) k_Mod_go_42 rfl ?_
    obtain ⟨y1, e_y1, e⟩ := o_b_ex e
    refine g_cv k_Mod_go_43 lv_Mod_357 (by decide +kernel) (T := F_Mod) (N := 61) (ci := 10) rfl (sk_Mod s) (s_Mod_many (bc := 0) (bs := 0) s F 0 m e_y1) rfl rfl (Nat.le_of_ble_eq_true rfl) (by simp [Value.category]) (by omega) (by omega) (by omega) ?_
    refine g_if_gt (tgt := 71) k_Mod_go_46 (by decide) (fun c => ?_) (fun c => ?_)
    · rw [if_pos c] at e
      refine g_iconst (v := 0) k_Mod_go_71 rfl ?_
      refine g_iret k_Mod_go_72 rfl ?_
      exact (by cases e; exact hq)
    · rw [if_neg c] at e
      refine g_aload_n k_Mod_go_49 rfl rfl ?_
      refine g_iconst (v := 3) k_Mod_go_50 rfl ?_
      obtain ⟨y2, e_y2, e⟩ := o_b_ex e
      refine g_cv k_Mod_go_51 lv_Mod_357 (by decide +kernel) (T := F_Mod) (N := 61) (ci := 10) rfl (sk_Mod s) (s_Mod_many (bc := 0) (bs := 0) s F 3 m e_y2) rfl rfl (Nat.le_of_ble_eq_true rfl) (by simp [Value.category]) (by omega) (by omega) (by omega) ?_
      refine g_if_gt (tgt := 71) k_Mod_go_54 (by decide) (fun c => ?_) (fun c => ?_)
      · rw [if_pos c] at e
        refine g_iconst (v := 0) k_Mod_go_71 rfl ?_
        refine g_iret k_Mod_go_72 rfl ?_
        exact (by cases e; exact hq)
      · rw [if_neg c] at e
        refine g_aload_n k_Mod_go_57 rfl rfl ?_
        obtain ⟨y3, e_y3, e⟩ := o_b_ex e
        refine g_cv k_Mod_go_58 lv_Mod_360 (by decide +kernel) (T := F_Mod) (N := 61) (ci := 10) rfl (sk_Mod s) (s_Mod_brokenOnes (bc := 0) (bs := 0) s F  m e_y3) rfl rfl (Nat.le_of_ble_eq_true rfl) (by simp [Value.category]) (by omega) (by omega) (by omega) ?_
        refine g_if_gt (tgt := 71) k_Mod_go_61 (by decide) (fun c => ?_) (fun c => ?_)
        · rw [if_pos c] at e
          refine g_iconst (v := 0) k_Mod_go_71 rfl ?_
          refine g_iret k_Mod_go_72 rfl ?_
          exact (by cases e; exact hq)
        · rw [if_neg c] at e
          refine g_aload_n k_Mod_go_64 rfl rfl ?_
          obtain ⟨y4, m5, e_y4, e⟩ := o_b2_ex e
          refine g_cv k_Mod_go_65 lv_Mod_363 (by decide +kernel) (T := F_Mod) (N := 61) (ci := 10) rfl (sk_Mod s) (s_Mod_oddOnes (bc := 0) (bs := 0) s F  m e_y4 (by omega)) rfl rfl (Nat.le_of_ble_eq_true rfl) (by simp [Value.category]) (by omega) (by omega) (by omega) ?_
          refine g_if_le (tgt := 73) k_Mod_go_68 (by decide) (fun c => ?_) (fun c => ?_)
          · rw [if_pos c] at e
            exact (t_Mod_go_73 s F  m5 hq e hd)
          · rw [if_neg c] at e
            refine g_iconst (v := 0) k_Mod_go_71 rfl ?_
            refine g_iret k_Mod_go_72 rfl ?_
            exact (by cases e; exact hq)
  · rw [if_neg c] at e
    exact (t_Mod_go_73 s F  m hq e hd)
def f_Mod_go (F : Nat)  (m : aM) : Option (Int32 × aM) :=
  o_let (a_st m 242 0 0) fun m1 =>
  (if (m1 242 45) = 5 then
  some ((-1), m1)
  else
  (if (m1 242 45) = 2 then
  o_b (f_Mod_many F 0 m1) fun y2 =>
  (if y2 ≤ 0 then
  b_Mod_go_33 F  m1
  else
  some (0, m1)
  )
  else
  b_Mod_go_33 F  m1
  )
  )
theorem s_Mod_go {K : aK} {d bc bs : Nat} {g : aG} (s : SyM g) (F : Nat)  (m : aM) {r : Int32} {m' : aM} (e : f_Mod_go F  m = some (r, m')) (hd : 402 ≤ d) : Sp K M_Mod_go d bc bs [.ref 242] (g, m) (some (.int r)) (g, m') := by
  refine sp_of ok_Mod_go rfl (Nat.le_of_ble_eq_true rfl) (by simp [Value.category]) (fun Q hq => ?_)
  unfold f_Mod_go at e
  refine g_aload_n k_Mod_go_0 rfl rfl ?_
  refine g_iconst (v := 0) k_Mod_go_1 rfl ?_
  refine p_puti k_Mod_go_2 fl_Mod_131 rfl ⟨R_Mod, F_Mod, 61, rfl, Or.inl rfl⟩ (sk_Mod s) (by decide) ?_
  obtain ⟨m1, u_m1, e⟩ := o_let_ex e
  refine G.hm u_m1 ?_
  refine g_aload_n k_Mod_go_5 rfl rfl ?_
  refine p_geti k_Mod_go_6 fl_Mod_244 rfl (sk_Mod s) (by decide) ?_
  refine g_iconst (v := 5) k_Mod_go_9 rfl ?_
  refine g_icmp_ne (tgt := 15) k_Mod_go_10 (by decide) (fun c => ?_) (fun c => ?_)
  · rw [if_pos c] at e
    refine g_iconst (v := (-1)) k_Mod_go_13 rfl ?_
    refine g_iret k_Mod_go_14 rfl ?_
    exact (by cases e; exact hq)
  · rw [if_neg c] at e
    refine g_aload_n k_Mod_go_15 rfl rfl ?_
    refine p_geti k_Mod_go_16 fl_Mod_244 rfl (sk_Mod s) (by decide) ?_
    refine g_iconst (v := 2) k_Mod_go_19 rfl ?_
    refine g_icmp_ne (tgt := 33) k_Mod_go_20 (by decide) (fun c => ?_) (fun c => ?_)
    · rw [if_pos c] at e
      refine g_aload_n k_Mod_go_23 rfl rfl ?_
      refine g_iconst (v := 0) k_Mod_go_24 rfl ?_
      obtain ⟨y2, e_y2, e⟩ := o_b_ex e
      refine g_cv k_Mod_go_25 lv_Mod_357 (by decide +kernel) (T := F_Mod) (N := 61) (ci := 10) rfl (sk_Mod s) (s_Mod_many (bc := 0) (bs := 0) s F 0 m1 e_y2) rfl rfl (Nat.le_of_ble_eq_true rfl) (by simp [Value.category]) (by omega) (by omega) (by omega) ?_
      refine g_if_le (tgt := 33) k_Mod_go_28 (by decide) (fun c => ?_) (fun c => ?_)
      · rw [if_pos c] at e
        exact (t_Mod_go_33 s F  m1 hq e hd)
      · rw [if_neg c] at e
        refine g_iconst (v := 0) k_Mod_go_31 rfl ?_
        refine g_iret k_Mod_go_32 rfl ?_
        exact (by cases e; exact hq)
    · rw [if_neg c] at e
      exact (t_Mod_go_33 s F  m1 hq e hd)
def b_Mod_back_58 (F : Nat)  (m : aM) : Option (Int32 × aM) :=
  o_let (a_st m 242 45 ((m 242 45) - 1)) fun m1 =>
  some (1, m1)
theorem t_Mod_back_58 {K : aK} {d bc bs : Nat} {g : aG} (s : SyM g) {Q : aQ} {r : Int32} {m' : aM} (F : Nat)  (m : aM) (hq : Q (.inl (some (.int r))) (g, m')) (e : b_Mod_back_58 F  m = some (r, m')) : G K M_Mod_back d bc bs 58 [.ref 242, .double 0] [] (g, m) Q := by
  unfold b_Mod_back_58 at e
  refine g_aload_n k_Mod_back_58 rfl rfl ?_
  refine g_dup k_Mod_back_59 rfl ?_
  refine p_geti k_Mod_back_60 fl_Mod_244 rfl (sk_Mod s) (by decide) ?_
  refine g_iconst (v := 1) k_Mod_back_63 rfl ?_
  refine g_isub k_Mod_back_64 ?_
  refine p_puti k_Mod_back_65 fl_Mod_244 rfl ⟨R_Mod, F_Mod, 61, rfl, Or.inl rfl⟩ (sk_Mod s) (by decide) ?_
  obtain ⟨m1, u_m1, e⟩ := o_let_ex e
  refine G.hm u_m1 ?_
  refine g_iconst (v := 1) k_Mod_back_68 rfl ?_
  refine g_iret k_Mod_back_69 rfl ?_
  exact (by cases e; exact hq)
def lb_Mod_back_24 (F : Nat) (rec_24 : Int32 → aM → Option (Int32 × aM)) (x1 : Int32) (m : aM) : Option (Int32 × aM) :=
  (if 40 ≤ x1 then
  b_Mod_back_58 F  m
  else
  (if (m 242 45) = 2 then
  o_gd (inb x1 40) <|
  o_let (a_st m 8475 x1.toNatClampNeg 0) fun m2 =>
  o_gd (inb x1 40) <|
  o_let (a_st m2 8474 x1.toNatClampNeg 0) fun m4 =>
  rec_24 (x1 + 1) m4
  else
  b_Mod_back_58 F  m
  )
  )
theorem tb_Mod_back_24 {K : aK} {d bc bs : Nat} {g : aG} (s : SyM g) {Q : aQ} {r : Int32} {m' : aM} (F : Nat) (rec_24 : Int32 → aM → Option (Int32 × aM)) (hr_24 : ∀ (x1 : Int32) (m : aM), rec_24 x1 m = some (r, m') → G K M_Mod_back d bc bs 24 [.ref 242, .int x1] [] (g, m) Q) (x1 : Int32) (m : aM) (hq : Q (.inl (some (.int r))) (g, m')) (e : lb_Mod_back_24 F rec_24 x1 m = some (r, m')) : G K M_Mod_back d bc bs 24 [.ref 242, .int x1] [] (g, m) Q := by
  unfold lb_Mod_back_24 at e
  refine g_iload_n k_Mod_back_24 rfl rfl ?_
  refine g_bipush (v := 40) k_Mod_back_25 rfl ?_
  refine g_icmp_ge (tgt := 58) k_Mod_back_27 (by decide) (fun c => ?_) (fun c => ?_)
  · rw [if_pos c] at e
    exact G.wl (wls (wld wl0)) (t_Mod_back_58 s F  m hq e)
  · rw [if_neg c] at e
    refine g_aload_n k_Mod_back_30 rfl rfl ?_
    refine p_geti k_Mod_back_31 fl_Mod_244 rfl (sk_Mod s) (by decide) ?_
    refine g_iconst (v := 2) k_Mod_back_34 rfl ?_
    refine g_icmp_ne (tgt := 58) k_Mod_back_35 (by decide) (fun c => ?_) (fun c => ?_)
    · rw [if_pos c] at e
      refine g_aload_n k_Mod_back_38 rfl rfl ?_
      refine p_getr k_Mod_back_39 fl_Mod_102 rfl (sk_Mod s) (by decide) (sr_Mod_52 s) ?_
      refine g_iload_n k_Mod_back_42 rfl rfl ?_
      refine g_iconst (v := 0) k_Mod_back_43 rfl ?_
      obtain ⟨q1, e⟩ := o_gd_ex e
      refine p_iast k_Mod_back_44 (sa_Mod_52 s) (inb_in q1) (j := x1.toNatClampNeg) rfl ?_
      obtain ⟨m2, u_m2, e⟩ := o_let_ex e
      refine G.hm u_m2 ?_
      refine g_aload_n k_Mod_back_45 rfl rfl ?_
      refine p_getr k_Mod_back_46 fl_Mod_99 rfl (sk_Mod s) (by decide) (sr_Mod_51 s) ?_
      refine g_iload_n k_Mod_back_49 rfl rfl ?_
      refine g_iconst (v := 0) k_Mod_back_50 rfl ?_
      obtain ⟨q3, e⟩ := o_gd_ex e
      refine p_zast k_Mod_back_51 (sa_Mod_51 s) (inb_in q3) (j := x1.toNatClampNeg) rfl (by decide) ?_
      obtain ⟨m4, u_m4, e⟩ := o_let_ex e
      refine G.hm u_m4 ?_
      refine g_iinc (v := _ + 1) k_Mod_back_52 rfl rfl (by decide) ?_
      refine g_goto (tgt := 24) k_Mod_back_55 (by decide) ?_
      exact (hr_24 (x1 + 1) m4 e)
    · rw [if_neg c] at e
      exact G.wl (wls (wld wl0)) (t_Mod_back_58 s F  m hq e)
def ll_Mod_back_24 (F : Nat) : Nat → Int32 → aM → Option (Int32 × aM)
  | 0, _, _ => none
  | N + 1, x1, m => lb_Mod_back_24 F (ll_Mod_back_24 F N) x1 m
theorem t_Mod_back_24 {K : aK} {d bc bs : Nat} {g : aG} (s : SyM g) {Q : aQ} {r : Int32} {m' : aM} (F : Nat) : ∀ (N : Nat) (x1 : Int32) (m : aM), Q (.inl (some (.int r))) (g, m') → ll_Mod_back_24 F N x1 m = some (r, m') → G K M_Mod_back d bc bs 24 [.ref 242, .int x1] [] (g, m) Q
  | 0, _, _ => fun _ e => nomatch e
  | N + 1, x1, m => fun hq e => tb_Mod_back_24 s F (ll_Mod_back_24 F N) (fun x1 m e => t_Mod_back_24 s F N x1 m hq e) x1 m hq e
def f_Mod_back (F : Nat)  (m : aM) : Option (Int32 × aM) :=
  o_let (a_st m 242 0 0) fun m1 =>
  (if (m1 242 45) = 0 then
  some (0, m1)
  else
  (if (m1 242 45) = 5 then
  some (0, m1)
  else
  ll_Mod_back_24 F F 0 m1
  )
  )
theorem s_Mod_back {K : aK} {d bc bs : Nat} {g : aG} (s : SyM g) (F : Nat)  (m : aM) {r : Int32} {m' : aM} (e : f_Mod_back F  m = some (r, m')) : Sp K M_Mod_back d bc bs [.ref 242] (g, m) (some (.int r)) (g, m') := by
  refine sp_of ok_Mod_back rfl (Nat.le_of_ble_eq_true rfl) (by simp [Value.category]) (fun Q hq => ?_)
  unfold f_Mod_back at e
  refine g_aload_n k_Mod_back_0 rfl rfl ?_
  refine g_iconst (v := 0) k_Mod_back_1 rfl ?_
  refine p_puti k_Mod_back_2 fl_Mod_131 rfl ⟨R_Mod, F_Mod, 61, rfl, Or.inl rfl⟩ (sk_Mod s) (by decide) ?_
  obtain ⟨m1, u_m1, e⟩ := o_let_ex e
  refine G.hm u_m1 ?_
  refine g_aload_n k_Mod_back_5 rfl rfl ?_
  refine p_geti k_Mod_back_6 fl_Mod_244 rfl (sk_Mod s) (by decide) ?_
  refine g_if_eq (tgt := 20) k_Mod_back_9 (by decide) (fun c => ?_) (fun c => ?_)
  · rw [if_pos c] at e
    refine g_iconst (v := 0) k_Mod_back_20 rfl ?_
    refine g_iret k_Mod_back_21 rfl ?_
    exact (by cases e; exact hq)
  · rw [if_neg c] at e
    refine g_aload_n k_Mod_back_12 rfl rfl ?_
    refine p_geti k_Mod_back_13 fl_Mod_244 rfl (sk_Mod s) (by decide) ?_
    refine g_iconst (v := 5) k_Mod_back_16 rfl ?_
    refine g_icmp_ne (tgt := 22) k_Mod_back_17 (by decide) (fun c => ?_) (fun c => ?_)
    · rw [if_pos c] at e
      refine g_iconst (v := 0) k_Mod_back_20 rfl ?_
      refine g_iret k_Mod_back_21 rfl ?_
      exact (by cases e; exact hq)
    · rw [if_neg c] at e
      refine g_iconst (v := 0) k_Mod_back_22 rfl ?_
      refine g_istore_n k_Mod_back_23 rfl (by decide) ?_
      exact (t_Mod_back_24 s F F 0 m1 hq e)
def f_Mod_isKey (x1 : Int32) (m : aM) : Option Int32 :=
  o_b (f_Mod_in x1 0 39 m) fun y1 =>
  o_gd (isb y1) <|
  some y1
theorem s_Mod_isKey {K : aK} {d bc bs : Nat} {g : aG} (s : SyM g) (x1 : Int32) (m : aM) {r : Int32} (e : f_Mod_isKey x1 m = some r) (hd : 1 ≤ d) : Sp K M_Mod_isKey d bc bs [.ref 242, .int x1] (g, m) (some (.int r)) (g, m) := by
  refine sp_of ok_Mod_isKey rfl (Nat.le_of_ble_eq_true rfl) (by simp [Value.category]) (fun Q hq => ?_)
  unfold f_Mod_isKey at e
  refine g_iload_n k_Mod_isKey_0 rfl rfl ?_
  refine g_iconst (v := 0) k_Mod_isKey_1 rfl ?_
  refine g_bipush (v := 39) k_Mod_isKey_2 rfl ?_
  obtain ⟨y1, e_y1, e⟩ := o_b_ex e
  refine g_cs k_Mod_isKey_4 ls_Mod_236 (by decide +kernel) (s_Mod_in (bc := 0) (bs := 0) s x1 0 39 m e_y1) rfl rfl (Nat.le_of_ble_eq_true rfl) (by simp [Value.category]) (by omega) (by omega) (by omega) ?_
  obtain ⟨q2, e⟩ := o_gd_ex e
  refine g_zret k_Mod_isKey_7 rfl (isb_or q2) ?_
  exact (by cases e; exact hq)
def lb_Mod_takesSeen_7 (F : Nat) (rec_7 : Int32 → Int32 → aM → Option (Int32 × aM)) (x1 : Int32) (x2 : Int32) (m : aM) : Option (Int32 × aM) :=
  (if 4 ≤ x2 then
  some (0, m)
  else
  o_gd (inb x1 40) <|
  o_gd (inb x2 4) <|
  o_gd (inb x2 4) <|
  o_let (a_st m (8520 + x1.toNatClampNeg) x2.toNatClampNeg (m 251 x2.toNatClampNeg)) fun m4 =>
  o_gd (inb x1 40) <|
  o_gd (inb x2 4) <|
  o_gd (inb x2 4) <|
  o_let (a_st m4 (8561 + x1.toNatClampNeg) x2.toNatClampNeg (m4 256 x2.toNatClampNeg)) fun m8 =>
  rec_7 x1 (x2 + 1) m8
  )
theorem tb_Mod_takesSeen_7 {K : aK} {d bc bs : Nat} {g : aG} (s : SyM g) {Q : aQ} {r : Int32} {m' : aM} (F : Nat) (rec_7 : Int32 → Int32 → aM → Option (Int32 × aM)) (hr_7 : ∀ (x1 : Int32) (x2 : Int32) (m : aM), rec_7 x1 x2 m = some (r, m') → G K M_Mod_takesSeen d bc bs 7 [.ref 242, .int x1, .int x2] [] (g, m) Q) (x1 : Int32) (x2 : Int32) (m : aM) (hq : Q (.inl none) (g, m')) (e : lb_Mod_takesSeen_7 F rec_7 x1 x2 m = some (r, m')) (hd : 400 ≤ d) : G K M_Mod_takesSeen d bc bs 7 [.ref 242, .int x1, .int x2] [] (g, m) Q := by
  unfold lb_Mod_takesSeen_7 at e
  refine g_iload_n k_Mod_takesSeen_7 rfl rfl ?_
  refine g_iconst (v := 4) k_Mod_takesSeen_8 rfl ?_
  refine g_icmp_ge (tgt := 46) k_Mod_takesSeen_9 (by decide) (fun c => ?_) (fun c => ?_)
  · rw [if_pos c] at e
    refine g_vret k_Mod_takesSeen_46 rfl ?_
    exact (by cases e; exact hq)
  · rw [if_neg c] at e
    refine g_aload_n k_Mod_takesSeen_12 rfl rfl ?_
    refine p_getr k_Mod_takesSeen_13 fl_Mod_114 rfl (sk_Mod s) (by decide) (sr_Mod_56 s) ?_
    refine g_iload_n k_Mod_takesSeen_16 rfl rfl ?_
    obtain ⟨q1, e⟩ := o_gd_ex e
    refine p_aald k_Mod_takesSeen_17 (sa_Mod_56 s) (by decide) (by decide) (inb_in q1) (j := x1.toNatClampNeg) rfl (si_Mod_56 s _ (vp_lt (inb_in q1))).1 ?_
    refine g_iload_n k_Mod_takesSeen_18 rfl rfl ?_
    refine g_aload_n k_Mod_takesSeen_19 rfl rfl ?_
    refine p_getr k_Mod_takesSeen_20 fl_Mod_40 rfl (sk_Mod s) (by decide) (sr_Mod_26 s) ?_
    refine g_iload_n k_Mod_takesSeen_23 rfl rfl ?_
    obtain ⟨q2, e⟩ := o_gd_ex e
    refine p_iald k_Mod_takesSeen_24 (sa_Mod_26 s) (inb_in q2) (j := x2.toNatClampNeg) rfl ?_
    obtain ⟨q3, e⟩ := o_gd_ex e
    refine p_iast k_Mod_takesSeen_25 (si_Mod_56 s _ (vp_lt (inb_in q1))).2 (inb_in q3) (j := x2.toNatClampNeg) rfl ?_
    obtain ⟨m4, u_m4, e⟩ := o_let_ex e
    refine G.hm u_m4 ?_
    refine g_aload_n k_Mod_takesSeen_26 rfl rfl ?_
    refine p_getr k_Mod_takesSeen_27 fl_Mod_117 rfl (sk_Mod s) (by decide) (sr_Mod_57 s) ?_
    refine g_iload_n k_Mod_takesSeen_30 rfl rfl ?_
    obtain ⟨q5, e⟩ := o_gd_ex e
    refine p_aald k_Mod_takesSeen_31 (sa_Mod_57 s) (by decide) (by decide) (inb_in q5) (j := x1.toNatClampNeg) rfl (si_Mod_57 s _ (vp_lt (inb_in q5))).1 ?_
    refine g_iload_n k_Mod_takesSeen_32 rfl rfl ?_
    refine g_aload_n k_Mod_takesSeen_33 rfl rfl ?_
    refine p_getr k_Mod_takesSeen_34 fl_Mod_55 rfl (sk_Mod s) (by decide) (sr_Mod_31 s) ?_
    refine g_iload_n k_Mod_takesSeen_37 rfl rfl ?_
    obtain ⟨q6, e⟩ := o_gd_ex e
    refine p_iald k_Mod_takesSeen_38 (sa_Mod_31 s) (inb_in q6) (j := x2.toNatClampNeg) rfl ?_
    obtain ⟨q7, e⟩ := o_gd_ex e
    refine p_iast k_Mod_takesSeen_39 (si_Mod_57 s _ (vp_lt (inb_in q5))).2 (inb_in q7) (j := x2.toNatClampNeg) rfl ?_
    obtain ⟨m8, u_m8, e⟩ := o_let_ex e
    refine G.hm u_m8 ?_
    refine g_iinc (v := _ + 1) k_Mod_takesSeen_40 rfl rfl (by decide) ?_
    refine g_goto (tgt := 7) k_Mod_takesSeen_43 (by decide) ?_
    exact (hr_7 x1 (x2 + 1) m8 e)
def ll_Mod_takesSeen_7 (F : Nat) : Nat → Int32 → Int32 → aM → Option (Int32 × aM)
  | 0, _, _, _ => none
  | N + 1, x1, x2, m => lb_Mod_takesSeen_7 F (ll_Mod_takesSeen_7 F N) x1 x2 m
theorem t_Mod_takesSeen_7 {K : aK} {d bc bs : Nat} {g : aG} (s : SyM g) {Q : aQ} {r : Int32} {m' : aM} (F : Nat) : ∀ (N : Nat) (x1 : Int32) (x2 : Int32) (m : aM), Q (.inl none) (g, m') → ll_Mod_takesSeen_7 F N x1 x2 m = some (r, m') → 400 ≤ d → G K M_Mod_takesSeen d bc bs 7 [.ref 242, .int x1, .int x2] [] (g, m) Q
  | 0, _, _, _ => fun _ e => nomatch e
  | N + 1, x1, x2, m => fun hq e hd => tb_Mod_takesSeen_7 s F (ll_Mod_takesSeen_7 F N) (fun x1 x2 m e => t_Mod_takesSeen_7 s F N x1 x2 m hq e hd) x1 x2 m hq e hd
def f_Mod_takesSeen (F : Nat) (x1 : Int32) (m : aM) : Option (Int32 × aM) :=
  o_b2 (f_Mod_seesOf F x1 m) fun y1 m2 =>
  ll_Mod_takesSeen_7 F F x1 0 m2
theorem s_Mod_takesSeen {K : aK} {d bc bs : Nat} {g : aG} (s : SyM g) (F : Nat) (x1 : Int32) (m : aM) {r : Int32} {m' : aM} (e : f_Mod_takesSeen F x1 m = some (r, m')) (hd : 400 ≤ d) : Sp K M_Mod_takesSeen d bc bs [.ref 242, .int x1] (g, m) none (g, m') := by
  refine sp_of ok_Mod_takesSeen rfl (Nat.le_of_ble_eq_true rfl) (by simp [Value.category]) (fun Q hq => ?_)
  unfold f_Mod_takesSeen at e
  refine g_aload_n k_Mod_takesSeen_0 rfl rfl ?_
  refine g_iload_n k_Mod_takesSeen_1 rfl rfl ?_
  obtain ⟨y1, m2, e_y1, e⟩ := o_b2_ex e
  refine g_cv k_Mod_takesSeen_2 lv_Mod_345 (by decide +kernel) (T := F_Mod) (N := 61) (ci := 10) rfl (sk_Mod s) (s_Mod_seesOf (bc := 0) (bs := 0) s F x1 m e_y1 (by omega)) rfl rfl (Nat.le_of_ble_eq_true rfl) (by simp [Value.category]) (by omega) (by omega) (by omega) ?_
  refine g_iconst (v := 0) k_Mod_takesSeen_5 rfl ?_
  refine g_istore_n k_Mod_takesSeen_6 rfl (by decide) ?_
  exact (t_Mod_takesSeen_7 s F F x1 0 m2 hq e hd)
def b_Mod_insert_155 (F : Nat) (x1 : Int32) (m : aM) : Option (Int32 × aM) :=
  o_gd (inb x1 40) <|
  some ((m 8475 x1.toNatClampNeg), m)
theorem t_Mod_insert_155 {K : aK} {d bc bs : Nat} {g : aG} (s : SyM g) {Q : aQ} {r : Int32} {m' : aM} (F : Nat) (x1 : Int32) (m : aM) (hq : Q (.inl (some (.int r))) (g, m')) (e : b_Mod_insert_155 F x1 m = some (r, m')) (hd : 401 ≤ d) : G K M_Mod_insert d bc bs 155 [.ref 242, .int x1, .double 0] [] (g, m) Q := by
  unfold b_Mod_insert_155 at e
  refine g_aload_n k_Mod_insert_155 rfl rfl ?_
  refine p_getr k_Mod_insert_156 fl_Mod_102 rfl (sk_Mod s) (by decide) (sr_Mod_52 s) ?_
  refine g_iload_n k_Mod_insert_159 rfl rfl ?_
  obtain ⟨q1, e⟩ := o_gd_ex e
  refine p_iald k_Mod_insert_160 (sa_Mod_52 s) (inb_in q1) (j := x1.toNatClampNeg) rfl ?_
  refine g_iret k_Mod_insert_161 rfl ?_
  exact (by cases e; exact hq)
def b_Mod_insert_154 (F : Nat) (x1 : Int32) (xt0 : Int32) (xt1 : Int32) (m : aM) : Option (Int32 × aM) :=
  o_gd (inb xt1 40) <|
  o_let (a_st m 8475 xt1.toNatClampNeg xt0) fun m2 =>
  b_Mod_insert_155 F x1 m2
theorem t_Mod_insert_154 {K : aK} {d bc bs : Nat} {g : aG} (s : SyM g) {Q : aQ} {r : Int32} {m' : aM} (F : Nat) (x1 : Int32) (xt0 : Int32) (xt1 : Int32) (m : aM) (hq : Q (.inl (some (.int r))) (g, m')) (e : b_Mod_insert_154 F x1 xt0 xt1 m = some (r, m')) (hd : 401 ≤ d) : G K M_Mod_insert d bc bs 154 [.ref 242, .int x1, .double 0] [.int xt0, .int xt1, .ref 8475] (g, m) Q := by
  unfold b_Mod_insert_154 at e
  obtain ⟨q1, e⟩ := o_gd_ex e
  refine p_iast k_Mod_insert_154 (sa_Mod_52 s) (inb_in q1) (j := xt1.toNatClampNeg) rfl ?_
  obtain ⟨m2, u_m2, e⟩ := o_let_ex e
  refine G.hm u_m2 ?_
  exact (t_Mod_insert_155 s F x1 m2 hq e hd)
def lb_Mod_insert_73 (F : Nat) (rec_73 : Int32 → Int32 → aM → Option (Int32 × aM)) (x1 : Int32) (x2 : Int32) (m : aM) : Option (Int32 × aM) :=
  (if 4 ≤ x2 then
  o_gd (inb x1 40) <|
  o_let (a_st m 8475 x1.toNatClampNeg 0) fun m2 =>
  (if (m2 242 45) ≤ 2 then
  b_Mod_insert_155 F x1 m2
  else
  o_b2 (f_Mod_takesSeen F x1 m2) fun y3 m4 =>
  (if (m4 242 45) = 5 then
  b_Mod_insert_154 F x1 2 x1 m4
  else
  o_gd (inb x1 40) <|
  o_gd (inb x1 40) <|
  o_b2 (f_Mod_isRightBy F (8520 + x1.toNatClampNeg) (8561 + x1.toNatClampNeg) m4) fun y7 m8 =>
  (if y7 = 0 then
  b_Mod_insert_154 F x1 3 x1 m8
  else
  b_Mod_insert_154 F x1 1 x1 m8
  )
  )
  )
  else
  o_gd (inb x1 40) <|
  o_gd (inb x2 4) <|
  o_let (a_st m (8479 + x1.toNatClampNeg) x2.toNatClampNeg 0) fun m11 =>
  rec_73 x1 (x2 + 1) m11
  )
theorem tb_Mod_insert_73 {K : aK} {d bc bs : Nat} {g : aG} (s : SyM g) {Q : aQ} {r : Int32} {m' : aM} (F : Nat) (rec_73 : Int32 → Int32 → aM → Option (Int32 × aM)) (hr_73 : ∀ (x1 : Int32) (x2 : Int32) (m : aM), rec_73 x1 x2 m = some (r, m') → G K M_Mod_insert d bc bs 73 [.ref 242, .int x1, .int x2] [] (g, m) Q) (x1 : Int32) (x2 : Int32) (m : aM) (hq : Q (.inl (some (.int r))) (g, m')) (e : lb_Mod_insert_73 F rec_73 x1 x2 m = some (r, m')) (hd : 401 ≤ d) : G K M_Mod_insert d bc bs 73 [.ref 242, .int x1, .int x2] [] (g, m) Q := by
  unfold lb_Mod_insert_73 at e
  refine g_iload_n k_Mod_insert_73 rfl rfl ?_
  refine g_iconst (v := 4) k_Mod_insert_74 rfl ?_
  refine g_icmp_ge (tgt := 93) k_Mod_insert_75 (by decide) (fun c => ?_) (fun c => ?_)
  · rw [if_pos c] at e
    refine g_aload_n k_Mod_insert_93 rfl rfl ?_
    refine p_getr k_Mod_insert_94 fl_Mod_102 rfl (sk_Mod s) (by decide) (sr_Mod_52 s) ?_
    refine g_iload_n k_Mod_insert_97 rfl rfl ?_
    refine g_iconst (v := 0) k_Mod_insert_98 rfl ?_
    obtain ⟨q1, e⟩ := o_gd_ex e
    refine p_iast k_Mod_insert_99 (sa_Mod_52 s) (inb_in q1) (j := x1.toNatClampNeg) rfl ?_
    obtain ⟨m2, u_m2, e⟩ := o_let_ex e
    refine G.hm u_m2 ?_
    refine g_aload_n k_Mod_insert_100 rfl rfl ?_
    refine p_geti k_Mod_insert_101 fl_Mod_244 rfl (sk_Mod s) (by decide) ?_
    refine g_iconst (v := 2) k_Mod_insert_104 rfl ?_
    refine g_icmp_le (tgt := 155) k_Mod_insert_105 (by decide) (fun c => ?_) (fun c => ?_)
    · rw [if_pos c] at e
      exact G.wl (wls (wls (wld wl0))) (t_Mod_insert_155 s F x1 m2 hq e hd)
    · rw [if_neg c] at e
      refine g_aload_n k_Mod_insert_108 rfl rfl ?_
      refine g_iload_n k_Mod_insert_109 rfl rfl ?_
      obtain ⟨y3, m4, e_y3, e⟩ := o_b2_ex e
      refine g_cv k_Mod_insert_110 lv_Mod_372 (by decide +kernel) (T := F_Mod) (N := 61) (ci := 10) rfl (sk_Mod s) (s_Mod_takesSeen (bc := 0) (bs := 0) s F x1 m2 e_y3 (by omega)) rfl rfl (Nat.le_of_ble_eq_true rfl) (by simp [Value.category]) (by omega) (by omega) (by omega) ?_
      refine g_aload_n k_Mod_insert_113 rfl rfl ?_
      refine p_getr k_Mod_insert_114 fl_Mod_102 rfl (sk_Mod s) (by decide) (sr_Mod_52 s) ?_
      refine g_iload_n k_Mod_insert_117 rfl rfl ?_
      refine g_aload_n k_Mod_insert_118 rfl rfl ?_
      refine p_geti k_Mod_insert_119 fl_Mod_244 rfl (sk_Mod s) (by decide) ?_
      refine g_iconst (v := 5) k_Mod_insert_122 rfl ?_
      refine g_icmp_ne (tgt := 130) k_Mod_insert_123 (by decide) (fun c => ?_) (fun c => ?_)
      · rw [if_pos c] at e
        refine g_iconst (v := 2) k_Mod_insert_126 rfl ?_
        refine g_goto (tgt := 154) k_Mod_insert_127 (by decide) ?_
        exact G.wl (wls (wls (wld wl0))) (t_Mod_insert_154 s F x1 2 x1 m4 hq e hd)
      · rw [if_neg c] at e
        refine g_aload_n k_Mod_insert_130 rfl rfl ?_
        refine g_aload_n k_Mod_insert_131 rfl rfl ?_
        refine p_getr k_Mod_insert_132 fl_Mod_114 rfl (sk_Mod s) (by decide) (sr_Mod_56 s) ?_
        refine g_iload_n k_Mod_insert_135 rfl rfl ?_
        obtain ⟨q5, e⟩ := o_gd_ex e
        refine p_aald k_Mod_insert_136 (sa_Mod_56 s) (by decide) (by decide) (inb_in q5) (j := x1.toNatClampNeg) rfl (si_Mod_56 s _ (vp_lt (inb_in q5))).1 ?_
        refine g_aload_n k_Mod_insert_137 rfl rfl ?_
        refine p_getr k_Mod_insert_138 fl_Mod_117 rfl (sk_Mod s) (by decide) (sr_Mod_57 s) ?_
        refine g_iload_n k_Mod_insert_141 rfl rfl ?_
        obtain ⟨q6, e⟩ := o_gd_ex e
        refine p_aald k_Mod_insert_142 (sa_Mod_57 s) (by decide) (by decide) (inb_in q6) (j := x1.toNatClampNeg) rfl (si_Mod_57 s _ (vp_lt (inb_in q6))).1 ?_
        obtain ⟨y7, m8, e_y7, e⟩ := o_b2_ex e
        refine g_cv k_Mod_insert_143 lv_Mod_302 (by decide +kernel) (T := F_Mod) (N := 61) (ci := 10) rfl (sk_Mod s) (s_Mod_isRightBy (bc := 0) (bs := 0) s F (8520 + x1.toNatClampNeg) ((si_Mod_56 s _ (vp_lt (inb_in q5))).2) (8561 + x1.toNatClampNeg) ((si_Mod_57 s _ (vp_lt (inb_in q6))).2) m4 e_y7 (by omega)) rfl rfl (Nat.le_of_ble_eq_true rfl) (by simp [Value.category]) (by omega) (by omega) (by omega) ?_
        refine g_if_eq (tgt := 153) k_Mod_insert_146 (by decide) (fun c => ?_) (fun c => ?_)
        · rw [if_pos c] at e
          refine g_iconst (v := 3) k_Mod_insert_153 rfl ?_
          exact G.wl (wls (wls (wld wl0))) (t_Mod_insert_154 s F x1 3 x1 m8 hq e hd)
        · rw [if_neg c] at e
          refine g_iconst (v := 1) k_Mod_insert_149 rfl ?_
          refine g_goto (tgt := 154) k_Mod_insert_150 (by decide) ?_
          exact G.wl (wls (wls (wld wl0))) (t_Mod_insert_154 s F x1 1 x1 m8 hq e hd)
  · rw [if_neg c] at e
    refine g_aload_n k_Mod_insert_78 rfl rfl ?_
    refine p_getr k_Mod_insert_79 fl_Mod_111 rfl (sk_Mod s) (by decide) (sr_Mod_55 s) ?_
    refine g_iload_n k_Mod_insert_82 rfl rfl ?_
    obtain ⟨q9, e⟩ := o_gd_ex e
    refine p_aald k_Mod_insert_83 (sa_Mod_55 s) (by decide) (by decide) (inb_in q9) (j := x1.toNatClampNeg) rfl (si_Mod_55 s _ (vp_lt (inb_in q9))).1 ?_
    refine g_iload_n k_Mod_insert_84 rfl rfl ?_
    refine g_iconst (v := 0) k_Mod_insert_85 rfl ?_
    obtain ⟨q10, e⟩ := o_gd_ex e
    refine p_iast k_Mod_insert_86 (si_Mod_55 s _ (vp_lt (inb_in q9))).2 (inb_in q10) (j := x2.toNatClampNeg) rfl ?_
    obtain ⟨m11, u_m11, e⟩ := o_let_ex e
    refine G.hm u_m11 ?_
    refine g_iinc (v := _ + 1) k_Mod_insert_87 rfl rfl (by decide) ?_
    refine g_goto (tgt := 73) k_Mod_insert_90 (by decide) ?_
    exact (hr_73 x1 (x2 + 1) m11 e)
def ll_Mod_insert_73 (F : Nat) : Nat → Int32 → Int32 → aM → Option (Int32 × aM)
  | 0, _, _, _ => none
  | N + 1, x1, x2, m => lb_Mod_insert_73 F (ll_Mod_insert_73 F N) x1 x2 m
theorem t_Mod_insert_73 {K : aK} {d bc bs : Nat} {g : aG} (s : SyM g) {Q : aQ} {r : Int32} {m' : aM} (F : Nat) : ∀ (N : Nat) (x1 : Int32) (x2 : Int32) (m : aM), Q (.inl (some (.int r))) (g, m') → ll_Mod_insert_73 F N x1 x2 m = some (r, m') → 401 ≤ d → G K M_Mod_insert d bc bs 73 [.ref 242, .int x1, .int x2] [] (g, m) Q
  | 0, _, _, _ => fun _ e => nomatch e
  | N + 1, x1, x2, m => fun hq e hd => tb_Mod_insert_73 s F (ll_Mod_insert_73 F N) (fun x1 x2 m e => t_Mod_insert_73 s F N x1 x2 m hq e hd) x1 x2 m hq e hd
def b_Mod_insert_19 (F : Nat) (x1 : Int32) (xt0 : Int32) (m : aM) : Option (Int32 × aM) :=
  o_b2 (f_Mod_bad xt0 1 m) fun y1 m2 =>
  (if y1 = 0 then
  o_gd (inb x1 40) <|
  (if (m2 8473 x1.toNatClampNeg) = 0 then
  o_gd (inb x1 40) <|
  o_let (a_st m2 8473 x1.toNatClampNeg 1) fun m5 =>
  o_gd (inb x1 40) <|
  o_let (a_st m5 8474 x1.toNatClampNeg 0) fun m7 =>
  o_gd (inb x1 40) <|
  o_let (a_st m7 (8602 + x1.toNatClampNeg) 0 (-1)) fun m9 =>
  o_gd (inb x1 40) <|
  o_let (a_st m9 (8602 + x1.toNatClampNeg) 1 (-1)) fun m11 =>
  ll_Mod_insert_73 F F x1 0 m11
  else
  some ((-1), m2)
  )
  else
  some (0, m2)
  )
theorem t_Mod_insert_19 {K : aK} {d bc bs : Nat} {g : aG} (s : SyM g) {Q : aQ} {r : Int32} {m' : aM} (F : Nat) (x1 : Int32) (xt0 : Int32) (m : aM) (hq : Q (.inl (some (.int r))) (g, m')) (e : b_Mod_insert_19 F x1 xt0 m = some (r, m')) (hd : 401 ≤ d) : G K M_Mod_insert d bc bs 19 [.ref 242, .int x1, .double 0] [.int xt0, .ref 242] (g, m) Q := by
  unfold b_Mod_insert_19 at e
  refine g_iconst (v := 1) k_Mod_insert_19 rfl ?_
  obtain ⟨y1, m2, e_y1, e⟩ := o_b2_ex e
  refine g_cv k_Mod_insert_20 lv_Mod_240 (by decide +kernel) (T := F_Mod) (N := 61) (ci := 10) rfl (sk_Mod s) (s_Mod_bad (bc := 0) (bs := 0) s xt0 1 m e_y1) rfl rfl (Nat.le_of_ble_eq_true rfl) (by simp [Value.category]) (by omega) (by omega) (by omega) ?_
  refine g_if_eq (tgt := 28) k_Mod_insert_23 (by decide) (fun c => ?_) (fun c => ?_)
  · rw [if_pos c] at e
    refine g_aload_n k_Mod_insert_28 rfl rfl ?_
    refine p_getr k_Mod_insert_29 fl_Mod_96 rfl (sk_Mod s) (by decide) (sr_Mod_50 s) ?_
    refine g_iload_n k_Mod_insert_32 rfl rfl ?_
    obtain ⟨q3, e⟩ := o_gd_ex e
    refine p_zald k_Mod_insert_33 (sa_Mod_50 s) (inb_in q3) (j := x1.toNatClampNeg) rfl ?_
    refine g_if_eq (tgt := 39) k_Mod_insert_34 (by decide) (fun c => ?_) (fun c => ?_)
    · rw [if_pos c] at e
      refine g_aload_n k_Mod_insert_39 rfl rfl ?_
      refine p_getr k_Mod_insert_40 fl_Mod_96 rfl (sk_Mod s) (by decide) (sr_Mod_50 s) ?_
      refine g_iload_n k_Mod_insert_43 rfl rfl ?_
      refine g_iconst (v := 1) k_Mod_insert_44 rfl ?_
      obtain ⟨q4, e⟩ := o_gd_ex e
      refine p_zast k_Mod_insert_45 (sa_Mod_50 s) (inb_in q4) (j := x1.toNatClampNeg) rfl (by decide) ?_
      obtain ⟨m5, u_m5, e⟩ := o_let_ex e
      refine G.hm u_m5 ?_
      refine g_aload_n k_Mod_insert_46 rfl rfl ?_
      refine p_getr k_Mod_insert_47 fl_Mod_99 rfl (sk_Mod s) (by decide) (sr_Mod_51 s) ?_
      refine g_iload_n k_Mod_insert_50 rfl rfl ?_
      refine g_iconst (v := 0) k_Mod_insert_51 rfl ?_
      obtain ⟨q6, e⟩ := o_gd_ex e
      refine p_zast k_Mod_insert_52 (sa_Mod_51 s) (inb_in q6) (j := x1.toNatClampNeg) rfl (by decide) ?_
      obtain ⟨m7, u_m7, e⟩ := o_let_ex e
      refine G.hm u_m7 ?_
      refine g_aload_n k_Mod_insert_53 rfl rfl ?_
      refine p_getr k_Mod_insert_54 fl_Mod_120 rfl (sk_Mod s) (by decide) (sr_Mod_58 s) ?_
      refine g_iload_n k_Mod_insert_57 rfl rfl ?_
      obtain ⟨q8, e⟩ := o_gd_ex e
      refine p_aald k_Mod_insert_58 (sa_Mod_58 s) (by decide) (by decide) (inb_in q8) (j := x1.toNatClampNeg) rfl (si_Mod_58 s _ (vp_lt (inb_in q8))).1 ?_
      refine g_iconst (v := 0) k_Mod_insert_59 rfl ?_
      refine g_iconst (v := (-1)) k_Mod_insert_60 rfl ?_
      refine p_iast k_Mod_insert_61 (si_Mod_58 s _ (vp_lt (inb_in q8))).2 (vp_in_nI (n := 0) (N := 2) (by decide) (by decide)) (j := 0) rfl ?_
      obtain ⟨m9, u_m9, e⟩ := o_let_ex e
      refine G.hm u_m9 ?_
      refine g_aload_n k_Mod_insert_62 rfl rfl ?_
      refine p_getr k_Mod_insert_63 fl_Mod_120 rfl (sk_Mod s) (by decide) (sr_Mod_58 s) ?_
      refine g_iload_n k_Mod_insert_66 rfl rfl ?_
      obtain ⟨q10, e⟩ := o_gd_ex e
      refine p_aald k_Mod_insert_67 (sa_Mod_58 s) (by decide) (by decide) (inb_in q10) (j := x1.toNatClampNeg) rfl (si_Mod_58 s _ (vp_lt (inb_in q10))).1 ?_
      refine g_iconst (v := 1) k_Mod_insert_68 rfl ?_
      refine g_iconst (v := (-1)) k_Mod_insert_69 rfl ?_
      refine p_iast k_Mod_insert_70 (si_Mod_58 s _ (vp_lt (inb_in q10))).2 (vp_in_nI (n := 1) (N := 2) (by decide) (by decide)) (j := 1) rfl ?_
      obtain ⟨m11, u_m11, e⟩ := o_let_ex e
      refine G.hm u_m11 ?_
      refine g_iconst (v := 0) k_Mod_insert_71 rfl ?_
      refine g_istore_n k_Mod_insert_72 rfl (by decide) ?_
      exact (t_Mod_insert_73 s F F x1 0 m11 hq e hd)
    · rw [if_neg c] at e
      refine g_iconst (v := (-1)) k_Mod_insert_37 rfl ?_
      refine g_iret k_Mod_insert_38 rfl ?_
      exact (by cases e; exact hq)
  · rw [if_neg c] at e
    refine g_iconst (v := 0) k_Mod_insert_26 rfl ?_
    refine g_iret k_Mod_insert_27 rfl ?_
    exact (by cases e; exact hq)
def f_Mod_insert (F : Nat) (x1 : Int32) (m : aM) : Option (Int32 × aM) :=
  o_let (a_st m 242 0 0) fun m1 =>
  o_b (f_Mod_isKey x1 m1) fun y2 =>
  (if y2 = 0 then
  b_Mod_insert_19 F x1 1 m1
  else
  b_Mod_insert_19 F x1 0 m1
  )
theorem s_Mod_insert {K : aK} {d bc bs : Nat} {g : aG} (s : SyM g) (F : Nat) (x1 : Int32) (m : aM) {r : Int32} {m' : aM} (e : f_Mod_insert F x1 m = some (r, m')) (hd : 401 ≤ d) : Sp K M_Mod_insert d bc bs [.ref 242, .int x1] (g, m) (some (.int r)) (g, m') := by
  refine sp_of ok_Mod_insert rfl (Nat.le_of_ble_eq_true rfl) (by simp [Value.category]) (fun Q hq => ?_)
  unfold f_Mod_insert at e
  refine g_aload_n k_Mod_insert_0 rfl rfl ?_
  refine g_iconst (v := 0) k_Mod_insert_1 rfl ?_
  refine p_puti k_Mod_insert_2 fl_Mod_131 rfl ⟨R_Mod, F_Mod, 61, rfl, Or.inl rfl⟩ (sk_Mod s) (by decide) ?_
  obtain ⟨m1, u_m1, e⟩ := o_let_ex e
  refine G.hm u_m1 ?_
  refine g_aload_n k_Mod_insert_5 rfl rfl ?_
  refine g_aload_n k_Mod_insert_6 rfl rfl ?_
  refine g_iload_n k_Mod_insert_7 rfl rfl ?_
  obtain ⟨y2, e_y2, e⟩ := o_b_ex e
  refine g_cv k_Mod_insert_8 lv_Mod_369 (by decide +kernel) (T := F_Mod) (N := 61) (ci := 10) rfl (sk_Mod s) (s_Mod_isKey (bc := 0) (bs := 0) s x1 m1 e_y2 (by omega)) rfl rfl (Nat.le_of_ble_eq_true rfl) (by simp [Value.category]) (by omega) (by omega) (by omega) ?_
  refine g_if_ne (tgt := 18) k_Mod_insert_11 (by decide) (fun c => ?_) (fun c => ?_)
  · rw [if_pos c] at e
    refine g_iconst (v := 1) k_Mod_insert_14 rfl ?_
    refine g_goto (tgt := 19) k_Mod_insert_15 (by decide) ?_
    exact (t_Mod_insert_19 s F x1 1 m1 hq e hd)
  · rw [if_neg c] at e
    refine g_iconst (v := 0) k_Mod_insert_18 rfl ?_
    exact (t_Mod_insert_19 s F x1 0 m1 hq e hd)
def b_Mod_delete_19 (x1 : Int32) (xt0 : Int32) (m : aM) : Option (Int32 × aM) :=
  o_b2 (f_Mod_bad xt0 1 m) fun y1 m2 =>
  (if y1 = 0 then
  o_gd (inb x1 40) <|
  o_gd (inb x1 40) <|
  o_let (a_st m2 8473 x1.toNatClampNeg 0) fun m5 =>
  o_gd (isb (m2 8473 x1.toNatClampNeg)) <|
  some ((m2 8473 x1.toNatClampNeg), m5)
  else
  some (0, m2)
  )
theorem t_Mod_delete_19 {K : aK} {d bc bs : Nat} {g : aG} (s : SyM g) {Q : aQ} {r : Int32} {m' : aM} (x1 : Int32) (xt0 : Int32) (m : aM) (hq : Q (.inl (some (.int r))) (g, m')) (e : b_Mod_delete_19 x1 xt0 m = some (r, m')) (hd : 2 ≤ d) : G K M_Mod_delete d bc bs 19 [.ref 242, .int x1, .double 0] [.int xt0, .ref 242] (g, m) Q := by
  unfold b_Mod_delete_19 at e
  refine g_iconst (v := 1) k_Mod_delete_19 rfl ?_
  obtain ⟨y1, m2, e_y1, e⟩ := o_b2_ex e
  refine g_cv k_Mod_delete_20 lv_Mod_240 (by decide +kernel) (T := F_Mod) (N := 61) (ci := 10) rfl (sk_Mod s) (s_Mod_bad (bc := 0) (bs := 0) s xt0 1 m e_y1) rfl rfl (Nat.le_of_ble_eq_true rfl) (by simp [Value.category]) (by omega) (by omega) (by omega) ?_
  refine g_if_eq (tgt := 28) k_Mod_delete_23 (by decide) (fun c => ?_) (fun c => ?_)
  · rw [if_pos c] at e
    refine g_aload_n k_Mod_delete_28 rfl rfl ?_
    refine p_getr k_Mod_delete_29 fl_Mod_96 rfl (sk_Mod s) (by decide) (sr_Mod_50 s) ?_
    refine g_iload_n k_Mod_delete_32 rfl rfl ?_
    obtain ⟨q3, e⟩ := o_gd_ex e
    refine p_zald k_Mod_delete_33 (sa_Mod_50 s) (inb_in q3) (j := x1.toNatClampNeg) rfl ?_
    refine g_istore_n k_Mod_delete_34 rfl (by decide) ?_
    refine g_aload_n k_Mod_delete_35 rfl rfl ?_
    refine p_getr k_Mod_delete_36 fl_Mod_96 rfl (sk_Mod s) (by decide) (sr_Mod_50 s) ?_
    refine g_iload_n k_Mod_delete_39 rfl rfl ?_
    refine g_iconst (v := 0) k_Mod_delete_40 rfl ?_
    obtain ⟨q4, e⟩ := o_gd_ex e
    refine p_zast k_Mod_delete_41 (sa_Mod_50 s) (inb_in q4) (j := x1.toNatClampNeg) rfl (by decide) ?_
    obtain ⟨m5, u_m5, e⟩ := o_let_ex e
    refine G.hm u_m5 ?_
    refine g_iload_n k_Mod_delete_42 rfl rfl ?_
    obtain ⟨q6, e⟩ := o_gd_ex e
    refine g_zret k_Mod_delete_43 rfl (isb_or q6) ?_
    exact (by cases e; exact hq)
  · rw [if_neg c] at e
    refine g_iconst (v := 0) k_Mod_delete_26 rfl ?_
    refine g_zret k_Mod_delete_27 rfl (by decide) ?_
    exact (by cases e; exact hq)
def f_Mod_delete (x1 : Int32) (m : aM) : Option (Int32 × aM) :=
  o_let (a_st m 242 0 0) fun m1 =>
  o_b (f_Mod_isKey x1 m1) fun y2 =>
  (if y2 = 0 then
  b_Mod_delete_19 x1 1 m1
  else
  b_Mod_delete_19 x1 0 m1
  )
theorem s_Mod_delete {K : aK} {d bc bs : Nat} {g : aG} (s : SyM g) (x1 : Int32) (m : aM) {r : Int32} {m' : aM} (e : f_Mod_delete x1 m = some (r, m')) (hd : 2 ≤ d) : Sp K M_Mod_delete d bc bs [.ref 242, .int x1] (g, m) (some (.int r)) (g, m') := by
  refine sp_of ok_Mod_delete rfl (Nat.le_of_ble_eq_true rfl) (by simp [Value.category]) (fun Q hq => ?_)
  unfold f_Mod_delete at e
  refine g_aload_n k_Mod_delete_0 rfl rfl ?_
  refine g_iconst (v := 0) k_Mod_delete_1 rfl ?_
  refine p_puti k_Mod_delete_2 fl_Mod_131 rfl ⟨R_Mod, F_Mod, 61, rfl, Or.inl rfl⟩ (sk_Mod s) (by decide) ?_
  obtain ⟨m1, u_m1, e⟩ := o_let_ex e
  refine G.hm u_m1 ?_
  refine g_aload_n k_Mod_delete_5 rfl rfl ?_
  refine g_aload_n k_Mod_delete_6 rfl rfl ?_
  refine g_iload_n k_Mod_delete_7 rfl rfl ?_
  obtain ⟨y2, e_y2, e⟩ := o_b_ex e
  refine g_cv k_Mod_delete_8 lv_Mod_369 (by decide +kernel) (T := F_Mod) (N := 61) (ci := 10) rfl (sk_Mod s) (s_Mod_isKey (bc := 0) (bs := 0) s x1 m1 e_y2 (by omega)) rfl rfl (Nat.le_of_ble_eq_true rfl) (by simp [Value.category]) (by omega) (by omega) (by omega) ?_
  refine g_if_ne (tgt := 18) k_Mod_delete_11 (by decide) (fun c => ?_) (fun c => ?_)
  · rw [if_pos c] at e
    refine g_iconst (v := 1) k_Mod_delete_14 rfl ?_
    refine g_goto (tgt := 19) k_Mod_delete_15 (by decide) ?_
    exact (t_Mod_delete_19 s x1 1 m1 hq e hd)
  · rw [if_neg c] at e
    refine g_iconst (v := 0) k_Mod_delete_18 rfl ?_
    exact (t_Mod_delete_19 s x1 0 m1 hq e hd)
def lb_Mod_oldAsIf_57 (F : Nat) (rec_57 : Int32 → Int32 → aM → Option (Int32 × aM)) (x1 : Int32) (x2 : Int32) (m : aM) : Option (Int32 × aM) :=
  (if 4 ≤ x2 then
  some (0, m)
  else
  o_gd (inb x1 40) <|
  (if (m 8475 x1.toNatClampNeg) = 2 then
  some (0, m)
  else
  o_gd (inb x1 40) <|
  o_gd (inb x2 4) <|
  o_let ((m (8479 + x1.toNatClampNeg) x2.toNatClampNeg)) fun y4 =>
  o_gd (inb x2 4) <|
  o_let (a_st m 252 x2.toNatClampNeg y4) fun m6 =>
  rec_57 x1 (x2 + 1) m6
  )
  )
theorem tb_Mod_oldAsIf_57 {K : aK} {d bc bs : Nat} {g : aG} (s : SyM g) {Q : aQ} {r : Int32} {m' : aM} (F : Nat) (rec_57 : Int32 → Int32 → aM → Option (Int32 × aM)) (hr_57 : ∀ (x1 : Int32) (x2 : Int32) (m : aM), rec_57 x1 x2 m = some (r, m') → G K M_Mod_oldAsIf d bc bs 57 [.ref 242, .int x1, .int x2] [] (g, m) Q) (x1 : Int32) (x2 : Int32) (m : aM) (hq : Q (.inl none) (g, m')) (e : lb_Mod_oldAsIf_57 F rec_57 x1 x2 m = some (r, m')) (hd : 399 ≤ d) : G K M_Mod_oldAsIf d bc bs 57 [.ref 242, .int x1, .int x2] [] (g, m) Q := by
  unfold lb_Mod_oldAsIf_57 at e
  refine g_iload_n k_Mod_oldAsIf_57 rfl rfl ?_
  refine g_iconst (v := 4) k_Mod_oldAsIf_58 rfl ?_
  refine g_icmp_ge (tgt := 92) k_Mod_oldAsIf_59 (by decide) (fun c => ?_) (fun c => ?_)
  · rw [if_pos c] at e
    refine g_vret k_Mod_oldAsIf_92 rfl ?_
    exact (by cases e; exact hq)
  · rw [if_neg c] at e
    refine g_aload_n k_Mod_oldAsIf_62 rfl rfl ?_
    refine p_getr k_Mod_oldAsIf_63 fl_Mod_102 rfl (sk_Mod s) (by decide) (sr_Mod_52 s) ?_
    refine g_iload_n k_Mod_oldAsIf_66 rfl rfl ?_
    obtain ⟨q1, e⟩ := o_gd_ex e
    refine p_iald k_Mod_oldAsIf_67 (sa_Mod_52 s) (inb_in q1) (j := x1.toNatClampNeg) rfl ?_
    refine g_iconst (v := 2) k_Mod_oldAsIf_68 rfl ?_
    refine g_icmp_eq (tgt := 92) k_Mod_oldAsIf_69 (by decide) (fun c => ?_) (fun c => ?_)
    · rw [if_pos c] at e
      refine g_vret k_Mod_oldAsIf_92 rfl ?_
      exact (by cases e; exact hq)
    · rw [if_neg c] at e
      refine g_aload_n k_Mod_oldAsIf_72 rfl rfl ?_
      refine p_getr k_Mod_oldAsIf_73 fl_Mod_43 rfl (sk_Mod s) (by decide) (sr_Mod_27 s) ?_
      refine g_iload_n k_Mod_oldAsIf_76 rfl rfl ?_
      refine g_aload_n k_Mod_oldAsIf_77 rfl rfl ?_
      refine p_getr k_Mod_oldAsIf_78 fl_Mod_111 rfl (sk_Mod s) (by decide) (sr_Mod_55 s) ?_
      refine g_iload_n k_Mod_oldAsIf_81 rfl rfl ?_
      obtain ⟨q2, e⟩ := o_gd_ex e
      refine p_aald k_Mod_oldAsIf_82 (sa_Mod_55 s) (by decide) (by decide) (inb_in q2) (j := x1.toNatClampNeg) rfl (si_Mod_55 s _ (vp_lt (inb_in q2))).1 ?_
      refine g_iload_n k_Mod_oldAsIf_83 rfl rfl ?_
      obtain ⟨q3, e⟩ := o_gd_ex e
      refine p_iald k_Mod_oldAsIf_84 (si_Mod_55 s _ (vp_lt (inb_in q2))).2 (inb_in q3) (j := x2.toNatClampNeg) rfl ?_
      obtain ⟨y4, u_y4, e⟩ := o_let_ex e
      refine G.vy u_y4 ?_
      obtain ⟨q5, e⟩ := o_gd_ex e
      refine p_iast k_Mod_oldAsIf_85 (sa_Mod_27 s) (inb_in q5) (j := x2.toNatClampNeg) rfl ?_
      obtain ⟨m6, u_m6, e⟩ := o_let_ex e
      refine G.hm u_m6 ?_
      refine g_iinc (v := _ + 1) k_Mod_oldAsIf_86 rfl rfl (by decide) ?_
      refine g_goto (tgt := 57) k_Mod_oldAsIf_89 (by decide) ?_
      exact (hr_57 x1 (x2 + 1) m6 e)
def ll_Mod_oldAsIf_57 (F : Nat) : Nat → Int32 → Int32 → aM → Option (Int32 × aM)
  | 0, _, _, _ => none
  | N + 1, x1, x2, m => lb_Mod_oldAsIf_57 F (ll_Mod_oldAsIf_57 F N) x1 x2 m
theorem t_Mod_oldAsIf_57 {K : aK} {d bc bs : Nat} {g : aG} (s : SyM g) {Q : aQ} {r : Int32} {m' : aM} (F : Nat) : ∀ (N : Nat) (x1 : Int32) (x2 : Int32) (m : aM), Q (.inl none) (g, m') → ll_Mod_oldAsIf_57 F N x1 x2 m = some (r, m') → 399 ≤ d → G K M_Mod_oldAsIf d bc bs 57 [.ref 242, .int x1, .int x2] [] (g, m) Q
  | 0, _, _, _ => fun _ e => nomatch e
  | N + 1, x1, x2, m => fun hq e hd => tb_Mod_oldAsIf_57 s F (ll_Mod_oldAsIf_57 F N) (fun x1 x2 m e => t_Mod_oldAsIf_57 s F N x1 x2 m hq e hd) x1 x2 m hq e hd
def b_Mod_oldAsIf_55 (F : Nat) (x1 : Int32) (m : aM) : Option (Int32 × aM) :=
  ll_Mod_oldAsIf_57 F F x1 0 m
theorem t_Mod_oldAsIf_55 {K : aK} {d bc bs : Nat} {g : aG} (s : SyM g) {Q : aQ} {r : Int32} {m' : aM} (F : Nat) (x1 : Int32) (m : aM) (hq : Q (.inl none) (g, m')) (e : b_Mod_oldAsIf_55 F x1 m = some (r, m')) (hd : 399 ≤ d) : G K M_Mod_oldAsIf d bc bs 55 [.ref 242, .int x1, .double 0] [] (g, m) Q := by
  unfold b_Mod_oldAsIf_55 at e
  refine g_iconst (v := 0) k_Mod_oldAsIf_55 rfl ?_
  refine g_istore_n k_Mod_oldAsIf_56 rfl (by decide) ?_
  exact (t_Mod_oldAsIf_57 s F F x1 0 m hq e hd)
def lb_Mod_oldAsIf_2 (F : Nat) (rec_2 : Int32 → Int32 → aM → Option (Int32 × aM)) (x1 : Int32) (x2 : Int32) (m : aM) : Option (Int32 × aM) :=
  (if 4 ≤ x2 then
  o_gd (inb x1 40) <|
  (if (m 8475 x1.toNatClampNeg) = 2 then
  o_b2 (f_Mod_puts F  m) fun y2 m3 =>
  b_Mod_oldAsIf_55 F x1 m3
  else
  b_Mod_oldAsIf_55 F x1 m
  )
  else
  o_gd (inb x1 40) <|
  o_gd (inb x2 4) <|
  o_let ((m (8520 + x1.toNatClampNeg) x2.toNatClampNeg)) fun y6 =>
  o_gd (inb x2 4) <|
  o_let (a_st m 250 x2.toNatClampNeg y6) fun m8 =>
  o_gd (inb x1 40) <|
  o_gd (inb x2 4) <|
  o_let ((m8 (8561 + x1.toNatClampNeg) x2.toNatClampNeg)) fun y11 =>
  o_gd (inb x2 4) <|
  o_let (a_st m8 249 x2.toNatClampNeg y11) fun m13 =>
  rec_2 x1 (x2 + 1) m13
  )
theorem tb_Mod_oldAsIf_2 {K : aK} {d bc bs : Nat} {g : aG} (s : SyM g) {Q : aQ} {r : Int32} {m' : aM} (F : Nat) (rec_2 : Int32 → Int32 → aM → Option (Int32 × aM)) (hr_2 : ∀ (x1 : Int32) (x2 : Int32) (m : aM), rec_2 x1 x2 m = some (r, m') → G K M_Mod_oldAsIf d bc bs 2 [.ref 242, .int x1, .int x2] [] (g, m) Q) (x1 : Int32) (x2 : Int32) (m : aM) (hq : Q (.inl none) (g, m')) (e : lb_Mod_oldAsIf_2 F rec_2 x1 x2 m = some (r, m')) (hd : 399 ≤ d) : G K M_Mod_oldAsIf d bc bs 2 [.ref 242, .int x1, .int x2] [] (g, m) Q := by
  unfold lb_Mod_oldAsIf_2 at e
  refine g_iload_n k_Mod_oldAsIf_2 rfl rfl ?_
  refine g_iconst (v := 4) k_Mod_oldAsIf_3 rfl ?_
  refine g_icmp_ge (tgt := 41) k_Mod_oldAsIf_4 (by decide) (fun c => ?_) (fun c => ?_)
  · rw [if_pos c] at e
    refine g_aload_n k_Mod_oldAsIf_41 rfl rfl ?_
    refine p_getr k_Mod_oldAsIf_42 fl_Mod_102 rfl (sk_Mod s) (by decide) (sr_Mod_52 s) ?_
    refine g_iload_n k_Mod_oldAsIf_45 rfl rfl ?_
    obtain ⟨q1, e⟩ := o_gd_ex e
    refine p_iald k_Mod_oldAsIf_46 (sa_Mod_52 s) (inb_in q1) (j := x1.toNatClampNeg) rfl ?_
    refine g_iconst (v := 2) k_Mod_oldAsIf_47 rfl ?_
    refine g_icmp_ne (tgt := 55) k_Mod_oldAsIf_48 (by decide) (fun c => ?_) (fun c => ?_)
    · rw [if_pos c] at e
      refine g_aload_n k_Mod_oldAsIf_51 rfl rfl ?_
      obtain ⟨y2, m3, e_y2, e⟩ := o_b2_ex e
      refine g_cv k_Mod_oldAsIf_52 lv_Mod_277 (by decide +kernel) (T := F_Mod) (N := 61) (ci := 10) rfl (sk_Mod s) (s_Mod_puts (bc := 0) (bs := 0) s F  m e_y2 (by omega)) rfl rfl (Nat.le_of_ble_eq_true rfl) (by simp [Value.category]) (by omega) (by omega) (by omega) ?_
      exact G.wl (wls (wls (wld wl0))) (t_Mod_oldAsIf_55 s F x1 m3 hq e hd)
    · rw [if_neg c] at e
      exact G.wl (wls (wls (wld wl0))) (t_Mod_oldAsIf_55 s F x1 m hq e hd)
  · rw [if_neg c] at e
    refine g_aload_n k_Mod_oldAsIf_7 rfl rfl ?_
    refine p_getr k_Mod_oldAsIf_8 fl_Mod_37 rfl (sk_Mod s) (by decide) (sr_Mod_25 s) ?_
    refine g_iload_n k_Mod_oldAsIf_11 rfl rfl ?_
    refine g_aload_n k_Mod_oldAsIf_12 rfl rfl ?_
    refine p_getr k_Mod_oldAsIf_13 fl_Mod_114 rfl (sk_Mod s) (by decide) (sr_Mod_56 s) ?_
    refine g_iload_n k_Mod_oldAsIf_16 rfl rfl ?_
    obtain ⟨q4, e⟩ := o_gd_ex e
    refine p_aald k_Mod_oldAsIf_17 (sa_Mod_56 s) (by decide) (by decide) (inb_in q4) (j := x1.toNatClampNeg) rfl (si_Mod_56 s _ (vp_lt (inb_in q4))).1 ?_
    refine g_iload_n k_Mod_oldAsIf_18 rfl rfl ?_
    obtain ⟨q5, e⟩ := o_gd_ex e
    refine p_iald k_Mod_oldAsIf_19 (si_Mod_56 s _ (vp_lt (inb_in q4))).2 (inb_in q5) (j := x2.toNatClampNeg) rfl ?_
    obtain ⟨y6, u_y6, e⟩ := o_let_ex e
    refine G.vy u_y6 ?_
    obtain ⟨q7, e⟩ := o_gd_ex e
    refine p_iast k_Mod_oldAsIf_20 (sa_Mod_25 s) (inb_in q7) (j := x2.toNatClampNeg) rfl ?_
    obtain ⟨m8, u_m8, e⟩ := o_let_ex e
    refine G.hm u_m8 ?_
    refine g_aload_n k_Mod_oldAsIf_21 rfl rfl ?_
    refine p_getr k_Mod_oldAsIf_22 fl_Mod_34 rfl (sk_Mod s) (by decide) (sr_Mod_24 s) ?_
    refine g_iload_n k_Mod_oldAsIf_25 rfl rfl ?_
    refine g_aload_n k_Mod_oldAsIf_26 rfl rfl ?_
    refine p_getr k_Mod_oldAsIf_27 fl_Mod_117 rfl (sk_Mod s) (by decide) (sr_Mod_57 s) ?_
    refine g_iload_n k_Mod_oldAsIf_30 rfl rfl ?_
    obtain ⟨q9, e⟩ := o_gd_ex e
    refine p_aald k_Mod_oldAsIf_31 (sa_Mod_57 s) (by decide) (by decide) (inb_in q9) (j := x1.toNatClampNeg) rfl (si_Mod_57 s _ (vp_lt (inb_in q9))).1 ?_
    refine g_iload_n k_Mod_oldAsIf_32 rfl rfl ?_
    obtain ⟨q10, e⟩ := o_gd_ex e
    refine p_iald k_Mod_oldAsIf_33 (si_Mod_57 s _ (vp_lt (inb_in q9))).2 (inb_in q10) (j := x2.toNatClampNeg) rfl ?_
    obtain ⟨y11, u_y11, e⟩ := o_let_ex e
    refine G.vy u_y11 ?_
    obtain ⟨q12, e⟩ := o_gd_ex e
    refine p_iast k_Mod_oldAsIf_34 (sa_Mod_24 s) (inb_in q12) (j := x2.toNatClampNeg) rfl ?_
    obtain ⟨m13, u_m13, e⟩ := o_let_ex e
    refine G.hm u_m13 ?_
    refine g_iinc (v := _ + 1) k_Mod_oldAsIf_35 rfl rfl (by decide) ?_
    refine g_goto (tgt := 2) k_Mod_oldAsIf_38 (by decide) ?_
    exact (hr_2 x1 (x2 + 1) m13 e)
def ll_Mod_oldAsIf_2 (F : Nat) : Nat → Int32 → Int32 → aM → Option (Int32 × aM)
  | 0, _, _, _ => none
  | N + 1, x1, x2, m => lb_Mod_oldAsIf_2 F (ll_Mod_oldAsIf_2 F N) x1 x2 m
theorem t_Mod_oldAsIf_2 {K : aK} {d bc bs : Nat} {g : aG} (s : SyM g) {Q : aQ} {r : Int32} {m' : aM} (F : Nat) : ∀ (N : Nat) (x1 : Int32) (x2 : Int32) (m : aM), Q (.inl none) (g, m') → ll_Mod_oldAsIf_2 F N x1 x2 m = some (r, m') → 399 ≤ d → G K M_Mod_oldAsIf d bc bs 2 [.ref 242, .int x1, .int x2] [] (g, m) Q
  | 0, _, _, _ => fun _ e => nomatch e
  | N + 1, x1, x2, m => fun hq e hd => tb_Mod_oldAsIf_2 s F (ll_Mod_oldAsIf_2 F N) (fun x1 x2 m e => t_Mod_oldAsIf_2 s F N x1 x2 m hq e hd) x1 x2 m hq e hd
def f_Mod_oldAsIf (F : Nat) (x1 : Int32) (m : aM) : Option (Int32 × aM) :=
  ll_Mod_oldAsIf_2 F F x1 0 m
theorem s_Mod_oldAsIf {K : aK} {d bc bs : Nat} {g : aG} (s : SyM g) (F : Nat) (x1 : Int32) (m : aM) {r : Int32} {m' : aM} (e : f_Mod_oldAsIf F x1 m = some (r, m')) (hd : 399 ≤ d) : Sp K M_Mod_oldAsIf d bc bs [.ref 242, .int x1] (g, m) none (g, m') := by
  refine sp_of ok_Mod_oldAsIf rfl (Nat.le_of_ble_eq_true rfl) (by simp [Value.category]) (fun Q hq => ?_)
  unfold f_Mod_oldAsIf at e
  refine g_iconst (v := 0) k_Mod_oldAsIf_0 rfl ?_
  refine g_istore_n k_Mod_oldAsIf_1 rfl (by decide) ?_
  exact (t_Mod_oldAsIf_2 s F F x1 0 m hq e hd)
def lb_Mod_newAsIf_37 (F : Nat) (rec_37 : Int32 → Int32 → Int32 → aM → Option (Int32 × aM)) (x1 : Int32) (x2 : Int32) (x3 : Int32) (m : aM) : Option (Int32 × aM) :=
  (if 4 ≤ x3 then
  some (0, m)
  else
  (if x2 = 0 then
  some (0, m)
  else
  o_gd (inb x1 40) <|
  o_gd (inb x3 4) <|
  o_let ((m (8520 + x1.toNatClampNeg) x3.toNatClampNeg)) fun y3 =>
  o_gd (inb x3 4) <|
  o_let (a_st m 251 x3.toNatClampNeg y3) fun m5 =>
  rec_37 x1 x2 (x3 + 1) m5
  )
  )
theorem tb_Mod_newAsIf_37 {K : aK} {d bc bs : Nat} {g : aG} (s : SyM g) {Q : aQ} {r : Int32} {m' : aM} (F : Nat) (rec_37 : Int32 → Int32 → Int32 → aM → Option (Int32 × aM)) (hr_37 : ∀ (x1 : Int32) (x2 : Int32) (x3 : Int32) (m : aM), rec_37 x1 x2 x3 m = some (r, m') → G K M_Mod_newAsIf d bc bs 37 [.ref 242, .int x1, .int x2, .int x3] [] (g, m) Q) (x1 : Int32) (x2 : Int32) (x3 : Int32) (m : aM) (hq : Q (.inl none) (g, m')) (e : lb_Mod_newAsIf_37 F rec_37 x1 x2 x3 m = some (r, m')) (hd : 400 ≤ d) : G K M_Mod_newAsIf d bc bs 37 [.ref 242, .int x1, .int x2, .int x3] [] (g, m) Q := by
  unfold lb_Mod_newAsIf_37 at e
  refine g_iload_n k_Mod_newAsIf_37 rfl rfl ?_
  refine g_iconst (v := 4) k_Mod_newAsIf_38 rfl ?_
  refine g_icmp_ge (tgt := 66) k_Mod_newAsIf_39 (by decide) (fun c => ?_) (fun c => ?_)
  · rw [if_pos c] at e
    refine g_vret k_Mod_newAsIf_66 rfl ?_
    exact (by cases e; exact hq)
  · rw [if_neg c] at e
    refine g_iload_n k_Mod_newAsIf_42 rfl rfl ?_
    refine g_if_eq (tgt := 66) k_Mod_newAsIf_43 (by decide) (fun c => ?_) (fun c => ?_)
    · rw [if_pos c] at e
      refine g_vret k_Mod_newAsIf_66 rfl ?_
      exact (by cases e; exact hq)
    · rw [if_neg c] at e
      refine g_aload_n k_Mod_newAsIf_46 rfl rfl ?_
      refine p_getr k_Mod_newAsIf_47 fl_Mod_40 rfl (sk_Mod s) (by decide) (sr_Mod_26 s) ?_
      refine g_iload_n k_Mod_newAsIf_50 rfl rfl ?_
      refine g_aload_n k_Mod_newAsIf_51 rfl rfl ?_
      refine p_getr k_Mod_newAsIf_52 fl_Mod_114 rfl (sk_Mod s) (by decide) (sr_Mod_56 s) ?_
      refine g_iload_n k_Mod_newAsIf_55 rfl rfl ?_
      obtain ⟨q1, e⟩ := o_gd_ex e
      refine p_aald k_Mod_newAsIf_56 (sa_Mod_56 s) (by decide) (by decide) (inb_in q1) (j := x1.toNatClampNeg) rfl (si_Mod_56 s _ (vp_lt (inb_in q1))).1 ?_
      refine g_iload_n k_Mod_newAsIf_57 rfl rfl ?_
      obtain ⟨q2, e⟩ := o_gd_ex e
      refine p_iald k_Mod_newAsIf_58 (si_Mod_56 s _ (vp_lt (inb_in q1))).2 (inb_in q2) (j := x3.toNatClampNeg) rfl ?_
      obtain ⟨y3, u_y3, e⟩ := o_let_ex e
      refine G.vy u_y3 ?_
      obtain ⟨q4, e⟩ := o_gd_ex e
      refine p_iast k_Mod_newAsIf_59 (sa_Mod_26 s) (inb_in q4) (j := x3.toNatClampNeg) rfl ?_
      obtain ⟨m5, u_m5, e⟩ := o_let_ex e
      refine G.hm u_m5 ?_
      refine g_iinc (v := _ + 1) k_Mod_newAsIf_60 rfl rfl (by decide) ?_
      refine g_goto (tgt := 37) k_Mod_newAsIf_63 (by decide) ?_
      exact (hr_37 x1 x2 (x3 + 1) m5 e)
def ll_Mod_newAsIf_37 (F : Nat) : Nat → Int32 → Int32 → Int32 → aM → Option (Int32 × aM)
  | 0, _, _, _, _ => none
  | N + 1, x1, x2, x3, m => lb_Mod_newAsIf_37 F (ll_Mod_newAsIf_37 F N) x1 x2 x3 m
theorem t_Mod_newAsIf_37 {K : aK} {d bc bs : Nat} {g : aG} (s : SyM g) {Q : aQ} {r : Int32} {m' : aM} (F : Nat) : ∀ (N : Nat) (x1 : Int32) (x2 : Int32) (x3 : Int32) (m : aM), Q (.inl none) (g, m') → ll_Mod_newAsIf_37 F N x1 x2 x3 m = some (r, m') → 400 ≤ d → G K M_Mod_newAsIf d bc bs 37 [.ref 242, .int x1, .int x2, .int x3] [] (g, m) Q
  | 0, _, _, _, _ => fun _ e => nomatch e
  | N + 1, x1, x2, x3, m => fun hq e hd => tb_Mod_newAsIf_37 s F (ll_Mod_newAsIf_37 F N) (fun x1 x2 x3 m e => t_Mod_newAsIf_37 s F N x1 x2 x3 m hq e hd) x1 x2 x3 m hq e hd
def b_Mod_newAsIf_35 (F : Nat) (x1 : Int32) (x2 : Int32) (m : aM) : Option (Int32 × aM) :=
  ll_Mod_newAsIf_37 F F x1 x2 0 m
theorem t_Mod_newAsIf_35 {K : aK} {d bc bs : Nat} {g : aG} (s : SyM g) {Q : aQ} {r : Int32} {m' : aM} (F : Nat) (x1 : Int32) (x2 : Int32) (m : aM) (hq : Q (.inl none) (g, m')) (e : b_Mod_newAsIf_35 F x1 x2 m = some (r, m')) (hd : 400 ≤ d) : G K M_Mod_newAsIf d bc bs 35 [.ref 242, .int x1, .int x2, .double 0] [] (g, m) Q := by
  unfold b_Mod_newAsIf_35 at e
  refine g_iconst (v := 0) k_Mod_newAsIf_35 rfl ?_
  refine g_istore_n k_Mod_newAsIf_36 rfl (by decide) ?_
  exact (t_Mod_newAsIf_37 s F F x1 x2 0 m hq e hd)
def b_Mod_newAsIf_25 (F : Nat) (x1 : Int32) (xt0 : Int32) (m : aM) : Option (Int32 × aM) :=
  (if xt0 = 0 then
  o_b2 (f_Mod_seesOf F x1 m) fun y1 m2 =>
  b_Mod_newAsIf_35 F x1 xt0 m2
  else
  b_Mod_newAsIf_35 F x1 xt0 m
  )
theorem t_Mod_newAsIf_25 {K : aK} {d bc bs : Nat} {g : aG} (s : SyM g) {Q : aQ} {r : Int32} {m' : aM} (F : Nat) (x1 : Int32) (xt0 : Int32) (m : aM) (hq : Q (.inl none) (g, m')) (e : b_Mod_newAsIf_25 F x1 xt0 m = some (r, m')) (hd : 400 ≤ d) : G K M_Mod_newAsIf d bc bs 25 [.ref 242, .int x1, .double 0, .double 0] [.int xt0] (g, m) Q := by
  unfold b_Mod_newAsIf_25 at e
  refine g_istore_n k_Mod_newAsIf_25 rfl (by decide) ?_
  refine g_iload_n k_Mod_newAsIf_26 rfl rfl ?_
  refine g_if_ne (tgt := 35) k_Mod_newAsIf_27 (by decide) (fun c => ?_) (fun c => ?_)
  · rw [if_pos c] at e
    refine g_aload_n k_Mod_newAsIf_30 rfl rfl ?_
    refine g_iload_n k_Mod_newAsIf_31 rfl rfl ?_
    obtain ⟨y1, m2, e_y1, e⟩ := o_b2_ex e
    refine g_cv k_Mod_newAsIf_32 lv_Mod_345 (by decide +kernel) (T := F_Mod) (N := 61) (ci := 10) rfl (sk_Mod s) (s_Mod_seesOf (bc := 0) (bs := 0) s F x1 m e_y1 (by omega)) rfl rfl (Nat.le_of_ble_eq_true rfl) (by simp [Value.category]) (by omega) (by omega) (by omega) ?_
    exact (t_Mod_newAsIf_35 s F x1 xt0 m2 hq e hd)
  · rw [if_neg c] at e
    exact (t_Mod_newAsIf_35 s F x1 xt0 m hq e hd)
def b_Mod_newAsIf_20 (F : Nat) (x1 : Int32) (m : aM) : Option (Int32 × aM) :=
  b_Mod_newAsIf_25 F x1 1 m
theorem t_Mod_newAsIf_20 {K : aK} {d bc bs : Nat} {g : aG} (s : SyM g) {Q : aQ} {r : Int32} {m' : aM} (F : Nat) (x1 : Int32) (m : aM) (hq : Q (.inl none) (g, m')) (e : b_Mod_newAsIf_20 F x1 m = some (r, m')) (hd : 400 ≤ d) : G K M_Mod_newAsIf d bc bs 20 [.ref 242, .int x1, .double 0, .double 0] [] (g, m) Q := by
  unfold b_Mod_newAsIf_20 at e
  refine g_iconst (v := 1) k_Mod_newAsIf_20 rfl ?_
  refine g_goto (tgt := 25) k_Mod_newAsIf_21 (by decide) ?_
  exact (t_Mod_newAsIf_25 s F x1 1 m hq e hd)
def f_Mod_newAsIf (F : Nat) (x1 : Int32) (m : aM) : Option (Int32 × aM) :=
  o_gd (inb x1 40) <|
  (if (m 8475 x1.toNatClampNeg) = 1 then
  b_Mod_newAsIf_20 F x1 m
  else
  o_gd (inb x1 40) <|
  (if (m 8475 x1.toNatClampNeg) = 2 then
  b_Mod_newAsIf_20 F x1 m
  else
  b_Mod_newAsIf_25 F x1 0 m
  )
  )
theorem s_Mod_newAsIf {K : aK} {d bc bs : Nat} {g : aG} (s : SyM g) (F : Nat) (x1 : Int32) (m : aM) {r : Int32} {m' : aM} (e : f_Mod_newAsIf F x1 m = some (r, m')) (hd : 400 ≤ d) : Sp K M_Mod_newAsIf d bc bs [.ref 242, .int x1] (g, m) none (g, m') := by
  refine sp_of ok_Mod_newAsIf rfl (Nat.le_of_ble_eq_true rfl) (by simp [Value.category]) (fun Q hq => ?_)
  unfold f_Mod_newAsIf at e
  refine g_aload_n k_Mod_newAsIf_0 rfl rfl ?_
  refine p_getr k_Mod_newAsIf_1 fl_Mod_102 rfl (sk_Mod s) (by decide) (sr_Mod_52 s) ?_
  refine g_iload_n k_Mod_newAsIf_4 rfl rfl ?_
  obtain ⟨q1, e⟩ := o_gd_ex e
  refine p_iald k_Mod_newAsIf_5 (sa_Mod_52 s) (inb_in q1) (j := x1.toNatClampNeg) rfl ?_
  refine g_iconst (v := 1) k_Mod_newAsIf_6 rfl ?_
  refine g_icmp_eq (tgt := 20) k_Mod_newAsIf_7 (by decide) (fun c => ?_) (fun c => ?_)
  · rw [if_pos c] at e
    exact (t_Mod_newAsIf_20 s F x1 m hq e hd)
  · rw [if_neg c] at e
    refine g_aload_n k_Mod_newAsIf_10 rfl rfl ?_
    refine p_getr k_Mod_newAsIf_11 fl_Mod_102 rfl (sk_Mod s) (by decide) (sr_Mod_52 s) ?_
    refine g_iload_n k_Mod_newAsIf_14 rfl rfl ?_
    obtain ⟨q2, e⟩ := o_gd_ex e
    refine p_iald k_Mod_newAsIf_15 (sa_Mod_52 s) (inb_in q2) (j := x1.toNatClampNeg) rfl ?_
    refine g_iconst (v := 2) k_Mod_newAsIf_16 rfl ?_
    refine g_icmp_ne (tgt := 24) k_Mod_newAsIf_17 (by decide) (fun c => ?_) (fun c => ?_)
    · rw [if_pos c] at e
      exact (t_Mod_newAsIf_20 s F x1 m hq e hd)
    · rw [if_neg c] at e
      refine g_iconst (v := 0) k_Mod_newAsIf_24 rfl ?_
      exact (t_Mod_newAsIf_25 s F x1 0 m hq e hd)
def b_Mod_read_124 (F : Nat) (x3 : Int32) (x4 : Int32) (m : aM) : Option (Int32 × aM) :=
  (if x3 = 0 then
  o_gd (inb x4 4) <|
  some ((m 252 x4.toNatClampNeg), m)
  else
  o_gd (inb x4 4) <|
  some ((m 251 x4.toNatClampNeg), m)
  )
theorem t_Mod_read_124 {K : aK} {d bc bs : Nat} {g : aG} (s : SyM g) {Q : aQ} {r : Int32} {m' : aM} (F : Nat) (x3 : Int32) (x4 : Int32) (m : aM) (hq : Q (.inl (some (.int r))) (g, m')) (e : b_Mod_read_124 F x3 x4 m = some (r, m')) (hd : 401 ≤ d) : G K M_Mod_read d bc bs 124 [.ref 242, .double 0, .double 0, .int x3, .int x4] [] (g, m) Q := by
  unfold b_Mod_read_124 at e
  refine g_iload_n k_Mod_read_124 rfl rfl ?_
  refine g_if_ne (tgt := 138) k_Mod_read_125 (by decide) (fun c => ?_) (fun c => ?_)
  · rw [if_pos c] at e
    refine g_aload_n k_Mod_read_128 rfl rfl ?_
    refine p_getr k_Mod_read_129 fl_Mod_43 rfl (sk_Mod s) (by decide) (sr_Mod_27 s) ?_
    refine g_iload k_Mod_read_132 rfl ?_
    obtain ⟨q1, e⟩ := o_gd_ex e
    refine p_iald k_Mod_read_134 (sa_Mod_27 s) (inb_in q1) (j := x4.toNatClampNeg) rfl ?_
    refine g_goto (tgt := 145) k_Mod_read_135 (by decide) ?_
    refine g_iret k_Mod_read_145 rfl ?_
    exact (by cases e; exact hq)
  · rw [if_neg c] at e
    refine g_aload_n k_Mod_read_138 rfl rfl ?_
    refine p_getr k_Mod_read_139 fl_Mod_40 rfl (sk_Mod s) (by decide) (sr_Mod_26 s) ?_
    refine g_iload k_Mod_read_142 rfl ?_
    obtain ⟨q2, e⟩ := o_gd_ex e
    refine p_iald k_Mod_read_144 (sa_Mod_26 s) (inb_in q2) (j := x4.toNatClampNeg) rfl ?_
    refine g_iret k_Mod_read_145 rfl ?_
    exact (by cases e; exact hq)
def b_Mod_read_83 (F : Nat) (x1 : Int32) (x2 : Int32) (x3 : Int32) (x4 : Int32) (xt0 : Int32) (m : aM) : Option (Int32 × aM) :=
  o_b2 (f_Mod_bad xt0 3 m) fun y1 m2 =>
  (if y1 = 0 then
  o_gd (inb x1 8) <|
  o_gd (inb x3 2) <|
  o_gd (inb x4 4) <|
  o_let (a_st m2 (8644 + 3 * x1.toNatClampNeg + x3.toNatClampNeg) x4.toNatClampNeg (m2 242 46)) fun m6 =>
  (if x3 = 0 then
  o_b2 (f_Mod_oldAsIf F x2 m6) fun y7 m8 =>
  b_Mod_read_124 F x3 x4 m8
  else
  o_b2 (f_Mod_newAsIf F x2 m6) fun y9 m10 =>
  b_Mod_read_124 F x3 x4 m10
  )
  else
  some (0, m2)
  )
theorem t_Mod_read_83 {K : aK} {d bc bs : Nat} {g : aG} (s : SyM g) {Q : aQ} {r : Int32} {m' : aM} (F : Nat) (x1 : Int32) (x2 : Int32) (x3 : Int32) (x4 : Int32) (xt0 : Int32) (m : aM) (hq : Q (.inl (some (.int r))) (g, m')) (e : b_Mod_read_83 F x1 x2 x3 x4 xt0 m = some (r, m')) (hd : 401 ≤ d) : G K M_Mod_read d bc bs 83 [.ref 242, .int x1, .int x2, .int x3, .int x4] [.int xt0, .ref 242] (g, m) Q := by
  unfold b_Mod_read_83 at e
  refine g_iconst (v := 3) k_Mod_read_83 rfl ?_
  obtain ⟨y1, m2, e_y1, e⟩ := o_b2_ex e
  refine g_cv k_Mod_read_84 lv_Mod_240 (by decide +kernel) (T := F_Mod) (N := 61) (ci := 10) rfl (sk_Mod s) (s_Mod_bad (bc := 0) (bs := 0) s xt0 3 m e_y1) rfl rfl (Nat.le_of_ble_eq_true rfl) (by simp [Value.category]) (by omega) (by omega) (by omega) ?_
  refine g_if_eq (tgt := 92) k_Mod_read_87 (by decide) (fun c => ?_) (fun c => ?_)
  · rw [if_pos c] at e
    refine g_aload_n k_Mod_read_92 rfl rfl ?_
    refine p_getr k_Mod_read_93 fl_Mod_125 rfl (sk_Mod s) (by decide) (sr_Mod_59 s) ?_
    refine g_iload_n k_Mod_read_96 rfl rfl ?_
    obtain ⟨q3, e⟩ := o_gd_ex e
    refine p_aald k_Mod_read_97 (sa_Mod_59 s) (by decide) (by decide) (inb_in q3) (j := x1.toNatClampNeg) rfl (si_Mod_59 s _ (vp_lt (inb_in q3))).1 ?_
    refine g_iload_n k_Mod_read_98 rfl rfl ?_
    obtain ⟨q4, e⟩ := o_gd_ex e
    refine p_aald k_Mod_read_99 (si_Mod_59 s _ (vp_lt (inb_in q3))).2 (by decide) (by decide) (inb_in q4) (j := x3.toNatClampNeg) rfl (sj_Mod_59 s _ _ (vp_lt (inb_in q3)) (vp_lt (inb_in q4))).1 ?_
    refine g_iload k_Mod_read_100 rfl ?_
    refine g_aload_n k_Mod_read_102 rfl rfl ?_
    refine p_geti k_Mod_read_103 fl_Mod_351 rfl (sk_Mod s) (by decide) ?_
    obtain ⟨q5, e⟩ := o_gd_ex e
    refine p_iast k_Mod_read_106 (sj_Mod_59 s _ _ (vp_lt (inb_in q3)) (vp_lt (inb_in q4))).2 (inb_in q5) (j := x4.toNatClampNeg) rfl ?_
    obtain ⟨m6, u_m6, e⟩ := o_let_ex e
    refine G.hm u_m6 ?_
    refine g_iload_n k_Mod_read_107 rfl rfl ?_
    refine g_if_ne (tgt := 119) k_Mod_read_108 (by decide) (fun c => ?_) (fun c => ?_)
    · rw [if_pos c] at e
      refine g_aload_n k_Mod_read_111 rfl rfl ?_
      refine g_iload_n k_Mod_read_112 rfl rfl ?_
      obtain ⟨y7, m8, e_y7, e⟩ := o_b2_ex e
      refine g_cv k_Mod_read_113 lv_Mod_375 (by decide +kernel) (T := F_Mod) (N := 61) (ci := 10) rfl (sk_Mod s) (s_Mod_oldAsIf (bc := 0) (bs := 0) s F x2 m6 e_y7 (by omega)) rfl rfl (Nat.le_of_ble_eq_true rfl) (by simp [Value.category]) (by omega) (by omega) (by omega) ?_
      refine g_goto (tgt := 124) k_Mod_read_116 (by decide) ?_
      exact G.wl (wls (wld (wld (wls (wls wl0))))) (t_Mod_read_124 s F x3 x4 m8 hq e hd)
    · rw [if_neg c] at e
      refine g_aload_n k_Mod_read_119 rfl rfl ?_
      refine g_iload_n k_Mod_read_120 rfl rfl ?_
      obtain ⟨y9, m10, e_y9, e⟩ := o_b2_ex e
      refine g_cv k_Mod_read_121 lv_Mod_378 (by decide +kernel) (T := F_Mod) (N := 61) (ci := 10) rfl (sk_Mod s) (s_Mod_newAsIf (bc := 0) (bs := 0) s F x2 m6 e_y9 (by omega)) rfl rfl (Nat.le_of_ble_eq_true rfl) (by simp [Value.category]) (by omega) (by omega) (by omega) ?_
      exact G.wl (wls (wld (wld (wls (wls wl0))))) (t_Mod_read_124 s F x3 x4 m10 hq e hd)
  · rw [if_neg c] at e
    refine g_iconst (v := 0) k_Mod_read_90 rfl ?_
    refine g_iret k_Mod_read_91 rfl ?_
    exact (by cases e; exact hq)
def b_Mod_read_61 (F : Nat) (x1 : Int32) (x2 : Int32) (x3 : Int32) (x4 : Int32) (xt0 : Int32) (m : aM) : Option (Int32 × aM) :=
  o_b2 (f_Mod_bad xt0 2 m) fun y1 m2 =>
  (if y1 = 0 then
  o_gd (inb x2 40) <|
  (if (m2 8473 x2.toNatClampNeg) = 0 then
  b_Mod_read_83 F x1 x2 x3 x4 1 m2
  else
  b_Mod_read_83 F x1 x2 x3 x4 0 m2
  )
  else
  some (0, m2)
  )
theorem t_Mod_read_61 {K : aK} {d bc bs : Nat} {g : aG} (s : SyM g) {Q : aQ} {r : Int32} {m' : aM} (F : Nat) (x1 : Int32) (x2 : Int32) (x3 : Int32) (x4 : Int32) (xt0 : Int32) (m : aM) (hq : Q (.inl (some (.int r))) (g, m')) (e : b_Mod_read_61 F x1 x2 x3 x4 xt0 m = some (r, m')) (hd : 401 ≤ d) : G K M_Mod_read d bc bs 61 [.ref 242, .int x1, .int x2, .int x3, .int x4] [.int xt0, .ref 242] (g, m) Q := by
  unfold b_Mod_read_61 at e
  refine g_iconst (v := 2) k_Mod_read_61 rfl ?_
  obtain ⟨y1, m2, e_y1, e⟩ := o_b2_ex e
  refine g_cv k_Mod_read_62 lv_Mod_240 (by decide +kernel) (T := F_Mod) (N := 61) (ci := 10) rfl (sk_Mod s) (s_Mod_bad (bc := 0) (bs := 0) s xt0 2 m e_y1) rfl rfl (Nat.le_of_ble_eq_true rfl) (by simp [Value.category]) (by omega) (by omega) (by omega) ?_
  refine g_if_ne (tgt := 90) k_Mod_read_65 (by decide) (fun c => ?_) (fun c => ?_)
  · rw [if_pos c] at e
    refine g_aload_n k_Mod_read_68 rfl rfl ?_
    refine g_aload_n k_Mod_read_69 rfl rfl ?_
    refine p_getr k_Mod_read_70 fl_Mod_96 rfl (sk_Mod s) (by decide) (sr_Mod_50 s) ?_
    refine g_iload_n k_Mod_read_73 rfl rfl ?_
    obtain ⟨q3, e⟩ := o_gd_ex e
    refine p_zald k_Mod_read_74 (sa_Mod_50 s) (inb_in q3) (j := x2.toNatClampNeg) rfl ?_
    refine g_if_ne (tgt := 82) k_Mod_read_75 (by decide) (fun c => ?_) (fun c => ?_)
    · rw [if_pos c] at e
      refine g_iconst (v := 1) k_Mod_read_78 rfl ?_
      refine g_goto (tgt := 83) k_Mod_read_79 (by decide) ?_
      exact (t_Mod_read_83 s F x1 x2 x3 x4 1 m2 hq e hd)
    · rw [if_neg c] at e
      refine g_iconst (v := 0) k_Mod_read_82 rfl ?_
      exact (t_Mod_read_83 s F x1 x2 x3 x4 0 m2 hq e hd)
  · rw [if_neg c] at e
    refine g_iconst (v := 0) k_Mod_read_90 rfl ?_
    refine g_iret k_Mod_read_91 rfl ?_
    exact (by cases e; exact hq)
def b_Mod_read_56 (F : Nat) (x1 : Int32) (x2 : Int32) (x3 : Int32) (x4 : Int32) (m : aM) : Option (Int32 × aM) :=
  b_Mod_read_61 F x1 x2 x3 x4 1 m
theorem t_Mod_read_56 {K : aK} {d bc bs : Nat} {g : aG} (s : SyM g) {Q : aQ} {r : Int32} {m' : aM} (F : Nat) (x1 : Int32) (x2 : Int32) (x3 : Int32) (x4 : Int32) (m : aM) (hq : Q (.inl (some (.int r))) (g, m')) (e : b_Mod_read_56 F x1 x2 x3 x4 m = some (r, m')) (hd : 401 ≤ d) : G K M_Mod_read d bc bs 56 [.ref 242, .int x1, .int x2, .int x3, .int x4] [.ref 242] (g, m) Q := by
  unfold b_Mod_read_56 at e
  refine g_iconst (v := 1) k_Mod_read_56 rfl ?_
  refine g_goto (tgt := 61) k_Mod_read_57 (by decide) ?_
  exact (t_Mod_read_61 s F x1 x2 x3 x4 1 m hq e hd)
def b_Mod_read_19 (F : Nat) (x1 : Int32) (x2 : Int32) (x3 : Int32) (x4 : Int32) (xt0 : Int32) (m : aM) : Option (Int32 × aM) :=
  o_b2 (f_Mod_bad xt0 1 m) fun y1 m2 =>
  (if y1 = 0 then
  o_b (f_Mod_in x1 0 7 m2) fun y3 =>
  (if y3 = 0 then
  b_Mod_read_56 F x1 x2 x3 x4 m2
  else
  o_b (f_Mod_in x3 0 1 m2) fun y4 =>
  (if y4 = 0 then
  b_Mod_read_56 F x1 x2 x3 x4 m2
  else
  o_b (f_Mod_in x4 0 3 m2) fun y5 =>
  (if y5 = 0 then
  b_Mod_read_56 F x1 x2 x3 x4 m2
  else
  b_Mod_read_61 F x1 x2 x3 x4 0 m2
  )
  )
  )
  else
  some (0, m2)
  )
theorem t_Mod_read_19 {K : aK} {d bc bs : Nat} {g : aG} (s : SyM g) {Q : aQ} {r : Int32} {m' : aM} (F : Nat) (x1 : Int32) (x2 : Int32) (x3 : Int32) (x4 : Int32) (xt0 : Int32) (m : aM) (hq : Q (.inl (some (.int r))) (g, m')) (e : b_Mod_read_19 F x1 x2 x3 x4 xt0 m = some (r, m')) (hd : 401 ≤ d) : G K M_Mod_read d bc bs 19 [.ref 242, .int x1, .int x2, .int x3, .int x4] [.int xt0, .ref 242] (g, m) Q := by
  unfold b_Mod_read_19 at e
  refine g_iconst (v := 1) k_Mod_read_19 rfl ?_
  obtain ⟨y1, m2, e_y1, e⟩ := o_b2_ex e
  refine g_cv k_Mod_read_20 lv_Mod_240 (by decide +kernel) (T := F_Mod) (N := 61) (ci := 10) rfl (sk_Mod s) (s_Mod_bad (bc := 0) (bs := 0) s xt0 1 m e_y1) rfl rfl (Nat.le_of_ble_eq_true rfl) (by simp [Value.category]) (by omega) (by omega) (by omega) ?_
  refine g_if_ne (tgt := 90) k_Mod_read_23 (by decide) (fun c => ?_) (fun c => ?_)
  · rw [if_pos c] at e
    refine g_aload_n k_Mod_read_26 rfl rfl ?_
    refine g_iload_n k_Mod_read_27 rfl rfl ?_
    refine g_iconst (v := 0) k_Mod_read_28 rfl ?_
    refine g_bipush (v := 7) k_Mod_read_29 rfl ?_
    obtain ⟨y3, e_y3, e⟩ := o_b_ex e
    refine g_cs k_Mod_read_31 ls_Mod_236 (by decide +kernel) (s_Mod_in (bc := 0) (bs := 0) s x1 0 7 m2 e_y3) rfl rfl (Nat.le_of_ble_eq_true rfl) (by simp [Value.category]) (by omega) (by omega) (by omega) ?_
    refine g_if_eq (tgt := 56) k_Mod_read_34 (by decide) (fun c => ?_) (fun c => ?_)
    · rw [if_pos c] at e
      exact (t_Mod_read_56 s F x1 x2 x3 x4 m2 hq e hd)
    · rw [if_neg c] at e
      refine g_iload_n k_Mod_read_37 rfl rfl ?_
      refine g_iconst (v := 0) k_Mod_read_38 rfl ?_
      refine g_iconst (v := 1) k_Mod_read_39 rfl ?_
      obtain ⟨y4, e_y4, e⟩ := o_b_ex e
      refine g_cs k_Mod_read_40 ls_Mod_236 (by decide +kernel) (s_Mod_in (bc := 0) (bs := 0) s x3 0 1 m2 e_y4) rfl rfl (Nat.le_of_ble_eq_true rfl) (by simp [Value.category]) (by omega) (by omega) (by omega) ?_
      refine g_if_eq (tgt := 56) k_Mod_read_43 (by decide) (fun c => ?_) (fun c => ?_)
      · rw [if_pos c] at e
        exact (t_Mod_read_56 s F x1 x2 x3 x4 m2 hq e hd)
      · rw [if_neg c] at e
        refine g_iload k_Mod_read_46 rfl ?_
        refine g_iconst (v := 0) k_Mod_read_48 rfl ?_
        refine g_iconst (v := 3) k_Mod_read_49 rfl ?_
        obtain ⟨y5, e_y5, e⟩ := o_b_ex e
        refine g_cs k_Mod_read_50 ls_Mod_236 (by decide +kernel) (s_Mod_in (bc := 0) (bs := 0) s x4 0 3 m2 e_y5) rfl rfl (Nat.le_of_ble_eq_true rfl) (by simp [Value.category]) (by omega) (by omega) (by omega) ?_
        refine g_if_ne (tgt := 60) k_Mod_read_53 (by decide) (fun c => ?_) (fun c => ?_)
        · rw [if_pos c] at e
          exact (t_Mod_read_56 s F x1 x2 x3 x4 m2 hq e hd)
        · rw [if_neg c] at e
          refine g_iconst (v := 0) k_Mod_read_60 rfl ?_
          exact (t_Mod_read_61 s F x1 x2 x3 x4 0 m2 hq e hd)
  · rw [if_neg c] at e
    refine g_iconst (v := 0) k_Mod_read_90 rfl ?_
    refine g_iret k_Mod_read_91 rfl ?_
    exact (by cases e; exact hq)
def f_Mod_read (F : Nat) (x1 : Int32) (x2 : Int32) (x3 : Int32) (x4 : Int32) (m : aM) : Option (Int32 × aM) :=
  o_let (a_st m 242 0 0) fun m1 =>
  o_b (f_Mod_isKey x2 m1) fun y2 =>
  (if y2 = 0 then
  b_Mod_read_19 F x1 x2 x3 x4 1 m1
  else
  b_Mod_read_19 F x1 x2 x3 x4 0 m1
  )
theorem s_Mod_read {K : aK} {d bc bs : Nat} {g : aG} (s : SyM g) (F : Nat) (x1 : Int32) (x2 : Int32) (x3 : Int32) (x4 : Int32) (m : aM) {r : Int32} {m' : aM} (e : f_Mod_read F x1 x2 x3 x4 m = some (r, m')) (hd : 401 ≤ d) : Sp K M_Mod_read d bc bs [.ref 242, .int x1, .int x2, .int x3, .int x4] (g, m) (some (.int r)) (g, m') := by
  refine sp_of ok_Mod_read rfl (Nat.le_of_ble_eq_true rfl) (by simp [Value.category]) (fun Q hq => ?_)
  unfold f_Mod_read at e
  refine g_aload_n k_Mod_read_0 rfl rfl ?_
  refine g_iconst (v := 0) k_Mod_read_1 rfl ?_
  refine p_puti k_Mod_read_2 fl_Mod_131 rfl ⟨R_Mod, F_Mod, 61, rfl, Or.inl rfl⟩ (sk_Mod s) (by decide) ?_
  obtain ⟨m1, u_m1, e⟩ := o_let_ex e
  refine G.hm u_m1 ?_
  refine g_aload_n k_Mod_read_5 rfl rfl ?_
  refine g_aload_n k_Mod_read_6 rfl rfl ?_
  refine g_iload_n k_Mod_read_7 rfl rfl ?_
  obtain ⟨y2, e_y2, e⟩ := o_b_ex e
  refine g_cv k_Mod_read_8 lv_Mod_369 (by decide +kernel) (T := F_Mod) (N := 61) (ci := 10) rfl (sk_Mod s) (s_Mod_isKey (bc := 0) (bs := 0) s x2 m1 e_y2 (by omega)) rfl rfl (Nat.le_of_ble_eq_true rfl) (by simp [Value.category]) (by omega) (by omega) (by omega) ?_
  refine g_if_ne (tgt := 18) k_Mod_read_11 (by decide) (fun c => ?_) (fun c => ?_)
  · rw [if_pos c] at e
    refine g_iconst (v := 1) k_Mod_read_14 rfl ?_
    refine g_goto (tgt := 19) k_Mod_read_15 (by decide) ?_
    exact (t_Mod_read_19 s F x1 x2 x3 x4 1 m1 hq e hd)
  · rw [if_neg c] at e
    refine g_iconst (v := 0) k_Mod_read_18 rfl ?_
    exact (t_Mod_read_19 s F x1 x2 x3 x4 0 m1 hq e hd)
def b_Mod_writeOld_39 (F : Nat) (rec_8 : Int32 → Int32 → Int32 → Int32 → aM → Option (Int32 × aM)) (x1 : Int32) (x2 : Int32) (x3 : Int32) (x4 : Int32) (xt0 : Int32) (xt1 : Int32) (at2 : Nat) (m : aM) : Option (Int32 × aM) :=
  o_gd (inb xt1 4) <|
  o_let (a_st m at2 xt1.toNatClampNeg xt0) fun m2 =>
  rec_8 x1 x2 x3 (x4 + 1) m2
theorem t_Mod_writeOld_39 {K : aK} {d bc bs : Nat} {g : aG} (s : SyM g) {Q : aQ} {r : Int32} {m' : aM} (F : Nat) (rec_8 : Int32 → Int32 → Int32 → Int32 → aM → Option (Int32 × aM)) (hr_8 : ∀ (x1 : Int32) (x2 : Int32) (x3 : Int32) (x4 : Int32) (m : aM), rec_8 x1 x2 x3 x4 m = some (r, m') → G K M_Mod_writeOld d bc bs 8 [.ref 242, .int x1, .int x2, .int x3, .int x4] [] (g, m) Q) (x1 : Int32) (x2 : Int32) (x3 : Int32) (x4 : Int32) (xt0 : Int32) (xt1 : Int32) (at2 : Nat) (ht2 : g.2.1 at2 = (0, 4)) (m : aM) (hq : Q (.inl none) (g, m')) (e : b_Mod_writeOld_39 F rec_8 x1 x2 x3 x4 xt0 xt1 at2 m = some (r, m')) (hd : 401 ≤ d) : G K M_Mod_writeOld d bc bs 39 [.ref 242, .int x1, .int x2, .int x3, .int x4] [.int xt0, .int xt1, .ref at2] (g, m) Q := by
  unfold b_Mod_writeOld_39 at e
  obtain ⟨q1, e⟩ := o_gd_ex e
  refine p_iast k_Mod_writeOld_39 ht2 (inb_in q1) (j := xt1.toNatClampNeg) rfl ?_
  obtain ⟨m2, u_m2, e⟩ := o_let_ex e
  refine G.hm u_m2 ?_
  refine g_iinc (v := _ + 1) k_Mod_writeOld_40 rfl rfl (by decide) ?_
  refine g_goto (tgt := 8) k_Mod_writeOld_43 (by decide) ?_
  exact (hr_8 x1 x2 x3 (x4 + 1) m2 e)
def lb_Mod_writeOld_8 (F : Nat) (rec_8 : Int32 → Int32 → Int32 → Int32 → aM → Option (Int32 × aM)) (x1 : Int32) (x2 : Int32) (x3 : Int32) (x4 : Int32) (m : aM) : Option (Int32 × aM) :=
  (if 4 ≤ x4 then
  o_gd (inb x1 40) <|
  (if (m 8475 x1.toNatClampNeg) = 0 then
  some (0, m)
  else
  o_b2 (f_Mod_takesSeen F x1 m) fun y2 m3 =>
  some (0, m3)
  )
  else
  o_gd (inb x1 40) <|
  (if x4 = x2 then
  b_Mod_writeOld_39 F rec_8 x1 x2 x3 x4 x3 x4 (8479 + x1.toNatClampNeg) m
  else
  o_gd (inb x4 4) <|
  b_Mod_writeOld_39 F rec_8 x1 x2 x3 x4 (m 252 x4.toNatClampNeg) x4 (8479 + x1.toNatClampNeg) m
  )
  )
theorem tb_Mod_writeOld_8 {K : aK} {d bc bs : Nat} {g : aG} (s : SyM g) {Q : aQ} {r : Int32} {m' : aM} (F : Nat) (rec_8 : Int32 → Int32 → Int32 → Int32 → aM → Option (Int32 × aM)) (hr_8 : ∀ (x1 : Int32) (x2 : Int32) (x3 : Int32) (x4 : Int32) (m : aM), rec_8 x1 x2 x3 x4 m = some (r, m') → G K M_Mod_writeOld d bc bs 8 [.ref 242, .int x1, .int x2, .int x3, .int x4] [] (g, m) Q) (x1 : Int32) (x2 : Int32) (x3 : Int32) (x4 : Int32) (m : aM) (hq : Q (.inl none) (g, m')) (e : lb_Mod_writeOld_8 F rec_8 x1 x2 x3 x4 m = some (r, m')) (hd : 401 ≤ d) : G K M_Mod_writeOld d bc bs 8 [.ref 242, .int x1, .int x2, .int x3, .int x4] [] (g, m) Q := by
  unfold lb_Mod_writeOld_8 at e
  refine g_iload k_Mod_writeOld_8 rfl ?_
  refine g_iconst (v := 4) k_Mod_writeOld_10 rfl ?_
  refine g_icmp_ge (tgt := 46) k_Mod_writeOld_11 (by decide) (fun c => ?_) (fun c => ?_)
  · rw [if_pos c] at e
    refine g_aload_n k_Mod_writeOld_46 rfl rfl ?_
    refine p_getr k_Mod_writeOld_47 fl_Mod_102 rfl (sk_Mod s) (by decide) (sr_Mod_52 s) ?_
    refine g_iload_n k_Mod_writeOld_50 rfl rfl ?_
    obtain ⟨q1, e⟩ := o_gd_ex e
    refine p_iald k_Mod_writeOld_51 (sa_Mod_52 s) (inb_in q1) (j := x1.toNatClampNeg) rfl ?_
    refine g_if_eq (tgt := 60) k_Mod_writeOld_52 (by decide) (fun c => ?_) (fun c => ?_)
    · rw [if_pos c] at e
      refine g_vret k_Mod_writeOld_60 rfl ?_
      exact (by cases e; exact hq)
    · rw [if_neg c] at e
      refine g_aload_n k_Mod_writeOld_55 rfl rfl ?_
      refine g_iload_n k_Mod_writeOld_56 rfl rfl ?_
      obtain ⟨y2, m3, e_y2, e⟩ := o_b2_ex e
      refine g_cv k_Mod_writeOld_57 lv_Mod_372 (by decide +kernel) (T := F_Mod) (N := 61) (ci := 10) rfl (sk_Mod s) (s_Mod_takesSeen (bc := 0) (bs := 0) s F x1 m e_y2 (by omega)) rfl rfl (Nat.le_of_ble_eq_true rfl) (by simp [Value.category]) (by omega) (by omega) (by omega) ?_
      refine g_vret k_Mod_writeOld_60 rfl ?_
      exact (by cases e; exact hq)
  · rw [if_neg c] at e
    refine g_aload_n k_Mod_writeOld_14 rfl rfl ?_
    refine p_getr k_Mod_writeOld_15 fl_Mod_111 rfl (sk_Mod s) (by decide) (sr_Mod_55 s) ?_
    refine g_iload_n k_Mod_writeOld_18 rfl rfl ?_
    obtain ⟨q4, e⟩ := o_gd_ex e
    refine p_aald k_Mod_writeOld_19 (sa_Mod_55 s) (by decide) (by decide) (inb_in q4) (j := x1.toNatClampNeg) rfl (si_Mod_55 s _ (vp_lt (inb_in q4))).1 ?_
    refine g_iload k_Mod_writeOld_20 rfl ?_
    refine g_iload k_Mod_writeOld_22 rfl ?_
    refine g_iload_n k_Mod_writeOld_24 rfl rfl ?_
    refine g_icmp_ne (tgt := 32) k_Mod_writeOld_25 (by decide) (fun c => ?_) (fun c => ?_)
    · rw [if_pos c] at e
      refine g_iload_n k_Mod_writeOld_28 rfl rfl ?_
      refine g_goto (tgt := 39) k_Mod_writeOld_29 (by decide) ?_
      exact (t_Mod_writeOld_39 s F rec_8 hr_8 x1 x2 x3 x4 x3 x4 (8479 + x1.toNatClampNeg) ((si_Mod_55 s _ (vp_lt (inb_in q4))).2) m hq e hd)
    · rw [if_neg c] at e
      refine g_aload_n k_Mod_writeOld_32 rfl rfl ?_
      refine p_getr k_Mod_writeOld_33 fl_Mod_43 rfl (sk_Mod s) (by decide) (sr_Mod_27 s) ?_
      refine g_iload k_Mod_writeOld_36 rfl ?_
      obtain ⟨q5, e⟩ := o_gd_ex e
      refine p_iald k_Mod_writeOld_38 (sa_Mod_27 s) (inb_in q5) (j := x4.toNatClampNeg) rfl ?_
      exact (t_Mod_writeOld_39 s F rec_8 hr_8 x1 x2 x3 x4 (m 252 x4.toNatClampNeg) x4 (8479 + x1.toNatClampNeg) ((si_Mod_55 s _ (vp_lt (inb_in q4))).2) m hq e hd)
def ll_Mod_writeOld_8 (F : Nat) : Nat → Int32 → Int32 → Int32 → Int32 → aM → Option (Int32 × aM)
  | 0, _, _, _, _, _ => none
  | N + 1, x1, x2, x3, x4, m => lb_Mod_writeOld_8 F (ll_Mod_writeOld_8 F N) x1 x2 x3 x4 m
theorem t_Mod_writeOld_8 {K : aK} {d bc bs : Nat} {g : aG} (s : SyM g) {Q : aQ} {r : Int32} {m' : aM} (F : Nat) : ∀ (N : Nat) (x1 : Int32) (x2 : Int32) (x3 : Int32) (x4 : Int32) (m : aM), Q (.inl none) (g, m') → ll_Mod_writeOld_8 F N x1 x2 x3 x4 m = some (r, m') → 401 ≤ d → G K M_Mod_writeOld d bc bs 8 [.ref 242, .int x1, .int x2, .int x3, .int x4] [] (g, m) Q
  | 0, _, _, _, _, _ => fun _ e => nomatch e
  | N + 1, x1, x2, x3, x4, m => fun hq e hd => tb_Mod_writeOld_8 s F (ll_Mod_writeOld_8 F N) (fun x1 x2 x3 x4 m e => t_Mod_writeOld_8 s F N x1 x2 x3 x4 m hq e hd) x1 x2 x3 x4 m hq e hd
def f_Mod_writeOld (F : Nat) (x1 : Int32) (x2 : Int32) (x3 : Int32) (m : aM) : Option (Int32 × aM) :=
  o_b2 (f_Mod_oldAsIf F x1 m) fun y1 m2 =>
  ll_Mod_writeOld_8 F F x1 x2 x3 0 m2
theorem s_Mod_writeOld {K : aK} {d bc bs : Nat} {g : aG} (s : SyM g) (F : Nat) (x1 : Int32) (x2 : Int32) (x3 : Int32) (m : aM) {r : Int32} {m' : aM} (e : f_Mod_writeOld F x1 x2 x3 m = some (r, m')) (hd : 401 ≤ d) : Sp K M_Mod_writeOld d bc bs [.ref 242, .int x1, .int x2, .int x3] (g, m) none (g, m') := by
  refine sp_of ok_Mod_writeOld rfl (Nat.le_of_ble_eq_true rfl) (by simp [Value.category]) (fun Q hq => ?_)
  unfold f_Mod_writeOld at e
  refine g_aload_n k_Mod_writeOld_0 rfl rfl ?_
  refine g_iload_n k_Mod_writeOld_1 rfl rfl ?_
  obtain ⟨y1, m2, e_y1, e⟩ := o_b2_ex e
  refine g_cv k_Mod_writeOld_2 lv_Mod_375 (by decide +kernel) (T := F_Mod) (N := 61) (ci := 10) rfl (sk_Mod s) (s_Mod_oldAsIf (bc := 0) (bs := 0) s F x1 m e_y1 (by omega)) rfl rfl (Nat.le_of_ble_eq_true rfl) (by simp [Value.category]) (by omega) (by omega) (by omega) ?_
  refine g_iconst (v := 0) k_Mod_writeOld_5 rfl ?_
  refine g_istore k_Mod_writeOld_6 (by decide) ?_
  exact (t_Mod_writeOld_8 s F F x1 x2 x3 0 m2 hq e hd)
def lb_Mod_takesPut_44 (F : Nat) (rec_44 : Int32 → Int32 → aM → Option (Int32 × aM)) (x1 : Int32) (x4 : Int32) (m : aM) : Option (Int32 × aM) :=
  (if 4 ≤ x4 then
  some (0, m)
  else
  o_gd (inb x1 40) <|
  o_gd (inb x4 4) <|
  o_gd (inb x4 4) <|
  o_let (a_st m (8479 + x1.toNatClampNeg) x4.toNatClampNeg (m 252 x4.toNatClampNeg)) fun m4 =>
  rec_44 x1 (x4 + 1) m4
  )
theorem tb_Mod_takesPut_44 {K : aK} {d bc bs : Nat} {g : aG} (s : SyM g) {Q : aQ} {r : Int32} {m' : aM} (F : Nat) (rec_44 : Int32 → Int32 → aM → Option (Int32 × aM)) (hr_44 : ∀ (x1 : Int32) (x4 : Int32) (m : aM), rec_44 x1 x4 m = some (r, m') → G K M_Mod_takesPut d bc bs 44 [.ref 242, .int x1, .double 0, .double 0, .int x4] [] (g, m) Q) (x1 : Int32) (x4 : Int32) (m : aM) (hq : Q (.inl none) (g, m')) (e : lb_Mod_takesPut_44 F rec_44 x1 x4 m = some (r, m')) (hd : 399 ≤ d) : G K M_Mod_takesPut d bc bs 44 [.ref 242, .int x1, .double 0, .double 0, .int x4] [] (g, m) Q := by
  unfold lb_Mod_takesPut_44 at e
  refine g_iload k_Mod_takesPut_44 rfl ?_
  refine g_iconst (v := 4) k_Mod_takesPut_46 rfl ?_
  refine g_icmp_ge (tgt := 72) k_Mod_takesPut_47 (by decide) (fun c => ?_) (fun c => ?_)
  · rw [if_pos c] at e
    refine g_vret k_Mod_takesPut_72 rfl ?_
    exact (by cases e; exact hq)
  · rw [if_neg c] at e
    refine g_aload_n k_Mod_takesPut_50 rfl rfl ?_
    refine p_getr k_Mod_takesPut_51 fl_Mod_111 rfl (sk_Mod s) (by decide) (sr_Mod_55 s) ?_
    refine g_iload_n k_Mod_takesPut_54 rfl rfl ?_
    obtain ⟨q1, e⟩ := o_gd_ex e
    refine p_aald k_Mod_takesPut_55 (sa_Mod_55 s) (by decide) (by decide) (inb_in q1) (j := x1.toNatClampNeg) rfl (si_Mod_55 s _ (vp_lt (inb_in q1))).1 ?_
    refine g_iload k_Mod_takesPut_56 rfl ?_
    refine g_aload_n k_Mod_takesPut_58 rfl rfl ?_
    refine p_getr k_Mod_takesPut_59 fl_Mod_43 rfl (sk_Mod s) (by decide) (sr_Mod_27 s) ?_
    refine g_iload k_Mod_takesPut_62 rfl ?_
    obtain ⟨q2, e⟩ := o_gd_ex e
    refine p_iald k_Mod_takesPut_64 (sa_Mod_27 s) (inb_in q2) (j := x4.toNatClampNeg) rfl ?_
    obtain ⟨q3, e⟩ := o_gd_ex e
    refine p_iast k_Mod_takesPut_65 (si_Mod_55 s _ (vp_lt (inb_in q1))).2 (inb_in q3) (j := x4.toNatClampNeg) rfl ?_
    obtain ⟨m4, u_m4, e⟩ := o_let_ex e
    refine G.hm u_m4 ?_
    refine g_iinc (v := _ + 1) k_Mod_takesPut_66 rfl rfl (by decide) ?_
    refine g_goto (tgt := 44) k_Mod_takesPut_69 (by decide) ?_
    exact (hr_44 x1 (x4 + 1) m4 e)
def ll_Mod_takesPut_44 (F : Nat) : Nat → Int32 → Int32 → aM → Option (Int32 × aM)
  | 0, _, _, _ => none
  | N + 1, x1, x4, m => lb_Mod_takesPut_44 F (ll_Mod_takesPut_44 F N) x1 x4 m
theorem t_Mod_takesPut_44 {K : aK} {d bc bs : Nat} {g : aG} (s : SyM g) {Q : aQ} {r : Int32} {m' : aM} (F : Nat) : ∀ (N : Nat) (x1 : Int32) (x4 : Int32) (m : aM), Q (.inl none) (g, m') → ll_Mod_takesPut_44 F N x1 x4 m = some (r, m') → 399 ≤ d → G K M_Mod_takesPut d bc bs 44 [.ref 242, .int x1, .double 0, .double 0, .int x4] [] (g, m) Q
  | 0, _, _, _ => fun _ e => nomatch e
  | N + 1, x1, x4, m => fun hq e hd => tb_Mod_takesPut_44 s F (ll_Mod_takesPut_44 F N) (fun x1 x4 m e => t_Mod_takesPut_44 s F N x1 x4 m hq e hd) x1 x4 m hq e hd
def lb_Mod_takesPut_3 (F : Nat) (rec_3 : Int32 → Nat → Nat → Int32 → aM → Option (Int32 × aM)) (x1 : Int32) (a2 : Nat) (a3 : Nat) (x4 : Int32) (m : aM) : Option (Int32 × aM) :=
  (if 4 ≤ x4 then
  o_b2 (f_Mod_puts F  m) fun y1 m2 =>
  ll_Mod_takesPut_44 F F x1 0 m2
  else
  o_gd (inb x4 4) <|
  o_gd (inb x4 4) <|
  o_let (a_st m 250 x4.toNatClampNeg (m a2 x4.toNatClampNeg)) fun m5 =>
  o_gd (inb x4 4) <|
  o_gd (inb x4 4) <|
  o_let (a_st m5 249 x4.toNatClampNeg (m5 a3 x4.toNatClampNeg)) fun m8 =>
  rec_3 x1 a2 a3 (x4 + 1) m8
  )
theorem tb_Mod_takesPut_3 {K : aK} {d bc bs : Nat} {g : aG} (s : SyM g) {Q : aQ} {r : Int32} {m' : aM} (F : Nat) (rec_3 : Int32 → Nat → Nat → Int32 → aM → Option (Int32 × aM)) (hr_3 : ∀ (x1 : Int32) (a2 : Nat) (h2 : g.2.1 a2 = (0, 4)) (a3 : Nat) (h3 : g.2.1 a3 = (0, 4)) (x4 : Int32) (m : aM), rec_3 x1 a2 a3 x4 m = some (r, m') → G K M_Mod_takesPut d bc bs 3 [.ref 242, .int x1, .ref a2, .ref a3, .int x4] [] (g, m) Q) (x1 : Int32) (a2 : Nat) (h2 : g.2.1 a2 = (0, 4)) (a3 : Nat) (h3 : g.2.1 a3 = (0, 4)) (x4 : Int32) (m : aM) (hq : Q (.inl none) (g, m')) (e : lb_Mod_takesPut_3 F rec_3 x1 a2 a3 x4 m = some (r, m')) (hd : 399 ≤ d) : G K M_Mod_takesPut d bc bs 3 [.ref 242, .int x1, .ref a2, .ref a3, .int x4] [] (g, m) Q := by
  unfold lb_Mod_takesPut_3 at e
  refine g_iload k_Mod_takesPut_3 rfl ?_
  refine g_iconst (v := 4) k_Mod_takesPut_5 rfl ?_
  refine g_icmp_ge (tgt := 37) k_Mod_takesPut_6 (by decide) (fun c => ?_) (fun c => ?_)
  · rw [if_pos c] at e
    refine g_aload_n k_Mod_takesPut_37 rfl rfl ?_
    obtain ⟨y1, m2, e_y1, e⟩ := o_b2_ex e
    refine g_cv k_Mod_takesPut_38 lv_Mod_277 (by decide +kernel) (T := F_Mod) (N := 61) (ci := 10) rfl (sk_Mod s) (s_Mod_puts (bc := 0) (bs := 0) s F  m e_y1 (by omega)) rfl rfl (Nat.le_of_ble_eq_true rfl) (by simp [Value.category]) (by omega) (by omega) (by omega) ?_
    refine g_iconst (v := 0) k_Mod_takesPut_41 rfl ?_
    refine g_istore k_Mod_takesPut_42 (by decide) ?_
    exact G.wl (wls (wls (wld (wld (wls wl0))))) (t_Mod_takesPut_44 s F F x1 0 m2 hq e hd)
  · rw [if_neg c] at e
    refine g_aload_n k_Mod_takesPut_9 rfl rfl ?_
    refine p_getr k_Mod_takesPut_10 fl_Mod_37 rfl (sk_Mod s) (by decide) (sr_Mod_25 s) ?_
    refine g_iload k_Mod_takesPut_13 rfl ?_
    refine g_aload_n k_Mod_takesPut_15 rfl rfl ?_
    refine g_iload k_Mod_takesPut_16 rfl ?_
    obtain ⟨q3, e⟩ := o_gd_ex e
    refine p_iald k_Mod_takesPut_18 h2 (inb_in q3) (j := x4.toNatClampNeg) rfl ?_
    obtain ⟨q4, e⟩ := o_gd_ex e
    refine p_iast k_Mod_takesPut_19 (sa_Mod_25 s) (inb_in q4) (j := x4.toNatClampNeg) rfl ?_
    obtain ⟨m5, u_m5, e⟩ := o_let_ex e
    refine G.hm u_m5 ?_
    refine g_aload_n k_Mod_takesPut_20 rfl rfl ?_
    refine p_getr k_Mod_takesPut_21 fl_Mod_34 rfl (sk_Mod s) (by decide) (sr_Mod_24 s) ?_
    refine g_iload k_Mod_takesPut_24 rfl ?_
    refine g_aload_n k_Mod_takesPut_26 rfl rfl ?_
    refine g_iload k_Mod_takesPut_27 rfl ?_
    obtain ⟨q6, e⟩ := o_gd_ex e
    refine p_iald k_Mod_takesPut_29 h3 (inb_in q6) (j := x4.toNatClampNeg) rfl ?_
    obtain ⟨q7, e⟩ := o_gd_ex e
    refine p_iast k_Mod_takesPut_30 (sa_Mod_24 s) (inb_in q7) (j := x4.toNatClampNeg) rfl ?_
    obtain ⟨m8, u_m8, e⟩ := o_let_ex e
    refine G.hm u_m8 ?_
    refine g_iinc (v := _ + 1) k_Mod_takesPut_31 rfl rfl (by decide) ?_
    refine g_goto (tgt := 3) k_Mod_takesPut_34 (by decide) ?_
    exact (hr_3 x1 a2 h2 a3 h3 (x4 + 1) m8 e)
def ll_Mod_takesPut_3 (F : Nat) : Nat → Int32 → Nat → Nat → Int32 → aM → Option (Int32 × aM)
  | 0, _, _, _, _, _ => none
  | N + 1, x1, a2, a3, x4, m => lb_Mod_takesPut_3 F (ll_Mod_takesPut_3 F N) x1 a2 a3 x4 m
theorem t_Mod_takesPut_3 {K : aK} {d bc bs : Nat} {g : aG} (s : SyM g) {Q : aQ} {r : Int32} {m' : aM} (F : Nat) : ∀ (N : Nat) (x1 : Int32) (a2 : Nat) (h2 : g.2.1 a2 = (0, 4)) (a3 : Nat) (h3 : g.2.1 a3 = (0, 4)) (x4 : Int32) (m : aM), Q (.inl none) (g, m') → ll_Mod_takesPut_3 F N x1 a2 a3 x4 m = some (r, m') → 399 ≤ d → G K M_Mod_takesPut d bc bs 3 [.ref 242, .int x1, .ref a2, .ref a3, .int x4] [] (g, m) Q
  | 0, _, _, _, _, _, _, _ => fun _ e => nomatch e
  | N + 1, x1, a2, h2, a3, h3, x4, m => fun hq e hd => tb_Mod_takesPut_3 s F (ll_Mod_takesPut_3 F N) (fun x1 a2 h2 a3 h3 x4 m e => t_Mod_takesPut_3 s F N x1 a2 h2 a3 h3 x4 m hq e hd) x1 a2 h2 a3 h3 x4 m hq e hd
def f_Mod_takesPut (F : Nat) (x1 : Int32) (a2 : Nat) (a3 : Nat) (m : aM) : Option (Int32 × aM) :=
  ll_Mod_takesPut_3 F F x1 a2 a3 0 m
theorem s_Mod_takesPut {K : aK} {d bc bs : Nat} {g : aG} (s : SyM g) (F : Nat) (x1 : Int32) (a2 : Nat) (h2 : g.2.1 a2 = (0, 4)) (a3 : Nat) (h3 : g.2.1 a3 = (0, 4)) (m : aM) {r : Int32} {m' : aM} (e : f_Mod_takesPut F x1 a2 a3 m = some (r, m')) (hd : 399 ≤ d) : Sp K M_Mod_takesPut d bc bs [.ref 242, .int x1, .ref a2, .ref a3] (g, m) none (g, m') := by
  refine sp_of ok_Mod_takesPut rfl (Nat.le_of_ble_eq_true rfl) (by simp [Value.category]) (fun Q hq => ?_)
  unfold f_Mod_takesPut at e
  refine g_iconst (v := 0) k_Mod_takesPut_0 rfl ?_
  refine g_istore k_Mod_takesPut_1 (by decide) ?_
  exact (t_Mod_takesPut_3 s F F x1 a2 h2 a3 h3 0 m hq e hd)
def b_Mod_first_20 (x1 : Int32) (xt0 : Int32) (m : aM) : Option (Int32 × aM) :=
  o_b2 (f_Mod_bad xt0 1 m) fun y1 m2 =>
  (if y1 = 0 then
  o_let (a_st m2 242 47 x1) fun m3 =>
  some ((m2 242 47), m3)
  else
  some (0, m2)
  )
theorem t_Mod_first_20 {K : aK} {d bc bs : Nat} {g : aG} (s : SyM g) {Q : aQ} {r : Int32} {m' : aM} (x1 : Int32) (xt0 : Int32) (m : aM) (hq : Q (.inl (some (.int r))) (g, m')) (e : b_Mod_first_20 x1 xt0 m = some (r, m')) (hd : 1 ≤ d) : G K M_Mod_first d bc bs 20 [.ref 242, .int x1, .double 0] [.int xt0, .ref 242] (g, m) Q := by
  unfold b_Mod_first_20 at e
  refine g_iconst (v := 1) k_Mod_first_20 rfl ?_
  obtain ⟨y1, m2, e_y1, e⟩ := o_b2_ex e
  refine g_cv k_Mod_first_21 lv_Mod_240 (by decide +kernel) (T := F_Mod) (N := 61) (ci := 10) rfl (sk_Mod s) (s_Mod_bad (bc := 0) (bs := 0) s xt0 1 m e_y1) rfl rfl (Nat.le_of_ble_eq_true rfl) (by simp [Value.category]) (by omega) (by omega) (by omega) ?_
  refine g_if_eq (tgt := 29) k_Mod_first_24 (by decide) (fun c => ?_) (fun c => ?_)
  · rw [if_pos c] at e
    refine g_aload_n k_Mod_first_29 rfl rfl ?_
    refine p_geti k_Mod_first_30 fl_Mod_383 rfl (sk_Mod s) (by decide) ?_
    refine g_istore_n k_Mod_first_33 rfl (by decide) ?_
    refine g_aload_n k_Mod_first_34 rfl rfl ?_
    refine g_iload_n k_Mod_first_35 rfl rfl ?_
    refine p_puti k_Mod_first_36 fl_Mod_383 rfl ⟨R_Mod, F_Mod, 61, rfl, Or.inl rfl⟩ (sk_Mod s) (by decide) ?_
    obtain ⟨m3, u_m3, e⟩ := o_let_ex e
    refine G.hm u_m3 ?_
    refine g_iload_n k_Mod_first_39 rfl rfl ?_
    refine g_iret k_Mod_first_40 rfl ?_
    exact (by cases e; exact hq)
  · rw [if_neg c] at e
    refine g_iconst (v := 0) k_Mod_first_27 rfl ?_
    refine g_iret k_Mod_first_28 rfl ?_
    exact (by cases e; exact hq)
def f_Mod_first (x1 : Int32) (m : aM) : Option (Int32 × aM) :=
  o_let (a_st m 242 0 0) fun m1 =>
  o_b (f_Mod_in x1 0 1 m1) fun y2 =>
  (if y2 = 0 then
  b_Mod_first_20 x1 1 m1
  else
  b_Mod_first_20 x1 0 m1
  )
theorem s_Mod_first {K : aK} {d bc bs : Nat} {g : aG} (s : SyM g) (x1 : Int32) (m : aM) {r : Int32} {m' : aM} (e : f_Mod_first x1 m = some (r, m')) (hd : 1 ≤ d) : Sp K M_Mod_first d bc bs [.ref 242, .int x1] (g, m) (some (.int r)) (g, m') := by
  refine sp_of ok_Mod_first rfl (Nat.le_of_ble_eq_true rfl) (by simp [Value.category]) (fun Q hq => ?_)
  unfold f_Mod_first at e
  refine g_aload_n k_Mod_first_0 rfl rfl ?_
  refine g_iconst (v := 0) k_Mod_first_1 rfl ?_
  refine p_puti k_Mod_first_2 fl_Mod_131 rfl ⟨R_Mod, F_Mod, 61, rfl, Or.inl rfl⟩ (sk_Mod s) (by decide) ?_
  obtain ⟨m1, u_m1, e⟩ := o_let_ex e
  refine G.hm u_m1 ?_
  refine g_aload_n k_Mod_first_5 rfl rfl ?_
  refine g_iload_n k_Mod_first_6 rfl rfl ?_
  refine g_iconst (v := 0) k_Mod_first_7 rfl ?_
  refine g_iconst (v := 1) k_Mod_first_8 rfl ?_
  obtain ⟨y2, e_y2, e⟩ := o_b_ex e
  refine g_cs k_Mod_first_9 ls_Mod_236 (by decide +kernel) (s_Mod_in (bc := 0) (bs := 0) s x1 0 1 m1 e_y2) rfl rfl (Nat.le_of_ble_eq_true rfl) (by simp [Value.category]) (by omega) (by omega) (by omega) ?_
  refine g_if_ne (tgt := 19) k_Mod_first_12 (by decide) (fun c => ?_) (fun c => ?_)
  · rw [if_pos c] at e
    refine g_iconst (v := 1) k_Mod_first_15 rfl ?_
    refine g_goto (tgt := 20) k_Mod_first_16 (by decide) ?_
    exact (t_Mod_first_20 s x1 1 m1 hq e hd)
  · rw [if_neg c] at e
    refine g_iconst (v := 0) k_Mod_first_19 rfl ?_
    exact (t_Mod_first_20 s x1 0 m1 hq e hd)
def b_Mod_tick_47 (x1 : Int32) (xt0 : Int32) (m : aM) : Option (Int32 × aM) :=
  o_b2 (f_Mod_bad xt0 2 m) fun y1 m2 =>
  (if y1 = 0 then
  o_let (a_st m2 242 46 ((m2 242 46) + x1)) fun m3 =>
  some ((m3 242 46), m3)
  else
  some (0, m2)
  )
theorem t_Mod_tick_47 {K : aK} {d bc bs : Nat} {g : aG} (s : SyM g) {Q : aQ} {r : Int32} {m' : aM} (x1 : Int32) (xt0 : Int32) (m : aM) (hq : Q (.inl (some (.int r))) (g, m')) (e : b_Mod_tick_47 x1 xt0 m = some (r, m')) (hd : 1 ≤ d) : G K M_Mod_tick d bc bs 47 [.ref 242, .int x1] [.int xt0, .ref 242] (g, m) Q := by
  unfold b_Mod_tick_47 at e
  refine g_iconst (v := 2) k_Mod_tick_47 rfl ?_
  obtain ⟨y1, m2, e_y1, e⟩ := o_b2_ex e
  refine g_cv k_Mod_tick_48 lv_Mod_240 (by decide +kernel) (T := F_Mod) (N := 61) (ci := 10) rfl (sk_Mod s) (s_Mod_bad (bc := 0) (bs := 0) s xt0 2 m e_y1) rfl rfl (Nat.le_of_ble_eq_true rfl) (by simp [Value.category]) (by omega) (by omega) (by omega) ?_
  refine g_if_eq (tgt := 56) k_Mod_tick_51 (by decide) (fun c => ?_) (fun c => ?_)
  · rw [if_pos c] at e
    refine g_aload_n k_Mod_tick_56 rfl rfl ?_
    refine g_dup k_Mod_tick_57 rfl ?_
    refine p_geti k_Mod_tick_58 fl_Mod_351 rfl (sk_Mod s) (by decide) ?_
    refine g_iload_n k_Mod_tick_61 rfl rfl ?_
    refine g_iadd k_Mod_tick_62 ?_
    refine p_puti k_Mod_tick_63 fl_Mod_351 rfl ⟨R_Mod, F_Mod, 61, rfl, Or.inl rfl⟩ (sk_Mod s) (by decide) ?_
    obtain ⟨m3, u_m3, e⟩ := o_let_ex e
    refine G.hm u_m3 ?_
    refine g_aload_n k_Mod_tick_66 rfl rfl ?_
    refine p_geti k_Mod_tick_67 fl_Mod_351 rfl (sk_Mod s) (by decide) ?_
    refine g_iret k_Mod_tick_70 rfl ?_
    exact (by cases e; exact hq)
  · rw [if_neg c] at e
    refine g_iconst (v := 0) k_Mod_tick_54 rfl ?_
    refine g_iret k_Mod_tick_55 rfl ?_
    exact (by cases e; exact hq)
def b_Mod_tick_22 (x1 : Int32) (xt0 : Int32) (m : aM) : Option (Int32 × aM) :=
  o_b2 (f_Mod_bad xt0 1 m) fun y1 m2 =>
  (if y1 = 0 then
  (if ((m2 242 46) + x1) ≤ 10000 then
  b_Mod_tick_47 x1 0 m2
  else
  b_Mod_tick_47 x1 1 m2
  )
  else
  some (0, m2)
  )
theorem t_Mod_tick_22 {K : aK} {d bc bs : Nat} {g : aG} (s : SyM g) {Q : aQ} {r : Int32} {m' : aM} (x1 : Int32) (xt0 : Int32) (m : aM) (hq : Q (.inl (some (.int r))) (g, m')) (e : b_Mod_tick_22 x1 xt0 m = some (r, m')) (hd : 1 ≤ d) : G K M_Mod_tick d bc bs 22 [.ref 242, .int x1] [.int xt0, .ref 242] (g, m) Q := by
  unfold b_Mod_tick_22 at e
  refine g_iconst (v := 1) k_Mod_tick_22 rfl ?_
  obtain ⟨y1, m2, e_y1, e⟩ := o_b2_ex e
  refine g_cv k_Mod_tick_23 lv_Mod_240 (by decide +kernel) (T := F_Mod) (N := 61) (ci := 10) rfl (sk_Mod s) (s_Mod_bad (bc := 0) (bs := 0) s xt0 1 m e_y1) rfl rfl (Nat.le_of_ble_eq_true rfl) (by simp [Value.category]) (by omega) (by omega) (by omega) ?_
  refine g_if_ne (tgt := 54) k_Mod_tick_26 (by decide) (fun c => ?_) (fun c => ?_)
  · rw [if_pos c] at e
    refine g_aload_n k_Mod_tick_29 rfl rfl ?_
    refine g_aload_n k_Mod_tick_30 rfl rfl ?_
    refine p_geti k_Mod_tick_31 fl_Mod_351 rfl (sk_Mod s) (by decide) ?_
    refine g_iload_n k_Mod_tick_34 rfl rfl ?_
    refine g_iadd k_Mod_tick_35 ?_
    refine g_sipush (v := 10000) k_Mod_tick_36 rfl ?_
    refine g_icmp_le (tgt := 46) k_Mod_tick_39 (by decide) (fun c => ?_) (fun c => ?_)
    · rw [if_pos c] at e
      refine g_iconst (v := 0) k_Mod_tick_46 rfl ?_
      exact (t_Mod_tick_47 s x1 0 m2 hq e hd)
    · rw [if_neg c] at e
      refine g_iconst (v := 1) k_Mod_tick_42 rfl ?_
      refine g_goto (tgt := 47) k_Mod_tick_43 (by decide) ?_
      exact (t_Mod_tick_47 s x1 1 m2 hq e hd)
  · rw [if_neg c] at e
    refine g_iconst (v := 0) k_Mod_tick_54 rfl ?_
    refine g_iret k_Mod_tick_55 rfl ?_
    exact (by cases e; exact hq)
def f_Mod_tick (x1 : Int32) (m : aM) : Option (Int32 × aM) :=
  o_let (a_st m 242 0 0) fun m1 =>
  o_b (f_Mod_in x1 0 1000 m1) fun y2 =>
  (if y2 = 0 then
  b_Mod_tick_22 x1 1 m1
  else
  b_Mod_tick_22 x1 0 m1
  )
theorem s_Mod_tick {K : aK} {d bc bs : Nat} {g : aG} (s : SyM g) (x1 : Int32) (m : aM) {r : Int32} {m' : aM} (e : f_Mod_tick x1 m = some (r, m')) (hd : 1 ≤ d) : Sp K M_Mod_tick d bc bs [.ref 242, .int x1] (g, m) (some (.int r)) (g, m') := by
  refine sp_of ok_Mod_tick rfl (Nat.le_of_ble_eq_true rfl) (by simp [Value.category]) (fun Q hq => ?_)
  unfold f_Mod_tick at e
  refine g_aload_n k_Mod_tick_0 rfl rfl ?_
  refine g_iconst (v := 0) k_Mod_tick_1 rfl ?_
  refine p_puti k_Mod_tick_2 fl_Mod_131 rfl ⟨R_Mod, F_Mod, 61, rfl, Or.inl rfl⟩ (sk_Mod s) (by decide) ?_
  obtain ⟨m1, u_m1, e⟩ := o_let_ex e
  refine G.hm u_m1 ?_
  refine g_aload_n k_Mod_tick_5 rfl rfl ?_
  refine g_iload_n k_Mod_tick_6 rfl rfl ?_
  refine g_iconst (v := 0) k_Mod_tick_7 rfl ?_
  refine g_sipush (v := 1000) k_Mod_tick_8 rfl ?_
  obtain ⟨y2, e_y2, e⟩ := o_b_ex e
  refine g_cs k_Mod_tick_11 ls_Mod_236 (by decide +kernel) (s_Mod_in (bc := 0) (bs := 0) s x1 0 1000 m1 e_y2) rfl rfl (Nat.le_of_ble_eq_true rfl) (by simp [Value.category]) (by omega) (by omega) (by omega) ?_
  refine g_if_ne (tgt := 21) k_Mod_tick_14 (by decide) (fun c => ?_) (fun c => ?_)
  · rw [if_pos c] at e
    refine g_iconst (v := 1) k_Mod_tick_17 rfl ?_
    refine g_goto (tgt := 22) k_Mod_tick_18 (by decide) ?_
    exact (t_Mod_tick_22 s x1 1 m1 hq e hd)
  · rw [if_neg c] at e
    refine g_iconst (v := 0) k_Mod_tick_21 rfl ?_
    exact (t_Mod_tick_22 s x1 0 m1 hq e hd)
def b_Mod_bite_178 (F : Nat) (rec_101 : Int32 → Int32 → Int32 → aM → Option (Int32 × aM)) (x2 : Int32) (x4 : Int32) (x5 : Int32) (m : aM) : Option (Int32 × aM) :=
  rec_101 x2 x4 (x5 + 1) m
theorem t_Mod_bite_178 {K : aK} {d bc bs : Nat} {g : aG} (s : SyM g) {Q : aQ} {r : Int32} {m' : aM} (F : Nat) (rec_101 : Int32 → Int32 → Int32 → aM → Option (Int32 × aM)) (hr_101 : ∀ (x2 : Int32) (x4 : Int32) (x5 : Int32) (m : aM), rec_101 x2 x4 x5 m = some (r, m') → G K M_Mod_bite d bc bs 101 [.ref 242, .double 0, .int x2, .double 0, .int x4, .int x5] [] (g, m) Q) (x2 : Int32) (x4 : Int32) (x5 : Int32) (m : aM) (hq : Q (.inl (some (.int r))) (g, m')) (e : b_Mod_bite_178 F rec_101 x2 x4 x5 m = some (r, m')) (hd : 401 ≤ d) : G K M_Mod_bite d bc bs 178 [.ref 242, .double 0, .int x2, .double 0, .int x4, .int x5] [] (g, m) Q := by
  unfold b_Mod_bite_178 at e
  refine g_iinc (v := _ + 1) k_Mod_bite_178 rfl rfl (by decide) ?_
  refine g_goto (tgt := 101) k_Mod_bite_181 (by decide) ?_
  exact (hr_101 x2 x4 (x5 + 1) m e)
def b_Mod_bite_174 (F : Nat) (rec_101 : Int32 → Int32 → Int32 → aM → Option (Int32 × aM)) (x2 : Int32) (x4 : Int32) (x5 : Int32) (xt0 : Int32) (xt1 : Int32) (m : aM) : Option (Int32 × aM) :=
  o_gd (inb xt1 40) <|
  o_let (a_st m 8475 xt1.toNatClampNeg xt0) fun m2 =>
  b_Mod_bite_178 F rec_101 x2 (x4 - 1) x5 m2
theorem t_Mod_bite_174 {K : aK} {d bc bs : Nat} {g : aG} (s : SyM g) {Q : aQ} {r : Int32} {m' : aM} (F : Nat) (rec_101 : Int32 → Int32 → Int32 → aM → Option (Int32 × aM)) (hr_101 : ∀ (x2 : Int32) (x4 : Int32) (x5 : Int32) (m : aM), rec_101 x2 x4 x5 m = some (r, m') → G K M_Mod_bite d bc bs 101 [.ref 242, .double 0, .int x2, .double 0, .int x4, .int x5] [] (g, m) Q) (x2 : Int32) (x4 : Int32) (x5 : Int32) (xt0 : Int32) (xt1 : Int32) (m : aM) (hq : Q (.inl (some (.int r))) (g, m')) (e : b_Mod_bite_174 F rec_101 x2 x4 x5 xt0 xt1 m = some (r, m')) (hd : 401 ≤ d) : G K M_Mod_bite d bc bs 174 [.ref 242, .double 0, .int x2, .double 0, .int x4, .int x5] [.int xt0, .int xt1, .ref 8475] (g, m) Q := by
  unfold b_Mod_bite_174 at e
  obtain ⟨q1, e⟩ := o_gd_ex e
  refine p_iast k_Mod_bite_174 (sa_Mod_52 s) (inb_in q1) (j := xt1.toNatClampNeg) rfl ?_
  obtain ⟨m2, u_m2, e⟩ := o_let_ex e
  refine G.hm u_m2 ?_
  refine g_iinc k_Mod_bite_175 rfl (i_m1 _) (by decide) ?_
  exact (t_Mod_bite_178 s F rec_101 hr_101 x2 (x4 - 1) x5 m2 hq e hd)
def lb_Mod_bite_101 (F : Nat) (rec_101 : Int32 → Int32 → Int32 → aM → Option (Int32 × aM)) (x2 : Int32) (x4 : Int32) (x5 : Int32) (m : aM) : Option (Int32 × aM) :=
  (if 40 ≤ x5 then
  some (x2, m)
  else
  (if x4 ≤ 0 then
  some (x2, m)
  else
  o_gd (inb x5 40) <|
  (if (m 8473 x5.toNatClampNeg) = 0 then
  b_Mod_bite_178 F rec_101 x2 x4 x5 m
  else
  o_gd (inb x5 40) <|
  (if (m 8475 x5.toNatClampNeg) = 0 then
  o_b2 (f_Mod_takesSeen F x5 m) fun y3 m4 =>
  o_gd (inb x5 40) <|
  o_gd (inb x5 40) <|
  o_b2 (f_Mod_isRightBy F (8520 + x5.toNatClampNeg) (8561 + x5.toNatClampNeg) m4) fun y7 m8 =>
  (if y7 = 0 then
  b_Mod_bite_174 F rec_101 x2 x4 x5 3 x5 m8
  else
  b_Mod_bite_174 F rec_101 x2 x4 x5 1 x5 m8
  )
  else
  b_Mod_bite_178 F rec_101 x2 x4 x5 m
  )
  )
  )
  )
theorem tb_Mod_bite_101 {K : aK} {d bc bs : Nat} {g : aG} (s : SyM g) {Q : aQ} {r : Int32} {m' : aM} (F : Nat) (rec_101 : Int32 → Int32 → Int32 → aM → Option (Int32 × aM)) (hr_101 : ∀ (x2 : Int32) (x4 : Int32) (x5 : Int32) (m : aM), rec_101 x2 x4 x5 m = some (r, m') → G K M_Mod_bite d bc bs 101 [.ref 242, .double 0, .int x2, .double 0, .int x4, .int x5] [] (g, m) Q) (x2 : Int32) (x4 : Int32) (x5 : Int32) (m : aM) (hq : Q (.inl (some (.int r))) (g, m')) (e : lb_Mod_bite_101 F rec_101 x2 x4 x5 m = some (r, m')) (hd : 401 ≤ d) : G K M_Mod_bite d bc bs 101 [.ref 242, .double 0, .int x2, .double 0, .int x4, .int x5] [] (g, m) Q := by
  unfold lb_Mod_bite_101 at e
  refine g_iload k_Mod_bite_101 rfl ?_
  refine g_bipush (v := 40) k_Mod_bite_103 rfl ?_
  refine g_icmp_ge (tgt := 184) k_Mod_bite_105 (by decide) (fun c => ?_) (fun c => ?_)
  · rw [if_pos c] at e
    refine g_iload_n k_Mod_bite_184 rfl rfl ?_
    refine g_iret k_Mod_bite_185 rfl ?_
    exact (by cases e; exact hq)
  · rw [if_neg c] at e
    refine g_iload k_Mod_bite_108 rfl ?_
    refine g_if_le (tgt := 184) k_Mod_bite_110 (by decide) (fun c => ?_) (fun c => ?_)
    · rw [if_pos c] at e
      refine g_iload_n k_Mod_bite_184 rfl rfl ?_
      refine g_iret k_Mod_bite_185 rfl ?_
      exact (by cases e; exact hq)
    · rw [if_neg c] at e
      refine g_aload_n k_Mod_bite_113 rfl rfl ?_
      refine p_getr k_Mod_bite_114 fl_Mod_96 rfl (sk_Mod s) (by decide) (sr_Mod_50 s) ?_
      refine g_iload k_Mod_bite_117 rfl ?_
      obtain ⟨q1, e⟩ := o_gd_ex e
      refine p_zald k_Mod_bite_119 (sa_Mod_50 s) (inb_in q1) (j := x5.toNatClampNeg) rfl ?_
      refine g_if_eq (tgt := 178) k_Mod_bite_120 (by decide) (fun c => ?_) (fun c => ?_)
      · rw [if_pos c] at e
        exact (t_Mod_bite_178 s F rec_101 hr_101 x2 x4 x5 m hq e hd)
      · rw [if_neg c] at e
        refine g_aload_n k_Mod_bite_123 rfl rfl ?_
        refine p_getr k_Mod_bite_124 fl_Mod_102 rfl (sk_Mod s) (by decide) (sr_Mod_52 s) ?_
        refine g_iload k_Mod_bite_127 rfl ?_
        obtain ⟨q2, e⟩ := o_gd_ex e
        refine p_iald k_Mod_bite_129 (sa_Mod_52 s) (inb_in q2) (j := x5.toNatClampNeg) rfl ?_
        refine g_if_eq (tgt := 136) k_Mod_bite_130 (by decide) (fun c => ?_) (fun c => ?_)
        · rw [if_pos c] at e
          refine g_aload_n k_Mod_bite_136 rfl rfl ?_
          refine g_iload k_Mod_bite_137 rfl ?_
          obtain ⟨y3, m4, e_y3, e⟩ := o_b2_ex e
          refine g_cv k_Mod_bite_139 lv_Mod_372 (by decide +kernel) (T := F_Mod) (N := 61) (ci := 10) rfl (sk_Mod s) (s_Mod_takesSeen (bc := 0) (bs := 0) s F x5 m e_y3 (by omega)) rfl rfl (Nat.le_of_ble_eq_true rfl) (by simp [Value.category]) (by omega) (by omega) (by omega) ?_
          refine g_aload_n k_Mod_bite_142 rfl rfl ?_
          refine p_getr k_Mod_bite_143 fl_Mod_102 rfl (sk_Mod s) (by decide) (sr_Mod_52 s) ?_
          refine g_iload k_Mod_bite_146 rfl ?_
          refine g_aload_n k_Mod_bite_148 rfl rfl ?_
          refine g_aload_n k_Mod_bite_149 rfl rfl ?_
          refine p_getr k_Mod_bite_150 fl_Mod_114 rfl (sk_Mod s) (by decide) (sr_Mod_56 s) ?_
          refine g_iload k_Mod_bite_153 rfl ?_
          obtain ⟨q5, e⟩ := o_gd_ex e
          refine p_aald k_Mod_bite_155 (sa_Mod_56 s) (by decide) (by decide) (inb_in q5) (j := x5.toNatClampNeg) rfl (si_Mod_56 s _ (vp_lt (inb_in q5))).1 ?_
          refine g_aload_n k_Mod_bite_156 rfl rfl ?_
          refine p_getr k_Mod_bite_157 fl_Mod_117 rfl (sk_Mod s) (by decide) (sr_Mod_57 s) ?_
          refine g_iload k_Mod_bite_160 rfl ?_
          obtain ⟨q6, e⟩ := o_gd_ex e
          refine p_aald k_Mod_bite_162 (sa_Mod_57 s) (by decide) (by decide) (inb_in q6) (j := x5.toNatClampNeg) rfl (si_Mod_57 s _ (vp_lt (inb_in q6))).1 ?_
          obtain ⟨y7, m8, e_y7, e⟩ := o_b2_ex e
          refine g_cv k_Mod_bite_163 lv_Mod_302 (by decide +kernel) (T := F_Mod) (N := 61) (ci := 10) rfl (sk_Mod s) (s_Mod_isRightBy (bc := 0) (bs := 0) s F (8520 + x5.toNatClampNeg) ((si_Mod_56 s _ (vp_lt (inb_in q5))).2) (8561 + x5.toNatClampNeg) ((si_Mod_57 s _ (vp_lt (inb_in q6))).2) m4 e_y7 (by omega)) rfl rfl (Nat.le_of_ble_eq_true rfl) (by simp [Value.category]) (by omega) (by omega) (by omega) ?_
          refine g_if_eq (tgt := 173) k_Mod_bite_166 (by decide) (fun c => ?_) (fun c => ?_)
          · rw [if_pos c] at e
            refine g_iconst (v := 3) k_Mod_bite_173 rfl ?_
            exact (t_Mod_bite_174 s F rec_101 hr_101 x2 x4 x5 3 x5 m8 hq e hd)
          · rw [if_neg c] at e
            refine g_iconst (v := 1) k_Mod_bite_169 rfl ?_
            refine g_goto (tgt := 174) k_Mod_bite_170 (by decide) ?_
            exact (t_Mod_bite_174 s F rec_101 hr_101 x2 x4 x5 1 x5 m8 hq e hd)
        · rw [if_neg c] at e
          refine g_goto (tgt := 178) k_Mod_bite_133 (by decide) ?_
          exact (t_Mod_bite_178 s F rec_101 hr_101 x2 x4 x5 m hq e hd)
def ll_Mod_bite_101 (F : Nat) : Nat → Int32 → Int32 → Int32 → aM → Option (Int32 × aM)
  | 0, _, _, _, _ => none
  | N + 1, x2, x4, x5, m => lb_Mod_bite_101 F (ll_Mod_bite_101 F N) x2 x4 x5 m
theorem t_Mod_bite_101 {K : aK} {d bc bs : Nat} {g : aG} (s : SyM g) {Q : aQ} {r : Int32} {m' : aM} (F : Nat) : ∀ (N : Nat) (x2 : Int32) (x4 : Int32) (x5 : Int32) (m : aM), Q (.inl (some (.int r))) (g, m') → ll_Mod_bite_101 F N x2 x4 x5 m = some (r, m') → 401 ≤ d → G K M_Mod_bite d bc bs 101 [.ref 242, .double 0, .int x2, .double 0, .int x4, .int x5] [] (g, m) Q
  | 0, _, _, _, _ => fun _ e => nomatch e
  | N + 1, x2, x4, x5, m => fun hq e hd => tb_Mod_bite_101 s F (ll_Mod_bite_101 F N) (fun x2 x4 x5 m e => t_Mod_bite_101 s F N x2 x4 x5 m hq e hd) x2 x4 x5 m hq e hd
def b_Mod_bite_95 (F : Nat) (x2 : Int32) (m : aM) : Option (Int32 × aM) :=
  ll_Mod_bite_101 F F x2 x2 0 m
theorem t_Mod_bite_95 {K : aK} {d bc bs : Nat} {g : aG} (s : SyM g) {Q : aQ} {r : Int32} {m' : aM} (F : Nat) (x2 : Int32) (m : aM) (hq : Q (.inl (some (.int r))) (g, m')) (e : b_Mod_bite_95 F x2 m = some (r, m')) (hd : 401 ≤ d) : G K M_Mod_bite d bc bs 95 [.ref 242, .double 0, .int x2, .double 0, .double 0, .double 0] [] (g, m) Q := by
  unfold b_Mod_bite_95 at e
  refine g_iload_n k_Mod_bite_95 rfl rfl ?_
  refine g_istore k_Mod_bite_96 (by decide) ?_
  refine g_iconst (v := 0) k_Mod_bite_98 rfl ?_
  refine g_istore k_Mod_bite_99 (by decide) ?_
  exact (t_Mod_bite_101 s F F x2 x2 0 m hq e hd)
def b_Mod_bite_73 (F : Nat) (xt0 : Int32) (m : aM) : Option (Int32 × aM) :=
  o_let (a_st m 242 49 0) fun m1 =>
  (if (m 242 49) ≤ 0 then
  b_Mod_bite_95 F xt0 m1
  else
  (if xt0 < (m 242 49) then
  b_Mod_bite_95 F xt0 m1
  else
  some ((-1), m1)
  )
  )
theorem t_Mod_bite_73 {K : aK} {d bc bs : Nat} {g : aG} (s : SyM g) {Q : aQ} {r : Int32} {m' : aM} (F : Nat) (xt0 : Int32) (m : aM) (hq : Q (.inl (some (.int r))) (g, m')) (e : b_Mod_bite_73 F xt0 m = some (r, m')) (hd : 401 ≤ d) : G K M_Mod_bite d bc bs 73 [.ref 242, .double 0, .double 0, .double 0, .double 0, .double 0] [.int xt0] (g, m) Q := by
  unfold b_Mod_bite_73 at e
  refine g_istore_n k_Mod_bite_73 rfl (by decide) ?_
  refine g_aload_n k_Mod_bite_74 rfl rfl ?_
  refine p_geti k_Mod_bite_75 fl_Mod_397 rfl (sk_Mod s) (by decide) ?_
  refine g_istore_n k_Mod_bite_78 rfl (by decide) ?_
  refine g_aload_n k_Mod_bite_79 rfl rfl ?_
  refine g_iconst (v := 0) k_Mod_bite_80 rfl ?_
  refine p_puti k_Mod_bite_81 fl_Mod_397 rfl ⟨R_Mod, F_Mod, 61, rfl, Or.inl rfl⟩ (sk_Mod s) (by decide) ?_
  obtain ⟨m1, u_m1, e⟩ := o_let_ex e
  refine G.hm u_m1 ?_
  refine g_iload_n k_Mod_bite_84 rfl rfl ?_
  refine g_if_le (tgt := 95) k_Mod_bite_85 (by decide) (fun c => ?_) (fun c => ?_)
  · rw [if_pos c] at e
    exact G.wl (wls (wls (wls (wld (wls (wls wl0)))))) (t_Mod_bite_95 s F xt0 m1 hq e hd)
  · rw [if_neg c] at e
    refine g_iload_n k_Mod_bite_88 rfl rfl ?_
    refine g_iload_n k_Mod_bite_89 rfl rfl ?_
    refine g_icmp_gt (tgt := 95) k_Mod_bite_90 (by decide) (fun c => ?_) (fun c => ?_)
    · rw [if_pos c] at e
      exact G.wl (wls (wls (wls (wld (wls (wls wl0)))))) (t_Mod_bite_95 s F xt0 m1 hq e hd)
    · rw [if_neg c] at e
      refine g_iconst (v := (-1)) k_Mod_bite_93 rfl ?_
      refine g_iret k_Mod_bite_94 rfl ?_
      exact (by cases e; exact hq)
def b_Mod_bite_46 (F : Nat) (x1 : Int32) (xt0 : Int32) (m : aM) : Option (Int32 × aM) :=
  o_b2 (f_Mod_bad xt0 2 m) fun y1 m2 =>
  (if y1 = 0 then
  o_b (f_Mod_many F 0 m2) fun y3 =>
  (if x1 ≤ y3 then
  b_Mod_bite_73 F x1 m2
  else
  o_b (f_Mod_many F 0 m2) fun y4 =>
  b_Mod_bite_73 F y4 m2
  )
  else
  some (0, m2)
  )
theorem t_Mod_bite_46 {K : aK} {d bc bs : Nat} {g : aG} (s : SyM g) {Q : aQ} {r : Int32} {m' : aM} (F : Nat) (x1 : Int32) (xt0 : Int32) (m : aM) (hq : Q (.inl (some (.int r))) (g, m')) (e : b_Mod_bite_46 F x1 xt0 m = some (r, m')) (hd : 401 ≤ d) : G K M_Mod_bite d bc bs 46 [.ref 242, .int x1, .double 0, .double 0, .double 0, .double 0] [.int xt0, .ref 242] (g, m) Q := by
  unfold b_Mod_bite_46 at e
  refine g_iconst (v := 2) k_Mod_bite_46 rfl ?_
  obtain ⟨y1, m2, e_y1, e⟩ := o_b2_ex e
  refine g_cv k_Mod_bite_47 lv_Mod_240 (by decide +kernel) (T := F_Mod) (N := 61) (ci := 10) rfl (sk_Mod s) (s_Mod_bad (bc := 0) (bs := 0) s xt0 2 m e_y1) rfl rfl (Nat.le_of_ble_eq_true rfl) (by simp [Value.category]) (by omega) (by omega) (by omega) ?_
  refine g_if_eq (tgt := 55) k_Mod_bite_50 (by decide) (fun c => ?_) (fun c => ?_)
  · rw [if_pos c] at e
    refine g_aload_n k_Mod_bite_55 rfl rfl ?_
    refine g_iconst (v := 0) k_Mod_bite_56 rfl ?_
    obtain ⟨y3, e_y3, e⟩ := o_b_ex e
    refine g_cv k_Mod_bite_57 lv_Mod_357 (by decide +kernel) (T := F_Mod) (N := 61) (ci := 10) rfl (sk_Mod s) (s_Mod_many (bc := 0) (bs := 0) s F 0 m2 e_y3) rfl rfl (Nat.le_of_ble_eq_true rfl) (by simp [Value.category]) (by omega) (by omega) (by omega) ?_
    refine g_iload_n k_Mod_bite_60 rfl rfl ?_
    refine g_icmp_ge (tgt := 72) k_Mod_bite_61 (by decide) (fun c => ?_) (fun c => ?_)
    · rw [if_pos c] at e
      refine g_iload_n k_Mod_bite_72 rfl rfl ?_
      exact G.wl (wls (wld (wls (wls (wls (wls wl0)))))) (t_Mod_bite_73 s F x1 m2 hq e hd)
    · rw [if_neg c] at e
      refine g_aload_n k_Mod_bite_64 rfl rfl ?_
      refine g_iconst (v := 0) k_Mod_bite_65 rfl ?_
      obtain ⟨y4, e_y4, e⟩ := o_b_ex e
      refine g_cv k_Mod_bite_66 lv_Mod_357 (by decide +kernel) (T := F_Mod) (N := 61) (ci := 10) rfl (sk_Mod s) (s_Mod_many (bc := 0) (bs := 0) s F 0 m2 e_y4) rfl rfl (Nat.le_of_ble_eq_true rfl) (by simp [Value.category]) (by omega) (by omega) (by omega) ?_
      refine g_goto (tgt := 73) k_Mod_bite_69 (by decide) ?_
      exact G.wl (wls (wld (wls (wls (wls (wls wl0)))))) (t_Mod_bite_73 s F y4 m2 hq e hd)
  · rw [if_neg c] at e
    refine g_iconst (v := 0) k_Mod_bite_53 rfl ?_
    refine g_iret k_Mod_bite_54 rfl ?_
    exact (by cases e; exact hq)
def b_Mod_bite_21 (F : Nat) (x1 : Int32) (xt0 : Int32) (m : aM) : Option (Int32 × aM) :=
  o_b2 (f_Mod_bad xt0 1 m) fun y1 m2 =>
  (if y1 = 0 then
  o_b (f_Mod_in (m2 242 45) 2 4 m2) fun y3 =>
  (if y3 = 0 then
  b_Mod_bite_46 F x1 1 m2
  else
  b_Mod_bite_46 F x1 0 m2
  )
  else
  some (0, m2)
  )
theorem t_Mod_bite_21 {K : aK} {d bc bs : Nat} {g : aG} (s : SyM g) {Q : aQ} {r : Int32} {m' : aM} (F : Nat) (x1 : Int32) (xt0 : Int32) (m : aM) (hq : Q (.inl (some (.int r))) (g, m')) (e : b_Mod_bite_21 F x1 xt0 m = some (r, m')) (hd : 401 ≤ d) : G K M_Mod_bite d bc bs 21 [.ref 242, .int x1, .double 0, .double 0, .double 0, .double 0] [.int xt0, .ref 242] (g, m) Q := by
  unfold b_Mod_bite_21 at e
  refine g_iconst (v := 1) k_Mod_bite_21 rfl ?_
  obtain ⟨y1, m2, e_y1, e⟩ := o_b2_ex e
  refine g_cv k_Mod_bite_22 lv_Mod_240 (by decide +kernel) (T := F_Mod) (N := 61) (ci := 10) rfl (sk_Mod s) (s_Mod_bad (bc := 0) (bs := 0) s xt0 1 m e_y1) rfl rfl (Nat.le_of_ble_eq_true rfl) (by simp [Value.category]) (by omega) (by omega) (by omega) ?_
  refine g_if_ne (tgt := 53) k_Mod_bite_25 (by decide) (fun c => ?_) (fun c => ?_)
  · rw [if_pos c] at e
    refine g_aload_n k_Mod_bite_28 rfl rfl ?_
    refine g_aload_n k_Mod_bite_29 rfl rfl ?_
    refine p_geti k_Mod_bite_30 fl_Mod_244 rfl (sk_Mod s) (by decide) ?_
    refine g_iconst (v := 2) k_Mod_bite_33 rfl ?_
    refine g_iconst (v := 4) k_Mod_bite_34 rfl ?_
    obtain ⟨y3, e_y3, e⟩ := o_b_ex e
    refine g_cs k_Mod_bite_35 ls_Mod_236 (by decide +kernel) (s_Mod_in (bc := 0) (bs := 0) s (m2 242 45) 2 4 m2 e_y3) rfl rfl (Nat.le_of_ble_eq_true rfl) (by simp [Value.category]) (by omega) (by omega) (by omega) ?_
    refine g_if_ne (tgt := 45) k_Mod_bite_38 (by decide) (fun c => ?_) (fun c => ?_)
    · rw [if_pos c] at e
      refine g_iconst (v := 1) k_Mod_bite_41 rfl ?_
      refine g_goto (tgt := 46) k_Mod_bite_42 (by decide) ?_
      exact (t_Mod_bite_46 s F x1 1 m2 hq e hd)
    · rw [if_neg c] at e
      refine g_iconst (v := 0) k_Mod_bite_45 rfl ?_
      exact (t_Mod_bite_46 s F x1 0 m2 hq e hd)
  · rw [if_neg c] at e
    refine g_iconst (v := 0) k_Mod_bite_53 rfl ?_
    refine g_iret k_Mod_bite_54 rfl ?_
    exact (by cases e; exact hq)
def f_Mod_bite (F : Nat) (x1 : Int32) (m : aM) : Option (Int32 × aM) :=
  o_let (a_st m 242 0 0) fun m1 =>
  o_b (f_Mod_in x1 1 40 m1) fun y2 =>
  (if y2 = 0 then
  b_Mod_bite_21 F x1 1 m1
  else
  b_Mod_bite_21 F x1 0 m1
  )
theorem s_Mod_bite {K : aK} {d bc bs : Nat} {g : aG} (s : SyM g) (F : Nat) (x1 : Int32) (m : aM) {r : Int32} {m' : aM} (e : f_Mod_bite F x1 m = some (r, m')) (hd : 401 ≤ d) : Sp K M_Mod_bite d bc bs [.ref 242, .int x1] (g, m) (some (.int r)) (g, m') := by
  refine sp_of ok_Mod_bite rfl (Nat.le_of_ble_eq_true rfl) (by simp [Value.category]) (fun Q hq => ?_)
  unfold f_Mod_bite at e
  refine g_aload_n k_Mod_bite_0 rfl rfl ?_
  refine g_iconst (v := 0) k_Mod_bite_1 rfl ?_
  refine p_puti k_Mod_bite_2 fl_Mod_131 rfl ⟨R_Mod, F_Mod, 61, rfl, Or.inl rfl⟩ (sk_Mod s) (by decide) ?_
  obtain ⟨m1, u_m1, e⟩ := o_let_ex e
  refine G.hm u_m1 ?_
  refine g_aload_n k_Mod_bite_5 rfl rfl ?_
  refine g_iload_n k_Mod_bite_6 rfl rfl ?_
  refine g_iconst (v := 1) k_Mod_bite_7 rfl ?_
  refine g_bipush (v := 40) k_Mod_bite_8 rfl ?_
  obtain ⟨y2, e_y2, e⟩ := o_b_ex e
  refine g_cs k_Mod_bite_10 ls_Mod_236 (by decide +kernel) (s_Mod_in (bc := 0) (bs := 0) s x1 1 40 m1 e_y2) rfl rfl (Nat.le_of_ble_eq_true rfl) (by simp [Value.category]) (by omega) (by omega) (by omega) ?_
  refine g_if_ne (tgt := 20) k_Mod_bite_13 (by decide) (fun c => ?_) (fun c => ?_)
  · rw [if_pos c] at e
    refine g_iconst (v := 1) k_Mod_bite_16 rfl ?_
    refine g_goto (tgt := 21) k_Mod_bite_17 (by decide) ?_
    exact (t_Mod_bite_21 s F x1 1 m1 hq e hd)
  · rw [if_neg c] at e
    refine g_iconst (v := 0) k_Mod_bite_20 rfl ?_
    exact (t_Mod_bite_21 s F x1 0 m1 hq e hd)
def b_Mod_fall_21 (x1 : Int32) (xt0 : Int32) (m : aM) : Option (Int32 × aM) :=
  o_b2 (f_Mod_bad xt0 1 m) fun y1 m2 =>
  (if y1 = 0 then
  o_let (a_st m2 242 49 x1) fun m3 =>
  some ((m2 242 49), m3)
  else
  some (0, m2)
  )
theorem t_Mod_fall_21 {K : aK} {d bc bs : Nat} {g : aG} (s : SyM g) {Q : aQ} {r : Int32} {m' : aM} (x1 : Int32) (xt0 : Int32) (m : aM) (hq : Q (.inl (some (.int r))) (g, m')) (e : b_Mod_fall_21 x1 xt0 m = some (r, m')) (hd : 1 ≤ d) : G K M_Mod_fall d bc bs 21 [.ref 242, .int x1, .double 0] [.int xt0, .ref 242] (g, m) Q := by
  unfold b_Mod_fall_21 at e
  refine g_iconst (v := 1) k_Mod_fall_21 rfl ?_
  obtain ⟨y1, m2, e_y1, e⟩ := o_b2_ex e
  refine g_cv k_Mod_fall_22 lv_Mod_240 (by decide +kernel) (T := F_Mod) (N := 61) (ci := 10) rfl (sk_Mod s) (s_Mod_bad (bc := 0) (bs := 0) s xt0 1 m e_y1) rfl rfl (Nat.le_of_ble_eq_true rfl) (by simp [Value.category]) (by omega) (by omega) (by omega) ?_
  refine g_if_eq (tgt := 30) k_Mod_fall_25 (by decide) (fun c => ?_) (fun c => ?_)
  · rw [if_pos c] at e
    refine g_aload_n k_Mod_fall_30 rfl rfl ?_
    refine p_geti k_Mod_fall_31 fl_Mod_397 rfl (sk_Mod s) (by decide) ?_
    refine g_istore_n k_Mod_fall_34 rfl (by decide) ?_
    refine g_aload_n k_Mod_fall_35 rfl rfl ?_
    refine g_iload_n k_Mod_fall_36 rfl rfl ?_
    refine p_puti k_Mod_fall_37 fl_Mod_397 rfl ⟨R_Mod, F_Mod, 61, rfl, Or.inl rfl⟩ (sk_Mod s) (by decide) ?_
    obtain ⟨m3, u_m3, e⟩ := o_let_ex e
    refine G.hm u_m3 ?_
    refine g_iload_n k_Mod_fall_40 rfl rfl ?_
    refine g_iret k_Mod_fall_41 rfl ?_
    exact (by cases e; exact hq)
  · rw [if_neg c] at e
    refine g_iconst (v := 0) k_Mod_fall_28 rfl ?_
    refine g_iret k_Mod_fall_29 rfl ?_
    exact (by cases e; exact hq)
def f_Mod_fall (x1 : Int32) (m : aM) : Option (Int32 × aM) :=
  o_let (a_st m 242 0 0) fun m1 =>
  o_b (f_Mod_in x1 0 40 m1) fun y2 =>
  (if y2 = 0 then
  b_Mod_fall_21 x1 1 m1
  else
  b_Mod_fall_21 x1 0 m1
  )
theorem s_Mod_fall {K : aK} {d bc bs : Nat} {g : aG} (s : SyM g) (x1 : Int32) (m : aM) {r : Int32} {m' : aM} (e : f_Mod_fall x1 m = some (r, m')) (hd : 1 ≤ d) : Sp K M_Mod_fall d bc bs [.ref 242, .int x1] (g, m) (some (.int r)) (g, m') := by
  refine sp_of ok_Mod_fall rfl (Nat.le_of_ble_eq_true rfl) (by simp [Value.category]) (fun Q hq => ?_)
  unfold f_Mod_fall at e
  refine g_aload_n k_Mod_fall_0 rfl rfl ?_
  refine g_iconst (v := 0) k_Mod_fall_1 rfl ?_
  refine p_puti k_Mod_fall_2 fl_Mod_131 rfl ⟨R_Mod, F_Mod, 61, rfl, Or.inl rfl⟩ (sk_Mod s) (by decide) ?_
  obtain ⟨m1, u_m1, e⟩ := o_let_ex e
  refine G.hm u_m1 ?_
  refine g_aload_n k_Mod_fall_5 rfl rfl ?_
  refine g_iload_n k_Mod_fall_6 rfl rfl ?_
  refine g_iconst (v := 0) k_Mod_fall_7 rfl ?_
  refine g_bipush (v := 40) k_Mod_fall_8 rfl ?_
  obtain ⟨y2, e_y2, e⟩ := o_b_ex e
  refine g_cs k_Mod_fall_10 ls_Mod_236 (by decide +kernel) (s_Mod_in (bc := 0) (bs := 0) s x1 0 40 m1 e_y2) rfl rfl (Nat.le_of_ble_eq_true rfl) (by simp [Value.category]) (by omega) (by omega) (by omega) ?_
  refine g_if_ne (tgt := 20) k_Mod_fall_13 (by decide) (fun c => ?_) (fun c => ?_)
  · rw [if_pos c] at e
    refine g_iconst (v := 1) k_Mod_fall_16 rfl ?_
    refine g_goto (tgt := 21) k_Mod_fall_17 (by decide) ?_
    exact (t_Mod_fall_21 s x1 1 m1 hq e hd)
  · rw [if_neg c] at e
    refine g_iconst (v := 0) k_Mod_fall_20 rfl ?_
    exact (t_Mod_fall_21 s x1 0 m1 hq e hd)
