/-! the reference, further -/
def b_Mod_isRight_38 (F : Nat) (rec_4 : Int32 → Int32 → aM → Option (Int32 × aM)) (x2 : Int32) (xt0 : Int32) (m : aM) : Option (Int32 × aM) :=
  rec_4 xt0 (x2 + 1) m
theorem t_Mod_isRight_38 {K : aK} {d bc bs : Nat} {g : aG} (s : SyM g) {Q : aQ} {r : Int32} {m' : aM} (F : Nat) (rec_4 : Int32 → Int32 → aM → Option (Int32 × aM)) (hr_4 : ∀ (x1 : Int32) (x2 : Int32) (m : aM), rec_4 x1 x2 m = some (r, m') → G K M_Mod_isRight d bc bs 4 [.ref 242, .int x1, .int x2] [] (g, m) Q) (x2 : Int32) (xt0 : Int32) (m : aM) (hq : Q (.inl (some (.int r))) (g, m')) (e : b_Mod_isRight_38 F rec_4 x2 xt0 m = some (r, m')) (hd : 397 ≤ d) : G K M_Mod_isRight d bc bs 38 [.ref 242, .double 0, .int x2] [.int xt0] (g, m) Q := by
  unfold b_Mod_isRight_38 at e
  refine g_istore_n k_Mod_isRight_38 rfl (by decide) ?_
  refine g_iinc (v := _ + 1) k_Mod_isRight_39 rfl rfl (by decide) ?_
  refine g_goto (tgt := 4) k_Mod_isRight_42 (by decide) ?_
  exact (hr_4 xt0 (x2 + 1) m e)
def b_Mod_isRight_37 (F : Nat) (rec_4 : Int32 → Int32 → aM → Option (Int32 × aM)) (x2 : Int32) (m : aM) : Option (Int32 × aM) :=
  b_Mod_isRight_38 F rec_4 x2 0 m
theorem t_Mod_isRight_37 {K : aK} {d bc bs : Nat} {g : aG} (s : SyM g) {Q : aQ} {r : Int32} {m' : aM} (F : Nat) (rec_4 : Int32 → Int32 → aM → Option (Int32 × aM)) (hr_4 : ∀ (x1 : Int32) (x2 : Int32) (m : aM), rec_4 x1 x2 m = some (r, m') → G K M_Mod_isRight d bc bs 4 [.ref 242, .int x1, .int x2] [] (g, m) Q) (x2 : Int32) (m : aM) (hq : Q (.inl (some (.int r))) (g, m')) (e : b_Mod_isRight_37 F rec_4 x2 m = some (r, m')) (hd : 397 ≤ d) : G K M_Mod_isRight d bc bs 37 [.ref 242, .double 0, .int x2] [] (g, m) Q := by
  unfold b_Mod_isRight_37 at e
  refine g_iconst (v := 0) k_Mod_isRight_37 rfl ?_
  exact (t_Mod_isRight_38 s F rec_4 hr_4 x2 0 m hq e hd)
def lb_Mod_isRight_4 (F : Nat) (rec_4 : Int32 → Int32 → aM → Option (Int32 × aM)) (x1 : Int32) (x2 : Int32) (m : aM) : Option (Int32 × aM) :=
  (if (m 242 6) ≤ x2 then
  o_gd (isb x1) <|
  some (x1, m)
  else
  o_gd (inb x2 16) <|
  o_b2 (f_Mod_readsAt (m 246 x2.toNatClampNeg) m) fun y3 m4 =>
  o_b2 (f_Mod_ors F  m4) fun y5 m6 =>
  (if y5 = 0 then
  b_Mod_isRight_37 F rec_4 x2 m6
  else
  (if x1 = 0 then
  b_Mod_isRight_37 F rec_4 x2 m6
  else
  b_Mod_isRight_38 F rec_4 x2 1 m6
  )
  )
  )
theorem tb_Mod_isRight_4 {K : aK} {d bc bs : Nat} {g : aG} (s : SyM g) {Q : aQ} {r : Int32} {m' : aM} (F : Nat) (rec_4 : Int32 → Int32 → aM → Option (Int32 × aM)) (hr_4 : ∀ (x1 : Int32) (x2 : Int32) (m : aM), rec_4 x1 x2 m = some (r, m') → G K M_Mod_isRight d bc bs 4 [.ref 242, .int x1, .int x2] [] (g, m) Q) (x1 : Int32) (x2 : Int32) (m : aM) (hq : Q (.inl (some (.int r))) (g, m')) (e : lb_Mod_isRight_4 F rec_4 x1 x2 m = some (r, m')) (hd : 397 ≤ d) : G K M_Mod_isRight d bc bs 4 [.ref 242, .int x1, .int x2] [] (g, m) Q := by
  unfold lb_Mod_isRight_4 at e
  refine g_iload_n k_Mod_isRight_4 rfl rfl ?_
  refine g_aload_n k_Mod_isRight_5 rfl rfl ?_
  refine p_geti k_Mod_isRight_6 fl_Mod_253 rfl (sk_Mod s) (by decide) ?_
  refine g_icmp_ge (tgt := 45) k_Mod_isRight_9 (by decide) (fun c => ?_) (fun c => ?_)
  · rw [if_pos c] at e
    refine g_iload_n k_Mod_isRight_45 rfl rfl ?_
    obtain ⟨q1, e⟩ := o_gd_ex e
    refine g_zret k_Mod_isRight_46 rfl (isb_or q1) ?_
    exact (by cases e; exact hq)
  · rw [if_neg c] at e
    refine g_aload_n k_Mod_isRight_12 rfl rfl ?_
    refine g_aload_n k_Mod_isRight_13 rfl rfl ?_
    refine p_getr k_Mod_isRight_14 fl_Mod_25 rfl (sk_Mod s) (by decide) (sr_Mod_11 s) ?_
    refine g_iload_n k_Mod_isRight_17 rfl rfl ?_
    obtain ⟨q2, e⟩ := o_gd_ex e
    refine p_iald k_Mod_isRight_18 (sa_Mod_11 s) (inb_in q2) (j := x2.toNatClampNeg) rfl ?_
    obtain ⟨y3, m4, e_y3, e⟩ := o_b2_ex e
    refine g_cv k_Mod_isRight_19 lv_Mod_265 (by decide +kernel) (T := F_Mod) (N := 61) (ci := 10) rfl (sk_Mod s) (s_Mod_readsAt (bc := 0) (bs := 0) s (m 246 x2.toNatClampNeg) m e_y3) rfl rfl (Nat.le_of_ble_eq_true rfl) (by simp [Value.category]) (by omega) (by omega) (by omega) ?_
    refine g_aload_n k_Mod_isRight_22 rfl rfl ?_
    obtain ⟨y5, m6, e_y5, e⟩ := o_b2_ex e
    refine g_cv k_Mod_isRight_23 lv_Mod_202 (by decide +kernel) (T := F_Mod) (N := 61) (ci := 10) rfl (sk_Mod s) (s_Mod_ors (bc := 0) (bs := 0) s F  m4 e_y5 (by omega)) rfl rfl (Nat.le_of_ble_eq_true rfl) (by simp [Value.category]) (by omega) (by omega) (by omega) ?_
    refine g_if_eq (tgt := 37) k_Mod_isRight_26 (by decide) (fun c => ?_) (fun c => ?_)
    · rw [if_pos c] at e
      exact G.wl (wls (wld (wls wl0))) (t_Mod_isRight_37 s F rec_4 hr_4 x2 m6 hq e hd)
    · rw [if_neg c] at e
      refine g_iload_n k_Mod_isRight_29 rfl rfl ?_
      refine g_if_eq (tgt := 37) k_Mod_isRight_30 (by decide) (fun c => ?_) (fun c => ?_)
      · rw [if_pos c] at e
        exact G.wl (wls (wld (wls wl0))) (t_Mod_isRight_37 s F rec_4 hr_4 x2 m6 hq e hd)
      · rw [if_neg c] at e
        refine g_iconst (v := 1) k_Mod_isRight_33 rfl ?_
        refine g_goto (tgt := 38) k_Mod_isRight_34 (by decide) ?_
        exact G.wl (wls (wld (wls wl0))) (t_Mod_isRight_38 s F rec_4 hr_4 x2 1 m6 hq e hd)
def ll_Mod_isRight_4 (F : Nat) : Nat → Int32 → Int32 → aM → Option (Int32 × aM)
  | 0, _, _, _ => none
  | N + 1, x1, x2, m => lb_Mod_isRight_4 F (ll_Mod_isRight_4 F N) x1 x2 m
theorem t_Mod_isRight_4 {K : aK} {d bc bs : Nat} {g : aG} (s : SyM g) {Q : aQ} {r : Int32} {m' : aM} (F : Nat) : ∀ (N : Nat) (x1 : Int32) (x2 : Int32) (m : aM), Q (.inl (some (.int r))) (g, m') → ll_Mod_isRight_4 F N x1 x2 m = some (r, m') → 397 ≤ d → G K M_Mod_isRight d bc bs 4 [.ref 242, .int x1, .int x2] [] (g, m) Q
  | 0, _, _, _ => fun _ e => nomatch e
  | N + 1, x1, x2, m => fun hq e hd => tb_Mod_isRight_4 s F (ll_Mod_isRight_4 F N) (fun x1 x2 m e => t_Mod_isRight_4 s F N x1 x2 m hq e hd) x1 x2 m hq e hd
def f_Mod_isRight (F : Nat)  (m : aM) : Option (Int32 × aM) :=
  ll_Mod_isRight_4 F F 1 0 m
theorem s_Mod_isRight {K : aK} {d bc bs : Nat} {g : aG} (s : SyM g) (F : Nat)  (m : aM) {r : Int32} {m' : aM} (e : f_Mod_isRight F  m = some (r, m')) (hd : 397 ≤ d) : Sp K M_Mod_isRight d bc bs [.ref 242] (g, m) (some (.int r)) (g, m') := by
  refine sp_of ok_Mod_isRight rfl (Nat.le_of_ble_eq_true rfl) (by simp [Value.category]) (fun Q hq => ?_)
  unfold f_Mod_isRight at e
  refine g_iconst (v := 1) k_Mod_isRight_0 rfl ?_
  refine g_istore_n k_Mod_isRight_1 rfl (by decide) ?_
  refine g_iconst (v := 0) k_Mod_isRight_2 rfl ?_
  refine g_istore_n k_Mod_isRight_3 rfl (by decide) ?_
  exact (t_Mod_isRight_4 s F F 1 0 m hq e hd)
def lb_Mod_isRightBy_2 (F : Nat) (rec_2 : Nat → Nat → Int32 → aM → Option (Int32 × aM)) (a1 : Nat) (a2 : Nat) (x3 : Int32) (m : aM) : Option (Int32 × aM) :=
  (if 4 ≤ x3 then
  o_b2 (f_Mod_isRight F  m) fun y1 m2 =>
  o_gd (isb y1) <|
  some (y1, m2)
  else
  o_gd (inb x3 4) <|
  o_gd (inb x3 4) <|
  o_let (a_st m 250 x3.toNatClampNeg (m a1 x3.toNatClampNeg)) fun m6 =>
  o_gd (inb x3 4) <|
  o_gd (inb x3 4) <|
  o_let (a_st m6 249 x3.toNatClampNeg (m6 a2 x3.toNatClampNeg)) fun m9 =>
  rec_2 a1 a2 (x3 + 1) m9
  )
theorem tb_Mod_isRightBy_2 {K : aK} {d bc bs : Nat} {g : aG} (s : SyM g) {Q : aQ} {r : Int32} {m' : aM} (F : Nat) (rec_2 : Nat → Nat → Int32 → aM → Option (Int32 × aM)) (hr_2 : ∀ (a1 : Nat) (h1 : g.2.1 a1 = (0, 4)) (a2 : Nat) (h2 : g.2.1 a2 = (0, 4)) (x3 : Int32) (m : aM), rec_2 a1 a2 x3 m = some (r, m') → G K M_Mod_isRightBy d bc bs 2 [.ref 242, .ref a1, .ref a2, .int x3] [] (g, m) Q) (a1 : Nat) (h1 : g.2.1 a1 = (0, 4)) (a2 : Nat) (h2 : g.2.1 a2 = (0, 4)) (x3 : Int32) (m : aM) (hq : Q (.inl (some (.int r))) (g, m')) (e : lb_Mod_isRightBy_2 F rec_2 a1 a2 x3 m = some (r, m')) (hd : 398 ≤ d) : G K M_Mod_isRightBy d bc bs 2 [.ref 242, .ref a1, .ref a2, .int x3] [] (g, m) Q := by
  unfold lb_Mod_isRightBy_2 at e
  refine g_iload_n k_Mod_isRightBy_2 rfl rfl ?_
  refine g_iconst (v := 4) k_Mod_isRightBy_3 rfl ?_
  refine g_icmp_ge (tgt := 31) k_Mod_isRightBy_4 (by decide) (fun c => ?_) (fun c => ?_)
  · rw [if_pos c] at e
    refine g_aload_n k_Mod_isRightBy_31 rfl rfl ?_
    obtain ⟨y1, m2, e_y1, e⟩ := o_b2_ex e
    refine g_cv k_Mod_isRightBy_32 lv_Mod_306 (by decide +kernel) (T := F_Mod) (N := 61) (ci := 10) rfl (sk_Mod s) (s_Mod_isRight (bc := 0) (bs := 0) s F  m e_y1 (by omega)) rfl rfl (Nat.le_of_ble_eq_true rfl) (by simp [Value.category]) (by omega) (by omega) (by omega) ?_
    obtain ⟨q3, e⟩ := o_gd_ex e
    refine g_zret k_Mod_isRightBy_35 rfl (isb_or q3) ?_
    exact (by cases e; exact hq)
  · rw [if_neg c] at e
    refine g_aload_n k_Mod_isRightBy_7 rfl rfl ?_
    refine p_getr k_Mod_isRightBy_8 fl_Mod_37 rfl (sk_Mod s) (by decide) (sr_Mod_25 s) ?_
    refine g_iload_n k_Mod_isRightBy_11 rfl rfl ?_
    refine g_aload_n k_Mod_isRightBy_12 rfl rfl ?_
    refine g_iload_n k_Mod_isRightBy_13 rfl rfl ?_
    obtain ⟨q4, e⟩ := o_gd_ex e
    refine p_iald k_Mod_isRightBy_14 h1 (inb_in q4) (j := x3.toNatClampNeg) rfl ?_
    obtain ⟨q5, e⟩ := o_gd_ex e
    refine p_iast k_Mod_isRightBy_15 (sa_Mod_25 s) (inb_in q5) (j := x3.toNatClampNeg) rfl ?_
    obtain ⟨m6, u_m6, e⟩ := o_let_ex e
    refine G.hm u_m6 ?_
    refine g_aload_n k_Mod_isRightBy_16 rfl rfl ?_
    refine p_getr k_Mod_isRightBy_17 fl_Mod_34 rfl (sk_Mod s) (by decide) (sr_Mod_24 s) ?_
    refine g_iload_n k_Mod_isRightBy_20 rfl rfl ?_
    refine g_aload_n k_Mod_isRightBy_21 rfl rfl ?_
    refine g_iload_n k_Mod_isRightBy_22 rfl rfl ?_
    obtain ⟨q7, e⟩ := o_gd_ex e
    refine p_iald k_Mod_isRightBy_23 h2 (inb_in q7) (j := x3.toNatClampNeg) rfl ?_
    obtain ⟨q8, e⟩ := o_gd_ex e
    refine p_iast k_Mod_isRightBy_24 (sa_Mod_24 s) (inb_in q8) (j := x3.toNatClampNeg) rfl ?_
    obtain ⟨m9, u_m9, e⟩ := o_let_ex e
    refine G.hm u_m9 ?_
    refine g_iinc (v := _ + 1) k_Mod_isRightBy_25 rfl rfl (by decide) ?_
    refine g_goto (tgt := 2) k_Mod_isRightBy_28 (by decide) ?_
    exact (hr_2 a1 h1 a2 h2 (x3 + 1) m9 e)
def ll_Mod_isRightBy_2 (F : Nat) : Nat → Nat → Nat → Int32 → aM → Option (Int32 × aM)
  | 0, _, _, _, _ => none
  | N + 1, a1, a2, x3, m => lb_Mod_isRightBy_2 F (ll_Mod_isRightBy_2 F N) a1 a2 x3 m
theorem t_Mod_isRightBy_2 {K : aK} {d bc bs : Nat} {g : aG} (s : SyM g) {Q : aQ} {r : Int32} {m' : aM} (F : Nat) : ∀ (N : Nat) (a1 : Nat) (h1 : g.2.1 a1 = (0, 4)) (a2 : Nat) (h2 : g.2.1 a2 = (0, 4)) (x3 : Int32) (m : aM), Q (.inl (some (.int r))) (g, m') → ll_Mod_isRightBy_2 F N a1 a2 x3 m = some (r, m') → 398 ≤ d → G K M_Mod_isRightBy d bc bs 2 [.ref 242, .ref a1, .ref a2, .int x3] [] (g, m) Q
  | 0, _, _, _, _, _, _ => fun _ e => nomatch e
  | N + 1, a1, h1, a2, h2, x3, m => fun hq e hd => tb_Mod_isRightBy_2 s F (ll_Mod_isRightBy_2 F N) (fun a1 h1 a2 h2 x3 m e => t_Mod_isRightBy_2 s F N a1 h1 a2 h2 x3 m hq e hd) a1 h1 a2 h2 x3 m hq e hd
def f_Mod_isRightBy (F : Nat) (a1 : Nat) (a2 : Nat) (m : aM) : Option (Int32 × aM) :=
  ll_Mod_isRightBy_2 F F a1 a2 0 m
theorem s_Mod_isRightBy {K : aK} {d bc bs : Nat} {g : aG} (s : SyM g) (F : Nat) (a1 : Nat) (h1 : g.2.1 a1 = (0, 4)) (a2 : Nat) (h2 : g.2.1 a2 = (0, 4)) (m : aM) {r : Int32} {m' : aM} (e : f_Mod_isRightBy F a1 a2 m = some (r, m')) (hd : 398 ≤ d) : Sp K M_Mod_isRightBy d bc bs [.ref 242, .ref a1, .ref a2] (g, m) (some (.int r)) (g, m') := by
  refine sp_of ok_Mod_isRightBy rfl (Nat.le_of_ble_eq_true rfl) (by simp [Value.category]) (fun Q hq => ?_)
  unfold f_Mod_isRightBy at e
  refine g_iconst (v := 0) k_Mod_isRightBy_0 rfl ?_
  refine g_istore_n k_Mod_isRightBy_1 rfl (by decide) ?_
  exact (t_Mod_isRightBy_2 s F F a1 h1 a2 h2 0 m hq e hd)
def b_Mod_wrong_42 (F : Nat) (rec_13 : Int32 → Int32 → aM → Option (Int32 × aM)) (xt0 : Int32) (xt1 : Int32) (m : aM) : Option (Int32 × aM) :=
  o_b2 (f_Mod_goesOn F  m) fun y1 m2 =>
  rec_13 (xt1 + xt0) y1 m2
theorem t_Mod_wrong_42 {K : aK} {d bc bs : Nat} {g : aG} (s : SyM g) {Q : aQ} {r : Int32} {m' : aM} (F : Nat) (rec_13 : Int32 → Int32 → aM → Option (Int32 × aM)) (hr_13 : ∀ (x1 : Int32) (x2 : Int32) (m : aM), rec_13 x1 x2 m = some (r, m') → G K M_Mod_wrong d bc bs 13 [.ref 242, .int x1, .int x2] [] (g, m) Q) (xt0 : Int32) (xt1 : Int32) (m : aM) (hq : Q (.inl (some (.int r))) (g, m')) (e : b_Mod_wrong_42 F rec_13 xt0 xt1 m = some (r, m')) (hd : 400 ≤ d) : G K M_Mod_wrong d bc bs 42 [.ref 242, .double 0, .double 0] [.int xt0, .int xt1] (g, m) Q := by
  unfold b_Mod_wrong_42 at e
  refine g_iadd k_Mod_wrong_42 ?_
  refine g_istore_n k_Mod_wrong_43 rfl (by decide) ?_
  refine g_aload_n k_Mod_wrong_44 rfl rfl ?_
  obtain ⟨y1, m2, e_y1, e⟩ := o_b2_ex e
  refine g_cv k_Mod_wrong_45 lv_Mod_289 (by decide +kernel) (T := F_Mod) (N := 61) (ci := 10) rfl (sk_Mod s) (s_Mod_goesOn (bc := 0) (bs := 0) s F  m e_y1) rfl rfl (Nat.le_of_ble_eq_true rfl) (by simp [Value.category]) (by omega) (by omega) (by omega) ?_
  refine g_istore_n k_Mod_wrong_48 rfl (by decide) ?_
  refine g_goto (tgt := 13) k_Mod_wrong_49 (by decide) ?_
  exact (hr_13 (xt1 + xt0) y1 m2 e)
def lb_Mod_wrong_13 (F : Nat) (rec_13 : Int32 → Int32 → aM → Option (Int32 × aM)) (x1 : Int32) (x2 : Int32) (m : aM) : Option (Int32 × aM) :=
  (if x2 = 0 then
  some (x1, m)
  else
  o_b2 (f_Mod_seesRow F  m) fun y1 m2 =>
  o_b2 (f_Mod_isRightBy F 251 256 m2) fun y3 m4 =>
  (if y3 = 0 then
  b_Mod_wrong_42 F rec_13 1 x1 m4
  else
  b_Mod_wrong_42 F rec_13 0 x1 m4
  )
  )
theorem tb_Mod_wrong_13 {K : aK} {d bc bs : Nat} {g : aG} (s : SyM g) {Q : aQ} {r : Int32} {m' : aM} (F : Nat) (rec_13 : Int32 → Int32 → aM → Option (Int32 × aM)) (hr_13 : ∀ (x1 : Int32) (x2 : Int32) (m : aM), rec_13 x1 x2 m = some (r, m') → G K M_Mod_wrong d bc bs 13 [.ref 242, .int x1, .int x2] [] (g, m) Q) (x1 : Int32) (x2 : Int32) (m : aM) (hq : Q (.inl (some (.int r))) (g, m')) (e : lb_Mod_wrong_13 F rec_13 x1 x2 m = some (r, m')) (hd : 400 ≤ d) : G K M_Mod_wrong d bc bs 13 [.ref 242, .int x1, .int x2] [] (g, m) Q := by
  unfold lb_Mod_wrong_13 at e
  refine g_iload_n k_Mod_wrong_13 rfl rfl ?_
  refine g_if_eq (tgt := 52) k_Mod_wrong_14 (by decide) (fun c => ?_) (fun c => ?_)
  · rw [if_pos c] at e
    refine g_iload_n k_Mod_wrong_52 rfl rfl ?_
    refine g_iret k_Mod_wrong_53 rfl ?_
    exact (by cases e; exact hq)
  · rw [if_neg c] at e
    refine g_aload_n k_Mod_wrong_17 rfl rfl ?_
    obtain ⟨y1, m2, e_y1, e⟩ := o_b2_ex e
    refine g_cv k_Mod_wrong_18 lv_Mod_280 (by decide +kernel) (T := F_Mod) (N := 61) (ci := 10) rfl (sk_Mod s) (s_Mod_seesRow (bc := 0) (bs := 0) s F  m e_y1 (by omega)) rfl rfl (Nat.le_of_ble_eq_true rfl) (by simp [Value.category]) (by omega) (by omega) (by omega) ?_
    refine g_iload_n k_Mod_wrong_21 rfl rfl ?_
    refine g_aload_n k_Mod_wrong_22 rfl rfl ?_
    refine g_aload_n k_Mod_wrong_23 rfl rfl ?_
    refine p_getr k_Mod_wrong_24 fl_Mod_40 rfl (sk_Mod s) (by decide) (sr_Mod_26 s) ?_
    refine g_aload_n k_Mod_wrong_27 rfl rfl ?_
    refine p_getr k_Mod_wrong_28 fl_Mod_55 rfl (sk_Mod s) (by decide) (sr_Mod_31 s) ?_
    obtain ⟨y3, m4, e_y3, e⟩ := o_b2_ex e
    refine g_cv k_Mod_wrong_31 lv_Mod_302 (by decide +kernel) (T := F_Mod) (N := 61) (ci := 10) rfl (sk_Mod s) (s_Mod_isRightBy (bc := 0) (bs := 0) s F 251 (sa_Mod_26 s) 256 (sa_Mod_31 s) m2 e_y3 (by omega)) rfl rfl (Nat.le_of_ble_eq_true rfl) (by simp [Value.category]) (by omega) (by omega) (by omega) ?_
    refine g_if_eq (tgt := 41) k_Mod_wrong_34 (by decide) (fun c => ?_) (fun c => ?_)
    · rw [if_pos c] at e
      refine g_iconst (v := 1) k_Mod_wrong_41 rfl ?_
      exact G.wl (wls (wld (wld wl0))) (t_Mod_wrong_42 s F rec_13 hr_13 1 x1 m4 hq e hd)
    · rw [if_neg c] at e
      refine g_iconst (v := 0) k_Mod_wrong_37 rfl ?_
      refine g_goto (tgt := 42) k_Mod_wrong_38 (by decide) ?_
      exact G.wl (wls (wld (wld wl0))) (t_Mod_wrong_42 s F rec_13 hr_13 0 x1 m4 hq e hd)
def ll_Mod_wrong_13 (F : Nat) : Nat → Int32 → Int32 → aM → Option (Int32 × aM)
  | 0, _, _, _ => none
  | N + 1, x1, x2, m => lb_Mod_wrong_13 F (ll_Mod_wrong_13 F N) x1 x2 m
theorem t_Mod_wrong_13 {K : aK} {d bc bs : Nat} {g : aG} (s : SyM g) {Q : aQ} {r : Int32} {m' : aM} (F : Nat) : ∀ (N : Nat) (x1 : Int32) (x2 : Int32) (m : aM), Q (.inl (some (.int r))) (g, m') → ll_Mod_wrong_13 F N x1 x2 m = some (r, m') → 400 ≤ d → G K M_Mod_wrong d bc bs 13 [.ref 242, .int x1, .int x2] [] (g, m) Q
  | 0, _, _, _ => fun _ e => nomatch e
  | N + 1, x1, x2, m => fun hq e hd => tb_Mod_wrong_13 s F (ll_Mod_wrong_13 F N) (fun x1 x2 m e => t_Mod_wrong_13 s F N x1 x2 m hq e hd) x1 x2 m hq e hd
def f_Mod_wrong (F : Nat)  (m : aM) : Option (Int32 × aM) :=
  o_let (a_st m 242 0 0) fun m1 =>
  o_b2 (f_Mod_begin F  m1) fun y2 m3 =>
  ll_Mod_wrong_13 F F 0 1 m3
theorem s_Mod_wrong {K : aK} {d bc bs : Nat} {g : aG} (s : SyM g) (F : Nat)  (m : aM) {r : Int32} {m' : aM} (e : f_Mod_wrong F  m = some (r, m')) (hd : 400 ≤ d) : Sp K M_Mod_wrong d bc bs [.ref 242] (g, m) (some (.int r)) (g, m') := by
  refine sp_of ok_Mod_wrong rfl (Nat.le_of_ble_eq_true rfl) (by simp [Value.category]) (fun Q hq => ?_)
  unfold f_Mod_wrong at e
  refine g_aload_n k_Mod_wrong_0 rfl rfl ?_
  refine g_iconst (v := 0) k_Mod_wrong_1 rfl ?_
  refine p_puti k_Mod_wrong_2 fl_Mod_131 rfl ⟨R_Mod, F_Mod, 61, rfl, Or.inl rfl⟩ (sk_Mod s) (by decide) ?_
  obtain ⟨m1, u_m1, e⟩ := o_let_ex e
  refine G.hm u_m1 ?_
  refine g_iconst (v := 0) k_Mod_wrong_5 rfl ?_
  refine g_istore_n k_Mod_wrong_6 rfl (by decide) ?_
  refine g_aload_n k_Mod_wrong_7 rfl rfl ?_
  obtain ⟨y2, m3, e_y2, e⟩ := o_b2_ex e
  refine g_cv k_Mod_wrong_8 lv_Mod_283 (by decide +kernel) (T := F_Mod) (N := 61) (ci := 10) rfl (sk_Mod s) (s_Mod_begin (bc := 0) (bs := 0) s F  m1 e_y2) rfl rfl (Nat.le_of_ble_eq_true rfl) (by simp [Value.category]) (by omega) (by omega) (by omega) ?_
  refine g_iconst (v := 1) k_Mod_wrong_11 rfl ?_
  refine g_istore_n k_Mod_wrong_12 rfl (by decide) ?_
  exact (t_Mod_wrong_13 s F F 0 1 m3 hq e hd)
def f_Mod_change  (m : aM) : Option (Int32 × aM) :=
  o_let (a_st m 242 0 0) fun m1 =>
  (if (m1 242 35) = 3 then
  some ((-1), m1)
  else
  o_let (a_st m1 242 35 ((m1 242 35) + 1)) fun m2 =>
  some (((m2 242 35) - 1), m2)
  )
theorem s_Mod_change {K : aK} {d bc bs : Nat} {g : aG} (s : SyM g)  (m : aM) {r : Int32} {m' : aM} (e : f_Mod_change  m = some (r, m')) : Sp K M_Mod_change d bc bs [.ref 242] (g, m) (some (.int r)) (g, m') := by
  refine sp_of ok_Mod_change rfl (Nat.le_of_ble_eq_true rfl) (by simp [Value.category]) (fun Q hq => ?_)
  unfold f_Mod_change at e
  refine g_aload_n k_Mod_change_0 rfl rfl ?_
  refine g_iconst (v := 0) k_Mod_change_1 rfl ?_
  refine p_puti k_Mod_change_2 fl_Mod_131 rfl ⟨R_Mod, F_Mod, 61, rfl, Or.inl rfl⟩ (sk_Mod s) (by decide) ?_
  obtain ⟨m1, u_m1, e⟩ := o_let_ex e
  refine G.hm u_m1 ?_
  refine g_aload_n k_Mod_change_5 rfl rfl ?_
  refine p_geti k_Mod_change_6 fl_Mod_309 rfl (sk_Mod s) (by decide) ?_
  refine g_iconst (v := 3) k_Mod_change_9 rfl ?_
  refine g_icmp_ne (tgt := 15) k_Mod_change_10 (by decide) (fun c => ?_) (fun c => ?_)
  · rw [if_pos c] at e
    refine g_iconst (v := (-1)) k_Mod_change_13 rfl ?_
    refine g_iret k_Mod_change_14 rfl ?_
    exact (by cases e; exact hq)
  · rw [if_neg c] at e
    refine g_aload_n k_Mod_change_15 rfl rfl ?_
    refine g_dup k_Mod_change_16 rfl ?_
    refine p_geti k_Mod_change_17 fl_Mod_309 rfl (sk_Mod s) (by decide) ?_
    refine g_iconst (v := 1) k_Mod_change_20 rfl ?_
    refine g_iadd k_Mod_change_21 ?_
    refine p_puti k_Mod_change_22 fl_Mod_309 rfl ⟨R_Mod, F_Mod, 61, rfl, Or.inl rfl⟩ (sk_Mod s) (by decide) ?_
    obtain ⟨m2, u_m2, e⟩ := o_let_ex e
    refine G.hm u_m2 ?_
    refine g_aload_n k_Mod_change_25 rfl rfl ?_
    refine p_geti k_Mod_change_26 fl_Mod_309 rfl (sk_Mod s) (by decide) ?_
    refine g_iconst (v := 1) k_Mod_change_29 rfl ?_
    refine g_isub k_Mod_change_30 ?_
    refine g_iret k_Mod_change_31 rfl ?_
    exact (by cases e; exact hq)
def b_Mod_hold_57 (x1 : Int32) (x2 : Int32) (x3 : Int32) (xt0 : Int32) (m : aM) : Option (Int32 × aM) :=
  o_b2 (f_Mod_bad xt0 2 m) fun y1 m2 =>
  (if y1 = 0 then
  o_gd (inb x1 3) <|
  o_gd (inb x2 5) <|
  o_let ((m2 (8453 + x1.toNatClampNeg) x2.toNatClampNeg)) fun y5 =>
  o_gd (inb x1 3) <|
  o_gd (inb x2 5) <|
  o_let (a_st m2 (8453 + x1.toNatClampNeg) x2.toNatClampNeg x3) fun m8 =>
  some (y5, m8)
  else
  some (0, m2)
  )
theorem t_Mod_hold_57 {K : aK} {d bc bs : Nat} {g : aG} (s : SyM g) {Q : aQ} {r : Int32} {m' : aM} (x1 : Int32) (x2 : Int32) (x3 : Int32) (xt0 : Int32) (m : aM) (hq : Q (.inl (some (.int r))) (g, m')) (e : b_Mod_hold_57 x1 x2 x3 xt0 m = some (r, m')) (hd : 1 ≤ d) : G K M_Mod_hold d bc bs 57 [.ref 242, .int x1, .int x2, .int x3, .double 0] [.int xt0, .ref 242] (g, m) Q := by
  unfold b_Mod_hold_57 at e
  refine g_iconst (v := 2) k_Mod_hold_57 rfl ?_
  obtain ⟨y1, m2, e_y1, e⟩ := o_b2_ex e
  refine g_cv k_Mod_hold_58 lv_Mod_240 (by decide +kernel) (T := F_Mod) (N := 61) (ci := 10) rfl (sk_Mod s) (s_Mod_bad (bc := 0) (bs := 0) s xt0 2 m e_y1) rfl rfl (Nat.le_of_ble_eq_true rfl) (by simp [Value.category]) (by omega) (by omega) (by omega) ?_
  refine g_if_eq (tgt := 66) k_Mod_hold_61 (by decide) (fun c => ?_) (fun c => ?_)
  · rw [if_pos c] at e
    refine g_aload_n k_Mod_hold_66 rfl rfl ?_
    refine p_getr k_Mod_hold_67 fl_Mod_70 rfl (sk_Mod s) (by decide) (sr_Mod_38 s) ?_
    refine g_iload_n k_Mod_hold_70 rfl rfl ?_
    obtain ⟨q3, e⟩ := o_gd_ex e
    refine p_aald k_Mod_hold_71 (sa_Mod_38 s) (by decide) (by decide) (inb_in q3) (j := x1.toNatClampNeg) rfl (si_Mod_38 s _ (vp_lt (inb_in q3))).1 ?_
    refine g_iload_n k_Mod_hold_72 rfl rfl ?_
    obtain ⟨q4, e⟩ := o_gd_ex e
    refine p_iald k_Mod_hold_73 (si_Mod_38 s _ (vp_lt (inb_in q3))).2 (inb_in q4) (j := x2.toNatClampNeg) rfl ?_
    obtain ⟨y5, u_y5, e⟩ := o_let_ex e
    refine G.vy u_y5 ?_
    refine g_istore k_Mod_hold_74 (by decide) ?_
    refine g_aload_n k_Mod_hold_76 rfl rfl ?_
    refine p_getr k_Mod_hold_77 fl_Mod_70 rfl (sk_Mod s) (by decide) (sr_Mod_38 s) ?_
    refine g_iload_n k_Mod_hold_80 rfl rfl ?_
    obtain ⟨q6, e⟩ := o_gd_ex e
    refine p_aald k_Mod_hold_81 (sa_Mod_38 s) (by decide) (by decide) (inb_in q6) (j := x1.toNatClampNeg) rfl (si_Mod_38 s _ (vp_lt (inb_in q6))).1 ?_
    refine g_iload_n k_Mod_hold_82 rfl rfl ?_
    refine g_iload_n k_Mod_hold_83 rfl rfl ?_
    obtain ⟨q7, e⟩ := o_gd_ex e
    refine p_iast k_Mod_hold_84 (si_Mod_38 s _ (vp_lt (inb_in q6))).2 (inb_in q7) (j := x2.toNatClampNeg) rfl ?_
    obtain ⟨m8, u_m8, e⟩ := o_let_ex e
    refine G.hm u_m8 ?_
    refine g_iload k_Mod_hold_85 rfl ?_
    refine g_iret k_Mod_hold_87 rfl ?_
    exact (by cases e; exact hq)
  · rw [if_neg c] at e
    refine g_iconst (v := 0) k_Mod_hold_64 rfl ?_
    refine g_iret k_Mod_hold_65 rfl ?_
    exact (by cases e; exact hq)
def b_Mod_hold_52 (x1 : Int32) (x2 : Int32) (x3 : Int32) (m : aM) : Option (Int32 × aM) :=
  b_Mod_hold_57 x1 x2 x3 1 m
theorem t_Mod_hold_52 {K : aK} {d bc bs : Nat} {g : aG} (s : SyM g) {Q : aQ} {r : Int32} {m' : aM} (x1 : Int32) (x2 : Int32) (x3 : Int32) (m : aM) (hq : Q (.inl (some (.int r))) (g, m')) (e : b_Mod_hold_52 x1 x2 x3 m = some (r, m')) (hd : 1 ≤ d) : G K M_Mod_hold d bc bs 52 [.ref 242, .int x1, .int x2, .int x3, .double 0] [.ref 242] (g, m) Q := by
  unfold b_Mod_hold_52 at e
  refine g_iconst (v := 1) k_Mod_hold_52 rfl ?_
  refine g_goto (tgt := 57) k_Mod_hold_53 (by decide) ?_
  exact (t_Mod_hold_57 s x1 x2 x3 1 m hq e hd)
def b_Mod_hold_25 (x1 : Int32) (x2 : Int32) (x3 : Int32) (xt0 : Int32) (m : aM) : Option (Int32 × aM) :=
  o_b2 (f_Mod_bad xt0 1 m) fun y1 m2 =>
  (if y1 = 0 then
  o_b (f_Mod_in x2 0 4 m2) fun y3 =>
  (if y3 = 0 then
  b_Mod_hold_52 x1 x2 x3 m2
  else
  o_b (f_Mod_in x3 0 99 m2) fun y4 =>
  (if y4 = 0 then
  b_Mod_hold_52 x1 x2 x3 m2
  else
  b_Mod_hold_57 x1 x2 x3 0 m2
  )
  )
  else
  some (0, m2)
  )
theorem t_Mod_hold_25 {K : aK} {d bc bs : Nat} {g : aG} (s : SyM g) {Q : aQ} {r : Int32} {m' : aM} (x1 : Int32) (x2 : Int32) (x3 : Int32) (xt0 : Int32) (m : aM) (hq : Q (.inl (some (.int r))) (g, m')) (e : b_Mod_hold_25 x1 x2 x3 xt0 m = some (r, m')) (hd : 1 ≤ d) : G K M_Mod_hold d bc bs 25 [.ref 242, .int x1, .int x2, .int x3, .double 0] [.int xt0, .ref 242] (g, m) Q := by
  unfold b_Mod_hold_25 at e
  refine g_iconst (v := 1) k_Mod_hold_25 rfl ?_
  obtain ⟨y1, m2, e_y1, e⟩ := o_b2_ex e
  refine g_cv k_Mod_hold_26 lv_Mod_240 (by decide +kernel) (T := F_Mod) (N := 61) (ci := 10) rfl (sk_Mod s) (s_Mod_bad (bc := 0) (bs := 0) s xt0 1 m e_y1) rfl rfl (Nat.le_of_ble_eq_true rfl) (by simp [Value.category]) (by omega) (by omega) (by omega) ?_
  refine g_if_ne (tgt := 64) k_Mod_hold_29 (by decide) (fun c => ?_) (fun c => ?_)
  · rw [if_pos c] at e
    refine g_aload_n k_Mod_hold_32 rfl rfl ?_
    refine g_iload_n k_Mod_hold_33 rfl rfl ?_
    refine g_iconst (v := 0) k_Mod_hold_34 rfl ?_
    refine g_iconst (v := 4) k_Mod_hold_35 rfl ?_
    obtain ⟨y3, e_y3, e⟩ := o_b_ex e
    refine g_cs k_Mod_hold_36 ls_Mod_236 (by decide +kernel) (s_Mod_in (bc := 0) (bs := 0) s x2 0 4 m2 e_y3) rfl rfl (Nat.le_of_ble_eq_true rfl) (by simp [Value.category]) (by omega) (by omega) (by omega) ?_
    refine g_if_eq (tgt := 52) k_Mod_hold_39 (by decide) (fun c => ?_) (fun c => ?_)
    · rw [if_pos c] at e
      exact (t_Mod_hold_52 s x1 x2 x3 m2 hq e hd)
    · rw [if_neg c] at e
      refine g_iload_n k_Mod_hold_42 rfl rfl ?_
      refine g_iconst (v := 0) k_Mod_hold_43 rfl ?_
      refine g_bipush (v := 99) k_Mod_hold_44 rfl ?_
      obtain ⟨y4, e_y4, e⟩ := o_b_ex e
      refine g_cs k_Mod_hold_46 ls_Mod_236 (by decide +kernel) (s_Mod_in (bc := 0) (bs := 0) s x3 0 99 m2 e_y4) rfl rfl (Nat.le_of_ble_eq_true rfl) (by simp [Value.category]) (by omega) (by omega) (by omega) ?_
      refine g_if_ne (tgt := 56) k_Mod_hold_49 (by decide) (fun c => ?_) (fun c => ?_)
      · rw [if_pos c] at e
        exact (t_Mod_hold_52 s x1 x2 x3 m2 hq e hd)
      · rw [if_neg c] at e
        refine g_iconst (v := 0) k_Mod_hold_56 rfl ?_
        exact (t_Mod_hold_57 s x1 x2 x3 0 m2 hq e hd)
  · rw [if_neg c] at e
    refine g_iconst (v := 0) k_Mod_hold_64 rfl ?_
    refine g_iret k_Mod_hold_65 rfl ?_
    exact (by cases e; exact hq)
def f_Mod_hold (x1 : Int32) (x2 : Int32) (x3 : Int32) (m : aM) : Option (Int32 × aM) :=
  o_let (a_st m 242 0 0) fun m1 =>
  o_b (f_Mod_in x1 0 ((m1 242 35) - 1) m1) fun y2 =>
  (if y2 = 0 then
  b_Mod_hold_25 x1 x2 x3 1 m1
  else
  b_Mod_hold_25 x1 x2 x3 0 m1
  )
theorem s_Mod_hold {K : aK} {d bc bs : Nat} {g : aG} (s : SyM g) (x1 : Int32) (x2 : Int32) (x3 : Int32) (m : aM) {r : Int32} {m' : aM} (e : f_Mod_hold x1 x2 x3 m = some (r, m')) (hd : 1 ≤ d) : Sp K M_Mod_hold d bc bs [.ref 242, .int x1, .int x2, .int x3] (g, m) (some (.int r)) (g, m') := by
  refine sp_of ok_Mod_hold rfl (Nat.le_of_ble_eq_true rfl) (by simp [Value.category]) (fun Q hq => ?_)
  unfold f_Mod_hold at e
  refine g_aload_n k_Mod_hold_0 rfl rfl ?_
  refine g_iconst (v := 0) k_Mod_hold_1 rfl ?_
  refine p_puti k_Mod_hold_2 fl_Mod_131 rfl ⟨R_Mod, F_Mod, 61, rfl, Or.inl rfl⟩ (sk_Mod s) (by decide) ?_
  obtain ⟨m1, u_m1, e⟩ := o_let_ex e
  refine G.hm u_m1 ?_
  refine g_aload_n k_Mod_hold_5 rfl rfl ?_
  refine g_iload_n k_Mod_hold_6 rfl rfl ?_
  refine g_iconst (v := 0) k_Mod_hold_7 rfl ?_
  refine g_aload_n k_Mod_hold_8 rfl rfl ?_
  refine p_geti k_Mod_hold_9 fl_Mod_309 rfl (sk_Mod s) (by decide) ?_
  refine g_iconst (v := 1) k_Mod_hold_12 rfl ?_
  refine g_isub k_Mod_hold_13 ?_
  obtain ⟨y2, e_y2, e⟩ := o_b_ex e
  refine g_cs k_Mod_hold_14 ls_Mod_236 (by decide +kernel) (s_Mod_in (bc := 0) (bs := 0) s x1 0 ((m1 242 35) - 1) m1 e_y2) rfl rfl (Nat.le_of_ble_eq_true rfl) (by simp [Value.category]) (by omega) (by omega) (by omega) ?_
  refine g_if_ne (tgt := 24) k_Mod_hold_17 (by decide) (fun c => ?_) (fun c => ?_)
  · rw [if_pos c] at e
    refine g_iconst (v := 1) k_Mod_hold_20 rfl ?_
    refine g_goto (tgt := 25) k_Mod_hold_21 (by decide) ?_
    exact (t_Mod_hold_25 s x1 x2 x3 1 m1 hq e hd)
  · rw [if_neg c] at e
    refine g_iconst (v := 0) k_Mod_hold_24 rfl ?_
    exact (t_Mod_hold_25 s x1 x2 x3 0 m1 hq e hd)
def b_Mod_order_97 (x1 : Int32) (x2 : Int32) (x3 : Int32) (m : aM) : Option (Int32 × aM) :=
  (if x3 = 0 then
  o_gd (inb x1 3) <|
  o_gd (inb x2 3) <|
  o_let (a_st m (8463 + x1.toNatClampNeg) x2.toNatClampNeg 1) fun m3 =>
  some (1, m3)
  else
  o_gd (inb x1 3) <|
  o_gd (inb x2 3) <|
  o_let (a_st m (8467 + x1.toNatClampNeg) x2.toNatClampNeg 1) fun m6 =>
  o_gd (inb x2 3) <|
  o_gd (inb x1 3) <|
  o_let (a_st m6 (8467 + x2.toNatClampNeg) x1.toNatClampNeg 1) fun m9 =>
  some (1, m9)
  )
theorem t_Mod_order_97 {K : aK} {d bc bs : Nat} {g : aG} (s : SyM g) {Q : aQ} {r : Int32} {m' : aM} (x1 : Int32) (x2 : Int32) (x3 : Int32) (m : aM) (hq : Q (.inl (some (.int r))) (g, m')) (e : b_Mod_order_97 x1 x2 x3 m = some (r, m')) (hd : 1 ≤ d) : G K M_Mod_order d bc bs 97 [.ref 242, .int x1, .int x2, .int x3] [] (g, m) Q := by
  unfold b_Mod_order_97 at e
  refine g_iload_n k_Mod_order_97 rfl rfl ?_
  refine g_if_eq (tgt := 122) k_Mod_order_98 (by decide) (fun c => ?_) (fun c => ?_)
  · rw [if_pos c] at e
    refine g_aload_n k_Mod_order_122 rfl rfl ?_
    refine p_getr k_Mod_order_123 fl_Mod_78 rfl (sk_Mod s) (by decide) (sr_Mod_40 s) ?_
    refine g_iload_n k_Mod_order_126 rfl rfl ?_
    obtain ⟨q1, e⟩ := o_gd_ex e
    refine p_aald k_Mod_order_127 (sa_Mod_40 s) (by decide) (by decide) (inb_in q1) (j := x1.toNatClampNeg) rfl (si_Mod_40 s _ (vp_lt (inb_in q1))).1 ?_
    refine g_iload_n k_Mod_order_128 rfl rfl ?_
    refine g_iconst (v := 1) k_Mod_order_129 rfl ?_
    obtain ⟨q2, e⟩ := o_gd_ex e
    refine p_zast k_Mod_order_130 (si_Mod_40 s _ (vp_lt (inb_in q1))).2 (inb_in q2) (j := x2.toNatClampNeg) rfl (by decide) ?_
    obtain ⟨m3, u_m3, e⟩ := o_let_ex e
    refine G.hm u_m3 ?_
    refine g_iconst (v := 1) k_Mod_order_131 rfl ?_
    refine g_iret k_Mod_order_132 rfl ?_
    exact (by cases e; exact hq)
  · rw [if_neg c] at e
    refine g_aload_n k_Mod_order_101 rfl rfl ?_
    refine p_getr k_Mod_order_102 fl_Mod_81 rfl (sk_Mod s) (by decide) (sr_Mod_41 s) ?_
    refine g_iload_n k_Mod_order_105 rfl rfl ?_
    obtain ⟨q4, e⟩ := o_gd_ex e
    refine p_aald k_Mod_order_106 (sa_Mod_41 s) (by decide) (by decide) (inb_in q4) (j := x1.toNatClampNeg) rfl (si_Mod_41 s _ (vp_lt (inb_in q4))).1 ?_
    refine g_iload_n k_Mod_order_107 rfl rfl ?_
    refine g_iconst (v := 1) k_Mod_order_108 rfl ?_
    obtain ⟨q5, e⟩ := o_gd_ex e
    refine p_zast k_Mod_order_109 (si_Mod_41 s _ (vp_lt (inb_in q4))).2 (inb_in q5) (j := x2.toNatClampNeg) rfl (by decide) ?_
    obtain ⟨m6, u_m6, e⟩ := o_let_ex e
    refine G.hm u_m6 ?_
    refine g_aload_n k_Mod_order_110 rfl rfl ?_
    refine p_getr k_Mod_order_111 fl_Mod_81 rfl (sk_Mod s) (by decide) (sr_Mod_41 s) ?_
    refine g_iload_n k_Mod_order_114 rfl rfl ?_
    obtain ⟨q7, e⟩ := o_gd_ex e
    refine p_aald k_Mod_order_115 (sa_Mod_41 s) (by decide) (by decide) (inb_in q7) (j := x2.toNatClampNeg) rfl (si_Mod_41 s _ (vp_lt (inb_in q7))).1 ?_
    refine g_iload_n k_Mod_order_116 rfl rfl ?_
    refine g_iconst (v := 1) k_Mod_order_117 rfl ?_
    obtain ⟨q8, e⟩ := o_gd_ex e
    refine p_zast k_Mod_order_118 (si_Mod_41 s _ (vp_lt (inb_in q7))).2 (inb_in q8) (j := x1.toNatClampNeg) rfl (by decide) ?_
    obtain ⟨m9, u_m9, e⟩ := o_let_ex e
    refine G.hm u_m9 ?_
    refine g_goto (tgt := 131) k_Mod_order_119 (by decide) ?_
    refine g_iconst (v := 1) k_Mod_order_131 rfl ?_
    refine g_iret k_Mod_order_132 rfl ?_
    exact (by cases e; exact hq)
def b_Mod_order_57 (x1 : Int32) (x2 : Int32) (x3 : Int32) (xt0 : Int32) (m : aM) : Option (Int32 × aM) :=
  o_b2 (f_Mod_bad xt0 2 m) fun y1 m2 =>
  (if y1 = 0 then
  (if x3 = 0 then
  o_gd (inb x1 3) <|
  o_gd (inb x2 3) <|
  o_let ((m2 (8463 + x1.toNatClampNeg) x2.toNatClampNeg)) fun y5 =>
  (if y5 = 0 then
  b_Mod_order_97 x1 x2 x3 m2
  else
  some (0, m2)
  )
  else
  o_gd (inb x1 3) <|
  o_gd (inb x2 3) <|
  o_let ((m2 (8467 + x1.toNatClampNeg) x2.toNatClampNeg)) fun y8 =>
  (if y8 = 0 then
  b_Mod_order_97 x1 x2 x3 m2
  else
  some (0, m2)
  )
  )
  else
  some (0, m2)
  )
theorem t_Mod_order_57 {K : aK} {d bc bs : Nat} {g : aG} (s : SyM g) {Q : aQ} {r : Int32} {m' : aM} (x1 : Int32) (x2 : Int32) (x3 : Int32) (xt0 : Int32) (m : aM) (hq : Q (.inl (some (.int r))) (g, m')) (e : b_Mod_order_57 x1 x2 x3 xt0 m = some (r, m')) (hd : 1 ≤ d) : G K M_Mod_order d bc bs 57 [.ref 242, .int x1, .int x2, .int x3] [.int xt0, .ref 242] (g, m) Q := by
  unfold b_Mod_order_57 at e
  refine g_iconst (v := 2) k_Mod_order_57 rfl ?_
  obtain ⟨y1, m2, e_y1, e⟩ := o_b2_ex e
  refine g_cv k_Mod_order_58 lv_Mod_240 (by decide +kernel) (T := F_Mod) (N := 61) (ci := 10) rfl (sk_Mod s) (s_Mod_bad (bc := 0) (bs := 0) s xt0 2 m e_y1) rfl rfl (Nat.le_of_ble_eq_true rfl) (by simp [Value.category]) (by omega) (by omega) (by omega) ?_
  refine g_if_eq (tgt := 66) k_Mod_order_61 (by decide) (fun c => ?_) (fun c => ?_)
  · rw [if_pos c] at e
    refine g_iload_n k_Mod_order_66 rfl rfl ?_
    refine g_if_eq (tgt := 84) k_Mod_order_67 (by decide) (fun c => ?_) (fun c => ?_)
    · rw [if_pos c] at e
      refine g_aload_n k_Mod_order_84 rfl rfl ?_
      refine p_getr k_Mod_order_85 fl_Mod_78 rfl (sk_Mod s) (by decide) (sr_Mod_40 s) ?_
      refine g_iload_n k_Mod_order_88 rfl rfl ?_
      obtain ⟨q3, e⟩ := o_gd_ex e
      refine p_aald k_Mod_order_89 (sa_Mod_40 s) (by decide) (by decide) (inb_in q3) (j := x1.toNatClampNeg) rfl (si_Mod_40 s _ (vp_lt (inb_in q3))).1 ?_
      refine g_iload_n k_Mod_order_90 rfl rfl ?_
      obtain ⟨q4, e⟩ := o_gd_ex e
      refine p_zald k_Mod_order_91 (si_Mod_40 s _ (vp_lt (inb_in q3))).2 (inb_in q4) (j := x2.toNatClampNeg) rfl ?_
      obtain ⟨y5, u_y5, e⟩ := o_let_ex e
      refine G.vy u_y5 ?_
      refine g_if_eq (tgt := 97) k_Mod_order_92 (by decide) (fun c => ?_) (fun c => ?_)
      · rw [if_pos c] at e
        exact (t_Mod_order_97 s x1 x2 x3 m2 hq e hd)
      · rw [if_neg c] at e
        refine g_iconst (v := 0) k_Mod_order_95 rfl ?_
        refine g_iret k_Mod_order_96 rfl ?_
        exact (by cases e; exact hq)
    · rw [if_neg c] at e
      refine g_aload_n k_Mod_order_70 rfl rfl ?_
      refine p_getr k_Mod_order_71 fl_Mod_81 rfl (sk_Mod s) (by decide) (sr_Mod_41 s) ?_
      refine g_iload_n k_Mod_order_74 rfl rfl ?_
      obtain ⟨q6, e⟩ := o_gd_ex e
      refine p_aald k_Mod_order_75 (sa_Mod_41 s) (by decide) (by decide) (inb_in q6) (j := x1.toNatClampNeg) rfl (si_Mod_41 s _ (vp_lt (inb_in q6))).1 ?_
      refine g_iload_n k_Mod_order_76 rfl rfl ?_
      obtain ⟨q7, e⟩ := o_gd_ex e
      refine p_zald k_Mod_order_77 (si_Mod_41 s _ (vp_lt (inb_in q6))).2 (inb_in q7) (j := x2.toNatClampNeg) rfl ?_
      obtain ⟨y8, u_y8, e⟩ := o_let_ex e
      refine G.vy u_y8 ?_
      refine g_if_eq (tgt := 97) k_Mod_order_78 (by decide) (fun c => ?_) (fun c => ?_)
      · rw [if_pos c] at e
        exact (t_Mod_order_97 s x1 x2 x3 m2 hq e hd)
      · rw [if_neg c] at e
        refine g_goto (tgt := 95) k_Mod_order_81 (by decide) ?_
        refine g_iconst (v := 0) k_Mod_order_95 rfl ?_
        refine g_iret k_Mod_order_96 rfl ?_
        exact (by cases e; exact hq)
  · rw [if_neg c] at e
    refine g_iconst (v := 0) k_Mod_order_64 rfl ?_
    refine g_iret k_Mod_order_65 rfl ?_
    exact (by cases e; exact hq)
def b_Mod_order_39 (x1 : Int32) (x2 : Int32) (x3 : Int32) (xt0 : Int32) (m : aM) : Option (Int32 × aM) :=
  o_b2 (f_Mod_bad xt0 1 m) fun y1 m2 =>
  (if y1 = 0 then
  (if x1 = x2 then
  b_Mod_order_57 x1 x2 x3 1 m2
  else
  b_Mod_order_57 x1 x2 x3 0 m2
  )
  else
  some (0, m2)
  )
theorem t_Mod_order_39 {K : aK} {d bc bs : Nat} {g : aG} (s : SyM g) {Q : aQ} {r : Int32} {m' : aM} (x1 : Int32) (x2 : Int32) (x3 : Int32) (xt0 : Int32) (m : aM) (hq : Q (.inl (some (.int r))) (g, m')) (e : b_Mod_order_39 x1 x2 x3 xt0 m = some (r, m')) (hd : 1 ≤ d) : G K M_Mod_order d bc bs 39 [.ref 242, .int x1, .int x2, .int x3] [.int xt0, .ref 242] (g, m) Q := by
  unfold b_Mod_order_39 at e
  refine g_iconst (v := 1) k_Mod_order_39 rfl ?_
  obtain ⟨y1, m2, e_y1, e⟩ := o_b2_ex e
  refine g_cv k_Mod_order_40 lv_Mod_240 (by decide +kernel) (T := F_Mod) (N := 61) (ci := 10) rfl (sk_Mod s) (s_Mod_bad (bc := 0) (bs := 0) s xt0 1 m e_y1) rfl rfl (Nat.le_of_ble_eq_true rfl) (by simp [Value.category]) (by omega) (by omega) (by omega) ?_
  refine g_if_ne (tgt := 64) k_Mod_order_43 (by decide) (fun c => ?_) (fun c => ?_)
  · rw [if_pos c] at e
    refine g_aload_n k_Mod_order_46 rfl rfl ?_
    refine g_iload_n k_Mod_order_47 rfl rfl ?_
    refine g_iload_n k_Mod_order_48 rfl rfl ?_
    refine g_icmp_ne (tgt := 56) k_Mod_order_49 (by decide) (fun c => ?_) (fun c => ?_)
    · rw [if_pos c] at e
      refine g_iconst (v := 1) k_Mod_order_52 rfl ?_
      refine g_goto (tgt := 57) k_Mod_order_53 (by decide) ?_
      exact (t_Mod_order_57 s x1 x2 x3 1 m2 hq e hd)
    · rw [if_neg c] at e
      refine g_iconst (v := 0) k_Mod_order_56 rfl ?_
      exact (t_Mod_order_57 s x1 x2 x3 0 m2 hq e hd)
  · rw [if_neg c] at e
    refine g_iconst (v := 0) k_Mod_order_64 rfl ?_
    refine g_iret k_Mod_order_65 rfl ?_
    exact (by cases e; exact hq)
def b_Mod_order_34 (x1 : Int32) (x2 : Int32) (x3 : Int32) (m : aM) : Option (Int32 × aM) :=
  b_Mod_order_39 x1 x2 x3 1 m
theorem t_Mod_order_34 {K : aK} {d bc bs : Nat} {g : aG} (s : SyM g) {Q : aQ} {r : Int32} {m' : aM} (x1 : Int32) (x2 : Int32) (x3 : Int32) (m : aM) (hq : Q (.inl (some (.int r))) (g, m')) (e : b_Mod_order_34 x1 x2 x3 m = some (r, m')) (hd : 1 ≤ d) : G K M_Mod_order d bc bs 34 [.ref 242, .int x1, .int x2, .int x3] [.ref 242] (g, m) Q := by
  unfold b_Mod_order_34 at e
  refine g_iconst (v := 1) k_Mod_order_34 rfl ?_
  refine g_goto (tgt := 39) k_Mod_order_35 (by decide) ?_
  exact (t_Mod_order_39 s x1 x2 x3 1 m hq e hd)
def f_Mod_order (x1 : Int32) (x2 : Int32) (x3 : Int32) (m : aM) : Option (Int32 × aM) :=
  o_let (a_st m 242 0 0) fun m1 =>
  o_b (f_Mod_in x1 0 ((m1 242 35) - 1) m1) fun y2 =>
  (if y2 = 0 then
  b_Mod_order_34 x1 x2 x3 m1
  else
  o_b (f_Mod_in x2 0 ((m1 242 35) - 1) m1) fun y3 =>
  (if y3 = 0 then
  b_Mod_order_34 x1 x2 x3 m1
  else
  b_Mod_order_39 x1 x2 x3 0 m1
  )
  )
theorem s_Mod_order {K : aK} {d bc bs : Nat} {g : aG} (s : SyM g) (x1 : Int32) (x2 : Int32) (x3 : Int32) (m : aM) {r : Int32} {m' : aM} (e : f_Mod_order x1 x2 x3 m = some (r, m')) (hd : 1 ≤ d) : Sp K M_Mod_order d bc bs [.ref 242, .int x1, .int x2, .int x3] (g, m) (some (.int r)) (g, m') := by
  refine sp_of ok_Mod_order rfl (Nat.le_of_ble_eq_true rfl) (by simp [Value.category]) (fun Q hq => ?_)
  unfold f_Mod_order at e
  refine g_aload_n k_Mod_order_0 rfl rfl ?_
  refine g_iconst (v := 0) k_Mod_order_1 rfl ?_
  refine p_puti k_Mod_order_2 fl_Mod_131 rfl ⟨R_Mod, F_Mod, 61, rfl, Or.inl rfl⟩ (sk_Mod s) (by decide) ?_
  obtain ⟨m1, u_m1, e⟩ := o_let_ex e
  refine G.hm u_m1 ?_
  refine g_aload_n k_Mod_order_5 rfl rfl ?_
  refine g_iload_n k_Mod_order_6 rfl rfl ?_
  refine g_iconst (v := 0) k_Mod_order_7 rfl ?_
  refine g_aload_n k_Mod_order_8 rfl rfl ?_
  refine p_geti k_Mod_order_9 fl_Mod_309 rfl (sk_Mod s) (by decide) ?_
  refine g_iconst (v := 1) k_Mod_order_12 rfl ?_
  refine g_isub k_Mod_order_13 ?_
  obtain ⟨y2, e_y2, e⟩ := o_b_ex e
  refine g_cs k_Mod_order_14 ls_Mod_236 (by decide +kernel) (s_Mod_in (bc := 0) (bs := 0) s x1 0 ((m1 242 35) - 1) m1 e_y2) rfl rfl (Nat.le_of_ble_eq_true rfl) (by simp [Value.category]) (by omega) (by omega) (by omega) ?_
  refine g_if_eq (tgt := 34) k_Mod_order_17 (by decide) (fun c => ?_) (fun c => ?_)
  · rw [if_pos c] at e
    exact (t_Mod_order_34 s x1 x2 x3 m1 hq e hd)
  · rw [if_neg c] at e
    refine g_iload_n k_Mod_order_20 rfl rfl ?_
    refine g_iconst (v := 0) k_Mod_order_21 rfl ?_
    refine g_aload_n k_Mod_order_22 rfl rfl ?_
    refine p_geti k_Mod_order_23 fl_Mod_309 rfl (sk_Mod s) (by decide) ?_
    refine g_iconst (v := 1) k_Mod_order_26 rfl ?_
    refine g_isub k_Mod_order_27 ?_
    obtain ⟨y3, e_y3, e⟩ := o_b_ex e
    refine g_cs k_Mod_order_28 ls_Mod_236 (by decide +kernel) (s_Mod_in (bc := 0) (bs := 0) s x2 0 ((m1 242 35) - 1) m1 e_y3) rfl rfl (Nat.le_of_ble_eq_true rfl) (by simp [Value.category]) (by omega) (by omega) (by omega) ?_
    refine g_if_ne (tgt := 38) k_Mod_order_31 (by decide) (fun c => ?_) (fun c => ?_)
    · rw [if_pos c] at e
      exact (t_Mod_order_34 s x1 x2 x3 m1 hq e hd)
    · rw [if_neg c] at e
      refine g_iconst (v := 0) k_Mod_order_38 rfl ?_
      exact (t_Mod_order_39 s x1 x2 x3 0 m1 hq e hd)
def f_Mod_program  (m : aM) : Option (Int32 × aM) :=
  o_let (a_st m 242 0 0) fun m1 =>
  (if (m1 242 36) = 5 then
  some ((-1), m1)
  else
  o_let (a_st m1 242 36 ((m1 242 36) + 1)) fun m2 =>
  some (((m2 242 36) - 1), m2)
  )
theorem s_Mod_program {K : aK} {d bc bs : Nat} {g : aG} (s : SyM g)  (m : aM) {r : Int32} {m' : aM} (e : f_Mod_program  m = some (r, m')) : Sp K M_Mod_program d bc bs [.ref 242] (g, m) (some (.int r)) (g, m') := by
  refine sp_of ok_Mod_program rfl (Nat.le_of_ble_eq_true rfl) (by simp [Value.category]) (fun Q hq => ?_)
  unfold f_Mod_program at e
  refine g_aload_n k_Mod_program_0 rfl rfl ?_
  refine g_iconst (v := 0) k_Mod_program_1 rfl ?_
  refine p_puti k_Mod_program_2 fl_Mod_131 rfl ⟨R_Mod, F_Mod, 61, rfl, Or.inl rfl⟩ (sk_Mod s) (by decide) ?_
  obtain ⟨m1, u_m1, e⟩ := o_let_ex e
  refine G.hm u_m1 ?_
  refine g_aload_n k_Mod_program_5 rfl rfl ?_
  refine p_geti k_Mod_program_6 fl_Mod_312 rfl (sk_Mod s) (by decide) ?_
  refine g_iconst (v := 5) k_Mod_program_9 rfl ?_
  refine g_icmp_ne (tgt := 15) k_Mod_program_10 (by decide) (fun c => ?_) (fun c => ?_)
  · rw [if_pos c] at e
    refine g_iconst (v := (-1)) k_Mod_program_13 rfl ?_
    refine g_iret k_Mod_program_14 rfl ?_
    exact (by cases e; exact hq)
  · rw [if_neg c] at e
    refine g_aload_n k_Mod_program_15 rfl rfl ?_
    refine g_dup k_Mod_program_16 rfl ?_
    refine p_geti k_Mod_program_17 fl_Mod_312 rfl (sk_Mod s) (by decide) ?_
    refine g_iconst (v := 1) k_Mod_program_20 rfl ?_
    refine g_iadd k_Mod_program_21 ?_
    refine p_puti k_Mod_program_22 fl_Mod_312 rfl ⟨R_Mod, F_Mod, 61, rfl, Or.inl rfl⟩ (sk_Mod s) (by decide) ?_
    obtain ⟨m2, u_m2, e⟩ := o_let_ex e
    refine G.hm u_m2 ?_
    refine g_aload_n k_Mod_program_25 rfl rfl ?_
    refine p_geti k_Mod_program_26 fl_Mod_312 rfl (sk_Mod s) (by decide) ?_
    refine g_iconst (v := 1) k_Mod_program_29 rfl ?_
    refine g_isub k_Mod_program_30 ?_
    refine g_iret k_Mod_program_31 rfl ?_
    exact (by cases e; exact hq)
def b_Mod_need_74 (x1 : Int32) (x2 : Int32) (x3 : Int32) (xt0 : Int32) (m : aM) : Option (Int32 × aM) :=
  o_b2 (f_Mod_bad xt0 3 m) fun y1 m2 =>
  (if y1 = 0 then
  o_gd (inb x1 5) <|
  o_gd (inb x2 3) <|
  o_let ((m2 (8457 + x1.toNatClampNeg) x2.toNatClampNeg)) fun y5 =>
  o_gd (inb x1 5) <|
  o_gd (inb x2 3) <|
  o_let (a_st m2 (8457 + x1.toNatClampNeg) x2.toNatClampNeg x3) fun m8 =>
  some (y5, m8)
  else
  some (0, m2)
  )
theorem t_Mod_need_74 {K : aK} {d bc bs : Nat} {g : aG} (s : SyM g) {Q : aQ} {r : Int32} {m' : aM} (x1 : Int32) (x2 : Int32) (x3 : Int32) (xt0 : Int32) (m : aM) (hq : Q (.inl (some (.int r))) (g, m')) (e : b_Mod_need_74 x1 x2 x3 xt0 m = some (r, m')) (hd : 1 ≤ d) : G K M_Mod_need d bc bs 74 [.ref 242, .int x1, .int x2, .int x3, .double 0] [.int xt0, .ref 242] (g, m) Q := by
  unfold b_Mod_need_74 at e
  refine g_iconst (v := 3) k_Mod_need_74 rfl ?_
  obtain ⟨y1, m2, e_y1, e⟩ := o_b2_ex e
  refine g_cv k_Mod_need_75 lv_Mod_240 (by decide +kernel) (T := F_Mod) (N := 61) (ci := 10) rfl (sk_Mod s) (s_Mod_bad (bc := 0) (bs := 0) s xt0 3 m e_y1) rfl rfl (Nat.le_of_ble_eq_true rfl) (by simp [Value.category]) (by omega) (by omega) (by omega) ?_
  refine g_if_eq (tgt := 83) k_Mod_need_78 (by decide) (fun c => ?_) (fun c => ?_)
  · rw [if_pos c] at e
    refine g_aload_n k_Mod_need_83 rfl rfl ?_
    refine p_getr k_Mod_need_84 fl_Mod_73 rfl (sk_Mod s) (by decide) (sr_Mod_39 s) ?_
    refine g_iload_n k_Mod_need_87 rfl rfl ?_
    obtain ⟨q3, e⟩ := o_gd_ex e
    refine p_aald k_Mod_need_88 (sa_Mod_39 s) (by decide) (by decide) (inb_in q3) (j := x1.toNatClampNeg) rfl (si_Mod_39 s _ (vp_lt (inb_in q3))).1 ?_
    refine g_iload_n k_Mod_need_89 rfl rfl ?_
    obtain ⟨q4, e⟩ := o_gd_ex e
    refine p_iald k_Mod_need_90 (si_Mod_39 s _ (vp_lt (inb_in q3))).2 (inb_in q4) (j := x2.toNatClampNeg) rfl ?_
    obtain ⟨y5, u_y5, e⟩ := o_let_ex e
    refine G.vy u_y5 ?_
    refine g_istore k_Mod_need_91 (by decide) ?_
    refine g_aload_n k_Mod_need_93 rfl rfl ?_
    refine p_getr k_Mod_need_94 fl_Mod_73 rfl (sk_Mod s) (by decide) (sr_Mod_39 s) ?_
    refine g_iload_n k_Mod_need_97 rfl rfl ?_
    obtain ⟨q6, e⟩ := o_gd_ex e
    refine p_aald k_Mod_need_98 (sa_Mod_39 s) (by decide) (by decide) (inb_in q6) (j := x1.toNatClampNeg) rfl (si_Mod_39 s _ (vp_lt (inb_in q6))).1 ?_
    refine g_iload_n k_Mod_need_99 rfl rfl ?_
    refine g_iload_n k_Mod_need_100 rfl rfl ?_
    obtain ⟨q7, e⟩ := o_gd_ex e
    refine p_iast k_Mod_need_101 (si_Mod_39 s _ (vp_lt (inb_in q6))).2 (inb_in q7) (j := x2.toNatClampNeg) rfl ?_
    obtain ⟨m8, u_m8, e⟩ := o_let_ex e
    refine G.hm u_m8 ?_
    refine g_iload k_Mod_need_102 rfl ?_
    refine g_iret k_Mod_need_104 rfl ?_
    exact (by cases e; exact hq)
  · rw [if_neg c] at e
    refine g_iconst (v := 0) k_Mod_need_81 rfl ?_
    refine g_iret k_Mod_need_82 rfl ?_
    exact (by cases e; exact hq)
def b_Mod_need_52 (x1 : Int32) (x2 : Int32) (x3 : Int32) (xt0 : Int32) (m : aM) : Option (Int32 × aM) :=
  o_b2 (f_Mod_bad xt0 2 m) fun y1 m2 =>
  (if y1 = 0 then
  o_b (f_Mod_in x3 0 2 m2) fun y3 =>
  (if y3 = 0 then
  b_Mod_need_74 x1 x2 x3 1 m2
  else
  b_Mod_need_74 x1 x2 x3 0 m2
  )
  else
  some (0, m2)
  )
theorem t_Mod_need_52 {K : aK} {d bc bs : Nat} {g : aG} (s : SyM g) {Q : aQ} {r : Int32} {m' : aM} (x1 : Int32) (x2 : Int32) (x3 : Int32) (xt0 : Int32) (m : aM) (hq : Q (.inl (some (.int r))) (g, m')) (e : b_Mod_need_52 x1 x2 x3 xt0 m = some (r, m')) (hd : 1 ≤ d) : G K M_Mod_need d bc bs 52 [.ref 242, .int x1, .int x2, .int x3, .double 0] [.int xt0, .ref 242] (g, m) Q := by
  unfold b_Mod_need_52 at e
  refine g_iconst (v := 2) k_Mod_need_52 rfl ?_
  obtain ⟨y1, m2, e_y1, e⟩ := o_b2_ex e
  refine g_cv k_Mod_need_53 lv_Mod_240 (by decide +kernel) (T := F_Mod) (N := 61) (ci := 10) rfl (sk_Mod s) (s_Mod_bad (bc := 0) (bs := 0) s xt0 2 m e_y1) rfl rfl (Nat.le_of_ble_eq_true rfl) (by simp [Value.category]) (by omega) (by omega) (by omega) ?_
  refine g_if_ne (tgt := 81) k_Mod_need_56 (by decide) (fun c => ?_) (fun c => ?_)
  · rw [if_pos c] at e
    refine g_aload_n k_Mod_need_59 rfl rfl ?_
    refine g_iload_n k_Mod_need_60 rfl rfl ?_
    refine g_iconst (v := 0) k_Mod_need_61 rfl ?_
    refine g_iconst (v := 2) k_Mod_need_62 rfl ?_
    obtain ⟨y3, e_y3, e⟩ := o_b_ex e
    refine g_cs k_Mod_need_63 ls_Mod_236 (by decide +kernel) (s_Mod_in (bc := 0) (bs := 0) s x3 0 2 m2 e_y3) rfl rfl (Nat.le_of_ble_eq_true rfl) (by simp [Value.category]) (by omega) (by omega) (by omega) ?_
    refine g_if_ne (tgt := 73) k_Mod_need_66 (by decide) (fun c => ?_) (fun c => ?_)
    · rw [if_pos c] at e
      refine g_iconst (v := 1) k_Mod_need_69 rfl ?_
      refine g_goto (tgt := 74) k_Mod_need_70 (by decide) ?_
      exact (t_Mod_need_74 s x1 x2 x3 1 m2 hq e hd)
    · rw [if_neg c] at e
      refine g_iconst (v := 0) k_Mod_need_73 rfl ?_
      exact (t_Mod_need_74 s x1 x2 x3 0 m2 hq e hd)
  · rw [if_neg c] at e
    refine g_iconst (v := 0) k_Mod_need_81 rfl ?_
    refine g_iret k_Mod_need_82 rfl ?_
    exact (by cases e; exact hq)
def b_Mod_need_25 (x1 : Int32) (x2 : Int32) (x3 : Int32) (xt0 : Int32) (m : aM) : Option (Int32 × aM) :=
  o_b2 (f_Mod_bad xt0 1 m) fun y1 m2 =>
  (if y1 = 0 then
  o_b (f_Mod_in x2 0 ((m2 242 35) - 1) m2) fun y3 =>
  (if y3 = 0 then
  b_Mod_need_52 x1 x2 x3 1 m2
  else
  b_Mod_need_52 x1 x2 x3 0 m2
  )
  else
  some (0, m2)
  )
theorem t_Mod_need_25 {K : aK} {d bc bs : Nat} {g : aG} (s : SyM g) {Q : aQ} {r : Int32} {m' : aM} (x1 : Int32) (x2 : Int32) (x3 : Int32) (xt0 : Int32) (m : aM) (hq : Q (.inl (some (.int r))) (g, m')) (e : b_Mod_need_25 x1 x2 x3 xt0 m = some (r, m')) (hd : 1 ≤ d) : G K M_Mod_need d bc bs 25 [.ref 242, .int x1, .int x2, .int x3, .double 0] [.int xt0, .ref 242] (g, m) Q := by
  unfold b_Mod_need_25 at e
  refine g_iconst (v := 1) k_Mod_need_25 rfl ?_
  obtain ⟨y1, m2, e_y1, e⟩ := o_b2_ex e
  refine g_cv k_Mod_need_26 lv_Mod_240 (by decide +kernel) (T := F_Mod) (N := 61) (ci := 10) rfl (sk_Mod s) (s_Mod_bad (bc := 0) (bs := 0) s xt0 1 m e_y1) rfl rfl (Nat.le_of_ble_eq_true rfl) (by simp [Value.category]) (by omega) (by omega) (by omega) ?_
  refine g_if_ne (tgt := 81) k_Mod_need_29 (by decide) (fun c => ?_) (fun c => ?_)
  · rw [if_pos c] at e
    refine g_aload_n k_Mod_need_32 rfl rfl ?_
    refine g_iload_n k_Mod_need_33 rfl rfl ?_
    refine g_iconst (v := 0) k_Mod_need_34 rfl ?_
    refine g_aload_n k_Mod_need_35 rfl rfl ?_
    refine p_geti k_Mod_need_36 fl_Mod_309 rfl (sk_Mod s) (by decide) ?_
    refine g_iconst (v := 1) k_Mod_need_39 rfl ?_
    refine g_isub k_Mod_need_40 ?_
    obtain ⟨y3, e_y3, e⟩ := o_b_ex e
    refine g_cs k_Mod_need_41 ls_Mod_236 (by decide +kernel) (s_Mod_in (bc := 0) (bs := 0) s x2 0 ((m2 242 35) - 1) m2 e_y3) rfl rfl (Nat.le_of_ble_eq_true rfl) (by simp [Value.category]) (by omega) (by omega) (by omega) ?_
    refine g_if_ne (tgt := 51) k_Mod_need_44 (by decide) (fun c => ?_) (fun c => ?_)
    · rw [if_pos c] at e
      refine g_iconst (v := 1) k_Mod_need_47 rfl ?_
      refine g_goto (tgt := 52) k_Mod_need_48 (by decide) ?_
      exact (t_Mod_need_52 s x1 x2 x3 1 m2 hq e hd)
    · rw [if_neg c] at e
      refine g_iconst (v := 0) k_Mod_need_51 rfl ?_
      exact (t_Mod_need_52 s x1 x2 x3 0 m2 hq e hd)
  · rw [if_neg c] at e
    refine g_iconst (v := 0) k_Mod_need_81 rfl ?_
    refine g_iret k_Mod_need_82 rfl ?_
    exact (by cases e; exact hq)
def f_Mod_need (x1 : Int32) (x2 : Int32) (x3 : Int32) (m : aM) : Option (Int32 × aM) :=
  o_let (a_st m 242 0 0) fun m1 =>
  o_b (f_Mod_in x1 0 ((m1 242 36) - 1) m1) fun y2 =>
  (if y2 = 0 then
  b_Mod_need_25 x1 x2 x3 1 m1
  else
  b_Mod_need_25 x1 x2 x3 0 m1
  )
theorem s_Mod_need {K : aK} {d bc bs : Nat} {g : aG} (s : SyM g) (x1 : Int32) (x2 : Int32) (x3 : Int32) (m : aM) {r : Int32} {m' : aM} (e : f_Mod_need x1 x2 x3 m = some (r, m')) (hd : 1 ≤ d) : Sp K M_Mod_need d bc bs [.ref 242, .int x1, .int x2, .int x3] (g, m) (some (.int r)) (g, m') := by
  refine sp_of ok_Mod_need rfl (Nat.le_of_ble_eq_true rfl) (by simp [Value.category]) (fun Q hq => ?_)
  unfold f_Mod_need at e
  refine g_aload_n k_Mod_need_0 rfl rfl ?_
  refine g_iconst (v := 0) k_Mod_need_1 rfl ?_
  refine p_puti k_Mod_need_2 fl_Mod_131 rfl ⟨R_Mod, F_Mod, 61, rfl, Or.inl rfl⟩ (sk_Mod s) (by decide) ?_
  obtain ⟨m1, u_m1, e⟩ := o_let_ex e
  refine G.hm u_m1 ?_
  refine g_aload_n k_Mod_need_5 rfl rfl ?_
  refine g_iload_n k_Mod_need_6 rfl rfl ?_
  refine g_iconst (v := 0) k_Mod_need_7 rfl ?_
  refine g_aload_n k_Mod_need_8 rfl rfl ?_
  refine p_geti k_Mod_need_9 fl_Mod_312 rfl (sk_Mod s) (by decide) ?_
  refine g_iconst (v := 1) k_Mod_need_12 rfl ?_
  refine g_isub k_Mod_need_13 ?_
  obtain ⟨y2, e_y2, e⟩ := o_b_ex e
  refine g_cs k_Mod_need_14 ls_Mod_236 (by decide +kernel) (s_Mod_in (bc := 0) (bs := 0) s x1 0 ((m1 242 36) - 1) m1 e_y2) rfl rfl (Nat.le_of_ble_eq_true rfl) (by simp [Value.category]) (by omega) (by omega) (by omega) ?_
  refine g_if_ne (tgt := 24) k_Mod_need_17 (by decide) (fun c => ?_) (fun c => ?_)
  · rw [if_pos c] at e
    refine g_iconst (v := 1) k_Mod_need_20 rfl ?_
    refine g_goto (tgt := 25) k_Mod_need_21 (by decide) ?_
    exact (t_Mod_need_25 s x1 x2 x3 1 m1 hq e hd)
  · rw [if_neg c] at e
    refine g_iconst (v := 0) k_Mod_need_24 rfl ?_
    exact (t_Mod_need_25 s x1 x2 x3 0 m1 hq e hd)
def b_Mod_price_48 (x1 : Int32) (x2 : Int32) (xt0 : Int32) (m : aM) : Option (Int32 × aM) :=
  o_b2 (f_Mod_bad xt0 2 m) fun y1 m2 =>
  (if y1 = 0 then
  o_gd (inb x1 5) <|
  o_gd (inb x1 5) <|
  o_let (a_st m2 8470 x1.toNatClampNeg x2) fun m5 =>
  some ((m2 8470 x1.toNatClampNeg), m5)
  else
  some (0, m2)
  )
theorem t_Mod_price_48 {K : aK} {d bc bs : Nat} {g : aG} (s : SyM g) {Q : aQ} {r : Int32} {m' : aM} (x1 : Int32) (x2 : Int32) (xt0 : Int32) (m : aM) (hq : Q (.inl (some (.int r))) (g, m')) (e : b_Mod_price_48 x1 x2 xt0 m = some (r, m')) (hd : 1 ≤ d) : G K M_Mod_price d bc bs 48 [.ref 242, .int x1, .int x2, .double 0] [.int xt0, .ref 242] (g, m) Q := by
  unfold b_Mod_price_48 at e
  refine g_iconst (v := 2) k_Mod_price_48 rfl ?_
  obtain ⟨y1, m2, e_y1, e⟩ := o_b2_ex e
  refine g_cv k_Mod_price_49 lv_Mod_240 (by decide +kernel) (T := F_Mod) (N := 61) (ci := 10) rfl (sk_Mod s) (s_Mod_bad (bc := 0) (bs := 0) s xt0 2 m e_y1) rfl rfl (Nat.le_of_ble_eq_true rfl) (by simp [Value.category]) (by omega) (by omega) (by omega) ?_
  refine g_if_eq (tgt := 57) k_Mod_price_52 (by decide) (fun c => ?_) (fun c => ?_)
  · rw [if_pos c] at e
    refine g_aload_n k_Mod_price_57 rfl rfl ?_
    refine p_getr k_Mod_price_58 fl_Mod_84 rfl (sk_Mod s) (by decide) (sr_Mod_42 s) ?_
    refine g_iload_n k_Mod_price_61 rfl rfl ?_
    obtain ⟨q3, e⟩ := o_gd_ex e
    refine p_iald k_Mod_price_62 (sa_Mod_42 s) (inb_in q3) (j := x1.toNatClampNeg) rfl ?_
    refine g_istore_n k_Mod_price_63 rfl (by decide) ?_
    refine g_aload_n k_Mod_price_64 rfl rfl ?_
    refine p_getr k_Mod_price_65 fl_Mod_84 rfl (sk_Mod s) (by decide) (sr_Mod_42 s) ?_
    refine g_iload_n k_Mod_price_68 rfl rfl ?_
    refine g_iload_n k_Mod_price_69 rfl rfl ?_
    obtain ⟨q4, e⟩ := o_gd_ex e
    refine p_iast k_Mod_price_70 (sa_Mod_42 s) (inb_in q4) (j := x1.toNatClampNeg) rfl ?_
    obtain ⟨m5, u_m5, e⟩ := o_let_ex e
    refine G.hm u_m5 ?_
    refine g_iload_n k_Mod_price_71 rfl rfl ?_
    refine g_iret k_Mod_price_72 rfl ?_
    exact (by cases e; exact hq)
  · rw [if_neg c] at e
    refine g_iconst (v := 0) k_Mod_price_55 rfl ?_
    refine g_iret k_Mod_price_56 rfl ?_
    exact (by cases e; exact hq)
def b_Mod_price_25 (x1 : Int32) (x2 : Int32) (xt0 : Int32) (m : aM) : Option (Int32 × aM) :=
  o_b2 (f_Mod_bad xt0 1 m) fun y1 m2 =>
  (if y1 = 0 then
  o_b (f_Mod_in x2 0 99 m2) fun y3 =>
  (if y3 = 0 then
  b_Mod_price_48 x1 x2 1 m2
  else
  b_Mod_price_48 x1 x2 0 m2
  )
  else
  some (0, m2)
  )
theorem t_Mod_price_25 {K : aK} {d bc bs : Nat} {g : aG} (s : SyM g) {Q : aQ} {r : Int32} {m' : aM} (x1 : Int32) (x2 : Int32) (xt0 : Int32) (m : aM) (hq : Q (.inl (some (.int r))) (g, m')) (e : b_Mod_price_25 x1 x2 xt0 m = some (r, m')) (hd : 1 ≤ d) : G K M_Mod_price d bc bs 25 [.ref 242, .int x1, .int x2, .double 0] [.int xt0, .ref 242] (g, m) Q := by
  unfold b_Mod_price_25 at e
  refine g_iconst (v := 1) k_Mod_price_25 rfl ?_
  obtain ⟨y1, m2, e_y1, e⟩ := o_b2_ex e
  refine g_cv k_Mod_price_26 lv_Mod_240 (by decide +kernel) (T := F_Mod) (N := 61) (ci := 10) rfl (sk_Mod s) (s_Mod_bad (bc := 0) (bs := 0) s xt0 1 m e_y1) rfl rfl (Nat.le_of_ble_eq_true rfl) (by simp [Value.category]) (by omega) (by omega) (by omega) ?_
  refine g_if_ne (tgt := 55) k_Mod_price_29 (by decide) (fun c => ?_) (fun c => ?_)
  · rw [if_pos c] at e
    refine g_aload_n k_Mod_price_32 rfl rfl ?_
    refine g_iload_n k_Mod_price_33 rfl rfl ?_
    refine g_iconst (v := 0) k_Mod_price_34 rfl ?_
    refine g_bipush (v := 99) k_Mod_price_35 rfl ?_
    obtain ⟨y3, e_y3, e⟩ := o_b_ex e
    refine g_cs k_Mod_price_37 ls_Mod_236 (by decide +kernel) (s_Mod_in (bc := 0) (bs := 0) s x2 0 99 m2 e_y3) rfl rfl (Nat.le_of_ble_eq_true rfl) (by simp [Value.category]) (by omega) (by omega) (by omega) ?_
    refine g_if_ne (tgt := 47) k_Mod_price_40 (by decide) (fun c => ?_) (fun c => ?_)
    · rw [if_pos c] at e
      refine g_iconst (v := 1) k_Mod_price_43 rfl ?_
      refine g_goto (tgt := 48) k_Mod_price_44 (by decide) ?_
      exact (t_Mod_price_48 s x1 x2 1 m2 hq e hd)
    · rw [if_neg c] at e
      refine g_iconst (v := 0) k_Mod_price_47 rfl ?_
      exact (t_Mod_price_48 s x1 x2 0 m2 hq e hd)
  · rw [if_neg c] at e
    refine g_iconst (v := 0) k_Mod_price_55 rfl ?_
    refine g_iret k_Mod_price_56 rfl ?_
    exact (by cases e; exact hq)
def f_Mod_price (x1 : Int32) (x2 : Int32) (m : aM) : Option (Int32 × aM) :=
  o_let (a_st m 242 0 0) fun m1 =>
  o_b (f_Mod_in x1 0 ((m1 242 36) - 1) m1) fun y2 =>
  (if y2 = 0 then
  b_Mod_price_25 x1 x2 1 m1
  else
  b_Mod_price_25 x1 x2 0 m1
  )
theorem s_Mod_price {K : aK} {d bc bs : Nat} {g : aG} (s : SyM g) (x1 : Int32) (x2 : Int32) (m : aM) {r : Int32} {m' : aM} (e : f_Mod_price x1 x2 m = some (r, m')) (hd : 1 ≤ d) : Sp K M_Mod_price d bc bs [.ref 242, .int x1, .int x2] (g, m) (some (.int r)) (g, m') := by
  refine sp_of ok_Mod_price rfl (Nat.le_of_ble_eq_true rfl) (by simp [Value.category]) (fun Q hq => ?_)
  unfold f_Mod_price at e
  refine g_aload_n k_Mod_price_0 rfl rfl ?_
  refine g_iconst (v := 0) k_Mod_price_1 rfl ?_
  refine p_puti k_Mod_price_2 fl_Mod_131 rfl ⟨R_Mod, F_Mod, 61, rfl, Or.inl rfl⟩ (sk_Mod s) (by decide) ?_
  obtain ⟨m1, u_m1, e⟩ := o_let_ex e
  refine G.hm u_m1 ?_
  refine g_aload_n k_Mod_price_5 rfl rfl ?_
  refine g_iload_n k_Mod_price_6 rfl rfl ?_
  refine g_iconst (v := 0) k_Mod_price_7 rfl ?_
  refine g_aload_n k_Mod_price_8 rfl rfl ?_
  refine p_geti k_Mod_price_9 fl_Mod_312 rfl (sk_Mod s) (by decide) ?_
  refine g_iconst (v := 1) k_Mod_price_12 rfl ?_
  refine g_isub k_Mod_price_13 ?_
  obtain ⟨y2, e_y2, e⟩ := o_b_ex e
  refine g_cs k_Mod_price_14 ls_Mod_236 (by decide +kernel) (s_Mod_in (bc := 0) (bs := 0) s x1 0 ((m1 242 36) - 1) m1 e_y2) rfl rfl (Nat.le_of_ble_eq_true rfl) (by simp [Value.category]) (by omega) (by omega) (by omega) ?_
  refine g_if_ne (tgt := 24) k_Mod_price_17 (by decide) (fun c => ?_) (fun c => ?_)
  · rw [if_pos c] at e
    refine g_iconst (v := 1) k_Mod_price_20 rfl ?_
    refine g_goto (tgt := 25) k_Mod_price_21 (by decide) ?_
    exact (t_Mod_price_25 s x1 x2 1 m1 hq e hd)
  · rw [if_neg c] at e
    refine g_iconst (v := 0) k_Mod_price_24 rfl ?_
    exact (t_Mod_price_25 s x1 x2 0 m1 hq e hd)
def f_Mod_nodes  (m : aM) : Option Int32 :=
  (if (m 242 35) = 0 then
  some 1
  else
  (if (m 242 35) = 1 then
  some 6
  else
  (if (m 242 35) = 2 then
  some 36
  else
  some 216
  )
  )
  )
theorem s_Mod_nodes {K : aK} {d bc bs : Nat} {g : aG} (s : SyM g)  (m : aM) {r : Int32} (e : f_Mod_nodes  m = some r) : Sp K M_Mod_nodes d bc bs [.ref 242] (g, m) (some (.int r)) (g, m) := by
  refine sp_of ok_Mod_nodes rfl (Nat.le_of_ble_eq_true rfl) (by simp [Value.category]) (fun Q hq => ?_)
  unfold f_Mod_nodes at e
  refine g_aload_n k_Mod_nodes_0 rfl rfl ?_
  refine p_geti k_Mod_nodes_1 fl_Mod_309 rfl (sk_Mod s) (by decide) ?_
  refine g_if_ne (tgt := 11) k_Mod_nodes_4 (by decide) (fun c => ?_) (fun c => ?_)
  · rw [if_pos c] at e
    refine g_iconst (v := 1) k_Mod_nodes_7 rfl ?_
    refine g_goto (tgt := 40) k_Mod_nodes_8 (by decide) ?_
    refine g_iret k_Mod_nodes_40 rfl ?_
    exact (by cases e; exact hq)
  · rw [if_neg c] at e
    refine g_aload_n k_Mod_nodes_11 rfl rfl ?_
    refine p_geti k_Mod_nodes_12 fl_Mod_309 rfl (sk_Mod s) (by decide) ?_
    refine g_iconst (v := 1) k_Mod_nodes_15 rfl ?_
    refine g_icmp_ne (tgt := 24) k_Mod_nodes_16 (by decide) (fun c => ?_) (fun c => ?_)
    · rw [if_pos c] at e
      refine g_bipush (v := 6) k_Mod_nodes_19 rfl ?_
      refine g_goto (tgt := 40) k_Mod_nodes_21 (by decide) ?_
      refine g_iret k_Mod_nodes_40 rfl ?_
      exact (by cases e; exact hq)
    · rw [if_neg c] at e
      refine g_aload_n k_Mod_nodes_24 rfl rfl ?_
      refine p_geti k_Mod_nodes_25 fl_Mod_309 rfl (sk_Mod s) (by decide) ?_
      refine g_iconst (v := 2) k_Mod_nodes_28 rfl ?_
      refine g_icmp_ne (tgt := 37) k_Mod_nodes_29 (by decide) (fun c => ?_) (fun c => ?_)
      · rw [if_pos c] at e
        refine g_bipush (v := 36) k_Mod_nodes_32 rfl ?_
        refine g_goto (tgt := 40) k_Mod_nodes_34 (by decide) ?_
        refine g_iret k_Mod_nodes_40 rfl ?_
        exact (by cases e; exact hq)
      · rw [if_neg c] at e
        refine g_sipush (v := 216) k_Mod_nodes_37 rfl ?_
        refine g_iret k_Mod_nodes_40 rfl ?_
        exact (by cases e; exact hq)
def f_Mod_isNode (x1 : Int32) (x2 : Int32) (m : aM) : Option Int32 :=
  o_b (f_Mod_nodes  m) fun y1 =>
  o_b (f_Mod_in x1 0 (y1 - 1) m) fun y2 =>
  (if y2 = 0 then
  some 0
  else
  o_let (((1 : Int32) <<< ((m 242 36) &&& 31))) fun y3 =>
  o_b (f_Mod_in x2 0 (y3 - 1) m) fun y4 =>
  (if y4 = 0 then
  some 0
  else
  some 1
  )
  )
theorem s_Mod_isNode {K : aK} {d bc bs : Nat} {g : aG} (s : SyM g) (x1 : Int32) (x2 : Int32) (m : aM) {r : Int32} (e : f_Mod_isNode x1 x2 m = some r) (hd : 1 ≤ d) : Sp K M_Mod_isNode d bc bs [.ref 242, .int x1, .int x2] (g, m) (some (.int r)) (g, m) := by
  refine sp_of ok_Mod_isNode rfl (Nat.le_of_ble_eq_true rfl) (by simp [Value.category]) (fun Q hq => ?_)
  unfold f_Mod_isNode at e
  refine g_iload_n k_Mod_isNode_0 rfl rfl ?_
  refine g_iconst (v := 0) k_Mod_isNode_1 rfl ?_
  refine g_aload_n k_Mod_isNode_2 rfl rfl ?_
  obtain ⟨y1, e_y1, e⟩ := o_b_ex e
  refine g_cv k_Mod_isNode_3 lv_Mod_322 (by decide +kernel) (T := F_Mod) (N := 61) (ci := 10) rfl (sk_Mod s) (s_Mod_nodes (bc := 0) (bs := 0) s  m e_y1) rfl rfl (Nat.le_of_ble_eq_true rfl) (by simp [Value.category]) (by omega) (by omega) (by omega) ?_
  refine g_iconst (v := 1) k_Mod_isNode_6 rfl ?_
  refine g_isub k_Mod_isNode_7 ?_
  obtain ⟨y2, e_y2, e⟩ := o_b_ex e
  refine g_cs k_Mod_isNode_8 ls_Mod_236 (by decide +kernel) (s_Mod_in (bc := 0) (bs := 0) s x1 0 (y1 - 1) m e_y2) rfl rfl (Nat.le_of_ble_eq_true rfl) (by simp [Value.category]) (by omega) (by omega) (by omega) ?_
  refine g_if_eq (tgt := 34) k_Mod_isNode_11 (by decide) (fun c => ?_) (fun c => ?_)
  · rw [if_pos c] at e
    refine g_iconst (v := 0) k_Mod_isNode_34 rfl ?_
    refine g_zret k_Mod_isNode_35 rfl (by decide) ?_
    exact (by cases e; exact hq)
  · rw [if_neg c] at e
    refine g_iload_n k_Mod_isNode_14 rfl rfl ?_
    refine g_iconst (v := 0) k_Mod_isNode_15 rfl ?_
    refine g_iconst (v := 1) k_Mod_isNode_16 rfl ?_
    refine g_aload_n k_Mod_isNode_17 rfl rfl ?_
    refine p_geti k_Mod_isNode_18 fl_Mod_312 rfl (sk_Mod s) (by decide) ?_
    refine g_ishl k_Mod_isNode_21 ?_
    obtain ⟨y3, u_y3, e⟩ := o_let_ex e
    refine G.vy u_y3 ?_
    refine g_iconst (v := 1) k_Mod_isNode_22 rfl ?_
    refine g_isub k_Mod_isNode_23 ?_
    obtain ⟨y4, e_y4, e⟩ := o_b_ex e
    refine g_cs k_Mod_isNode_24 ls_Mod_236 (by decide +kernel) (s_Mod_in (bc := 0) (bs := 0) s x2 0 (y3 - 1) m e_y4) rfl rfl (Nat.le_of_ble_eq_true rfl) (by simp [Value.category]) (by omega) (by omega) (by omega) ?_
    refine g_if_eq (tgt := 34) k_Mod_isNode_27 (by decide) (fun c => ?_) (fun c => ?_)
    · rw [if_pos c] at e
      refine g_iconst (v := 0) k_Mod_isNode_34 rfl ?_
      refine g_zret k_Mod_isNode_35 rfl (by decide) ?_
      exact (by cases e; exact hq)
    · rw [if_neg c] at e
      refine g_iconst (v := 1) k_Mod_isNode_30 rfl ?_
      refine g_goto (tgt := 35) k_Mod_isNode_31 (by decide) ?_
      refine g_zret k_Mod_isNode_35 rfl (by decide) ?_
      exact (by cases e; exact hq)
def f_Mod_power (x0 : Int32) (m : aM) : Option Int32 :=
  (if x0 = 0 then
  some 1
  else
  (if x0 = 1 then
  some 6
  else
  some 36
  )
  )
theorem s_Mod_power {K : aK} {d bc bs : Nat} {g : aG} (s : SyM g) (x0 : Int32) (m : aM) {r : Int32} (e : f_Mod_power x0 m = some r) : Sp K M_Mod_power d bc bs [.int x0] (g, m) (some (.int r)) (g, m) := by
  refine sp_of ok_Mod_power rfl (Nat.le_of_ble_eq_true rfl) (by simp [Value.category]) (fun Q hq => ?_)
  unfold f_Mod_power at e
  refine g_iload_n k_Mod_power_0 rfl rfl ?_
  refine g_if_ne (tgt := 8) k_Mod_power_1 (by decide) (fun c => ?_) (fun c => ?_)
  · rw [if_pos c] at e
    refine g_iconst (v := 1) k_Mod_power_4 rfl ?_
    refine g_goto (tgt := 20) k_Mod_power_5 (by decide) ?_
    refine g_iret k_Mod_power_20 rfl ?_
    exact (by cases e; exact hq)
  · rw [if_neg c] at e
    refine g_iload_n k_Mod_power_8 rfl rfl ?_
    refine g_iconst (v := 1) k_Mod_power_9 rfl ?_
    refine g_icmp_ne (tgt := 18) k_Mod_power_10 (by decide) (fun c => ?_) (fun c => ?_)
    · rw [if_pos c] at e
      refine g_bipush (v := 6) k_Mod_power_13 rfl ?_
      refine g_goto (tgt := 20) k_Mod_power_15 (by decide) ?_
      refine g_iret k_Mod_power_20 rfl ?_
      exact (by cases e; exact hq)
    · rw [if_neg c] at e
      refine g_bipush (v := 36) k_Mod_power_18 rfl ?_
      refine g_iret k_Mod_power_20 rfl ?_
      exact (by cases e; exact hq)
def f_Mod_stageOf (x0 : Int32) (x1 : Int32) (m : aM) : Option Int32 :=
  o_b (f_Mod_power x1 m) fun y1 =>
  o_gd (nz y1) <|
  some ((x0 / y1) % 6)
theorem s_Mod_stageOf {K : aK} {d bc bs : Nat} {g : aG} (s : SyM g) (x0 : Int32) (x1 : Int32) (m : aM) {r : Int32} (e : f_Mod_stageOf x0 x1 m = some r) (hd : 1 ≤ d) : Sp K M_Mod_stageOf d bc bs [.int x0, .int x1] (g, m) (some (.int r)) (g, m) := by
  refine sp_of ok_Mod_stageOf rfl (Nat.le_of_ble_eq_true rfl) (by simp [Value.category]) (fun Q hq => ?_)
  unfold f_Mod_stageOf at e
  refine g_iload_n k_Mod_stageOf_0 rfl rfl ?_
  refine g_iload_n k_Mod_stageOf_1 rfl rfl ?_
  obtain ⟨y1, e_y1, e⟩ := o_b_ex e
  refine g_cs k_Mod_stageOf_2 ls_Mod_315 (by decide +kernel) (s_Mod_power (bc := 0) (bs := 0) s x1 m e_y1) rfl rfl (Nat.le_of_ble_eq_true rfl) (by simp [Value.category]) (by omega) (by omega) (by omega) ?_
  obtain ⟨q2, e⟩ := o_gd_ex e
  refine g_idiv k_Mod_stageOf_5 (nz_ne q2) ?_
  refine g_bipush (v := 6) k_Mod_stageOf_6 rfl ?_
  refine g_irem k_Mod_stageOf_8 (by decide) ?_
  refine g_iret k_Mod_stageOf_9 rfl ?_
  exact (by cases e; exact hq)
def b_Mod_stands0_196 (F : Nat) (rec_107 : Int32 → Int32 → aM → Option Int32) (rec_118 : Int32 → Int32 → Int32 → aM → Option Int32) (x1 : Int32) (x3 : Int32) (x4 : Int32) (m : aM) : Option Int32 :=
  rec_118 x1 x3 (x4 + 1) m
theorem t_Mod_stands0_196 {K : aK} {d bc bs : Nat} {g : aG} (s : SyM g) {Q : aQ} {r : Int32} (F : Nat) (m : aM) (rec_107 : Int32 → Int32 → aM → Option Int32) (hr_107 : ∀ (x1 : Int32) (x3 : Int32), rec_107 x1 x3 m = some r → G K M_Mod_stands0 d bc bs 107 [.ref 242, .int x1, .double 0, .int x3, .double 0, .double 0, .double 0] [] (g, m) Q) (rec_118 : Int32 → Int32 → Int32 → aM → Option Int32) (hr_118 : ∀ (x1 : Int32) (x3 : Int32) (x4 : Int32), rec_118 x1 x3 x4 m = some r → G K M_Mod_stands0 d bc bs 118 [.ref 242, .int x1, .double 0, .int x3, .int x4, .double 0, .double 0] [] (g, m) Q) (x1 : Int32) (x3 : Int32) (x4 : Int32) (hq : Q (.inl (some (.int r))) (g, m)) (e : b_Mod_stands0_196 F rec_107 rec_118 x1 x3 x4 m = some r) (hd : 2 ≤ d) : G K M_Mod_stands0 d bc bs 196 [.ref 242, .int x1, .double 0, .int x3, .int x4, .double 0, .double 0] [] (g, m) Q := by
  unfold b_Mod_stands0_196 at e
  refine g_iinc (v := _ + 1) k_Mod_stands0_196 rfl rfl (by decide) ?_
  refine g_goto (tgt := 118) k_Mod_stands0_199 (by decide) ?_
  exact (hr_118 x1 x3 (x4 + 1)  e)
def b_Mod_stands0_155 (F : Nat) (rec_107 : Int32 → Int32 → aM → Option Int32) (rec_118 : Int32 → Int32 → Int32 → aM → Option Int32) (x1 : Int32) (x3 : Int32) (x4 : Int32) (m : aM) : Option Int32 :=
  o_gd (inb x3 3) <|
  o_gd (inb x4 3) <|
  o_let ((m (8467 + x3.toNatClampNeg) x4.toNatClampNeg)) fun y3 =>
  (if y3 = 0 then
  b_Mod_stands0_196 F rec_107 rec_118 x1 x3 x4 m
  else
  o_b (f_Mod_stageOf x1 x3 m) fun y4 =>
  o_b (f_Mod_in y4 1 4 m) fun y5 =>
  (if y5 = 0 then
  b_Mod_stands0_196 F rec_107 rec_118 x1 x3 x4 m
  else
  o_b (f_Mod_stageOf x1 x4 m) fun y6 =>
  o_b (f_Mod_in y6 1 4 m) fun y7 =>
  (if y7 = 0 then
  b_Mod_stands0_196 F rec_107 rec_118 x1 x3 x4 m
  else
  some 0
  )
  )
  )
theorem t_Mod_stands0_155 {K : aK} {d bc bs : Nat} {g : aG} (s : SyM g) {Q : aQ} {r : Int32} (F : Nat) (m : aM) (rec_107 : Int32 → Int32 → aM → Option Int32) (hr_107 : ∀ (x1 : Int32) (x3 : Int32), rec_107 x1 x3 m = some r → G K M_Mod_stands0 d bc bs 107 [.ref 242, .int x1, .double 0, .int x3, .double 0, .double 0, .double 0] [] (g, m) Q) (rec_118 : Int32 → Int32 → Int32 → aM → Option Int32) (hr_118 : ∀ (x1 : Int32) (x3 : Int32) (x4 : Int32), rec_118 x1 x3 x4 m = some r → G K M_Mod_stands0 d bc bs 118 [.ref 242, .int x1, .double 0, .int x3, .int x4, .double 0, .double 0] [] (g, m) Q) (x1 : Int32) (x3 : Int32) (x4 : Int32) (hq : Q (.inl (some (.int r))) (g, m)) (e : b_Mod_stands0_155 F rec_107 rec_118 x1 x3 x4 m = some r) (hd : 2 ≤ d) : G K M_Mod_stands0 d bc bs 155 [.ref 242, .int x1, .double 0, .int x3, .int x4, .double 0, .double 0] [] (g, m) Q := by
  unfold b_Mod_stands0_155 at e
  refine g_aload_n k_Mod_stands0_155 rfl rfl ?_
  refine p_getr k_Mod_stands0_156 fl_Mod_81 rfl (sk_Mod s) (by decide) (sr_Mod_41 s) ?_
  refine g_iload_n k_Mod_stands0_159 rfl rfl ?_
  obtain ⟨q1, e⟩ := o_gd_ex e
  refine p_aald k_Mod_stands0_160 (sa_Mod_41 s) (by decide) (by decide) (inb_in q1) (j := x3.toNatClampNeg) rfl (si_Mod_41 s _ (vp_lt (inb_in q1))).1 ?_
  refine g_iload k_Mod_stands0_161 rfl ?_
  obtain ⟨q2, e⟩ := o_gd_ex e
  refine p_zald k_Mod_stands0_163 (si_Mod_41 s _ (vp_lt (inb_in q1))).2 (inb_in q2) (j := x4.toNatClampNeg) rfl ?_
  obtain ⟨y3, u_y3, e⟩ := o_let_ex e
  refine G.vy u_y3 ?_
  refine g_if_eq (tgt := 196) k_Mod_stands0_164 (by decide) (fun c => ?_) (fun c => ?_)
  · rw [if_pos c] at e
    exact (t_Mod_stands0_196 s F m rec_107 hr_107 rec_118 hr_118 x1 x3 x4  hq e hd)
  · rw [if_neg c] at e
    refine g_iload_n k_Mod_stands0_167 rfl rfl ?_
    refine g_iload_n k_Mod_stands0_168 rfl rfl ?_
    obtain ⟨y4, e_y4, e⟩ := o_b_ex e
    refine g_cs k_Mod_stands0_169 ls_Mod_318 (by decide +kernel) (s_Mod_stageOf (bc := 0) (bs := 0) s x1 x3 m e_y4 (by omega)) rfl rfl (Nat.le_of_ble_eq_true rfl) (by simp [Value.category]) (by omega) (by omega) (by omega) ?_
    refine g_iconst (v := 1) k_Mod_stands0_172 rfl ?_
    refine g_iconst (v := 4) k_Mod_stands0_173 rfl ?_
    obtain ⟨y5, e_y5, e⟩ := o_b_ex e
    refine g_cs k_Mod_stands0_174 ls_Mod_236 (by decide +kernel) (s_Mod_in (bc := 0) (bs := 0) s y4 1 4 m e_y5) rfl rfl (Nat.le_of_ble_eq_true rfl) (by simp [Value.category]) (by omega) (by omega) (by omega) ?_
    refine g_if_eq (tgt := 196) k_Mod_stands0_177 (by decide) (fun c => ?_) (fun c => ?_)
    · rw [if_pos c] at e
      exact (t_Mod_stands0_196 s F m rec_107 hr_107 rec_118 hr_118 x1 x3 x4  hq e hd)
    · rw [if_neg c] at e
      refine g_iload_n k_Mod_stands0_180 rfl rfl ?_
      refine g_iload k_Mod_stands0_181 rfl ?_
      obtain ⟨y6, e_y6, e⟩ := o_b_ex e
      refine g_cs k_Mod_stands0_183 ls_Mod_318 (by decide +kernel) (s_Mod_stageOf (bc := 0) (bs := 0) s x1 x4 m e_y6 (by omega)) rfl rfl (Nat.le_of_ble_eq_true rfl) (by simp [Value.category]) (by omega) (by omega) (by omega) ?_
      refine g_iconst (v := 1) k_Mod_stands0_186 rfl ?_
      refine g_iconst (v := 4) k_Mod_stands0_187 rfl ?_
      obtain ⟨y7, e_y7, e⟩ := o_b_ex e
      refine g_cs k_Mod_stands0_188 ls_Mod_236 (by decide +kernel) (s_Mod_in (bc := 0) (bs := 0) s y6 1 4 m e_y7) rfl rfl (Nat.le_of_ble_eq_true rfl) (by simp [Value.category]) (by omega) (by omega) (by omega) ?_
      refine g_if_eq (tgt := 196) k_Mod_stands0_191 (by decide) (fun c => ?_) (fun c => ?_)
      · rw [if_pos c] at e
        exact (t_Mod_stands0_196 s F m rec_107 hr_107 rec_118 hr_118 x1 x3 x4  hq e hd)
      · rw [if_neg c] at e
        refine g_iconst (v := 0) k_Mod_stands0_194 rfl ?_
        refine g_zret k_Mod_stands0_195 rfl (by decide) ?_
        exact (by cases e; exact hq)
def lb_Mod_stands0_118 (F : Nat) (rec_107 : Int32 → Int32 → aM → Option Int32) (rec_118 : Int32 → Int32 → Int32 → aM → Option Int32) (x1 : Int32) (x3 : Int32) (x4 : Int32) (m : aM) : Option Int32 :=
  (if (m 242 35) ≤ x4 then
  rec_107 x1 (x3 + 1) m
  else
  o_gd (inb x3 3) <|
  o_gd (inb x4 3) <|
  o_let ((m (8463 + x3.toNatClampNeg) x4.toNatClampNeg)) fun y3 =>
  (if y3 = 0 then
  b_Mod_stands0_155 F rec_107 rec_118 x1 x3 x4 m
  else
  o_b (f_Mod_stageOf x1 x4 m) fun y4 =>
  o_b (f_Mod_stageOf x1 x3 m) fun y5 =>
  (if y4 ≤ y5 then
  b_Mod_stands0_155 F rec_107 rec_118 x1 x3 x4 m
  else
  some 0
  )
  )
  )
theorem tb_Mod_stands0_118 {K : aK} {d bc bs : Nat} {g : aG} (s : SyM g) {Q : aQ} {r : Int32} (F : Nat) (m : aM) (rec_107 : Int32 → Int32 → aM → Option Int32) (hr_107 : ∀ (x1 : Int32) (x3 : Int32), rec_107 x1 x3 m = some r → G K M_Mod_stands0 d bc bs 107 [.ref 242, .int x1, .double 0, .int x3, .double 0, .double 0, .double 0] [] (g, m) Q) (rec_118 : Int32 → Int32 → Int32 → aM → Option Int32) (hr_118 : ∀ (x1 : Int32) (x3 : Int32) (x4 : Int32), rec_118 x1 x3 x4 m = some r → G K M_Mod_stands0 d bc bs 118 [.ref 242, .int x1, .double 0, .int x3, .int x4, .double 0, .double 0] [] (g, m) Q) (x1 : Int32) (x3 : Int32) (x4 : Int32) (hq : Q (.inl (some (.int r))) (g, m)) (e : lb_Mod_stands0_118 F rec_107 rec_118 x1 x3 x4 m = some r) (hd : 2 ≤ d) : G K M_Mod_stands0 d bc bs 118 [.ref 242, .int x1, .double 0, .int x3, .int x4, .double 0, .double 0] [] (g, m) Q := by
  unfold lb_Mod_stands0_118 at e
  refine g_iload k_Mod_stands0_118 rfl ?_
  refine g_aload_n k_Mod_stands0_120 rfl rfl ?_
  refine p_geti k_Mod_stands0_121 fl_Mod_309 rfl (sk_Mod s) (by decide) ?_
  refine g_icmp_ge (tgt := 202) k_Mod_stands0_124 (by decide) (fun c => ?_) (fun c => ?_)
  · rw [if_pos c] at e
    refine g_iinc (v := _ + 1) k_Mod_stands0_202 rfl rfl (by decide) ?_
    refine g_goto (tgt := 107) k_Mod_stands0_205 (by decide) ?_
    exact G.wl (wls (wls (wls (wls (wld (wls (wls wl0))))))) (hr_107 x1 (x3 + 1)  e)
  · rw [if_neg c] at e
    refine g_aload_n k_Mod_stands0_127 rfl rfl ?_
    refine p_getr k_Mod_stands0_128 fl_Mod_78 rfl (sk_Mod s) (by decide) (sr_Mod_40 s) ?_
    refine g_iload_n k_Mod_stands0_131 rfl rfl ?_
    obtain ⟨q1, e⟩ := o_gd_ex e
    refine p_aald k_Mod_stands0_132 (sa_Mod_40 s) (by decide) (by decide) (inb_in q1) (j := x3.toNatClampNeg) rfl (si_Mod_40 s _ (vp_lt (inb_in q1))).1 ?_
    refine g_iload k_Mod_stands0_133 rfl ?_
    obtain ⟨q2, e⟩ := o_gd_ex e
    refine p_zald k_Mod_stands0_135 (si_Mod_40 s _ (vp_lt (inb_in q1))).2 (inb_in q2) (j := x4.toNatClampNeg) rfl ?_
    obtain ⟨y3, u_y3, e⟩ := o_let_ex e
    refine G.vy u_y3 ?_
    refine g_if_eq (tgt := 155) k_Mod_stands0_136 (by decide) (fun c => ?_) (fun c => ?_)
    · rw [if_pos c] at e
      exact (t_Mod_stands0_155 s F m rec_107 hr_107 rec_118 hr_118 x1 x3 x4  hq e hd)
    · rw [if_neg c] at e
      refine g_iload_n k_Mod_stands0_139 rfl rfl ?_
      refine g_iload k_Mod_stands0_140 rfl ?_
      obtain ⟨y4, e_y4, e⟩ := o_b_ex e
      refine g_cs k_Mod_stands0_142 ls_Mod_318 (by decide +kernel) (s_Mod_stageOf (bc := 0) (bs := 0) s x1 x4 m e_y4 (by omega)) rfl rfl (Nat.le_of_ble_eq_true rfl) (by simp [Value.category]) (by omega) (by omega) (by omega) ?_
      refine g_iload_n k_Mod_stands0_145 rfl rfl ?_
      refine g_iload_n k_Mod_stands0_146 rfl rfl ?_
      obtain ⟨y5, e_y5, e⟩ := o_b_ex e
      refine g_cs k_Mod_stands0_147 ls_Mod_318 (by decide +kernel) (s_Mod_stageOf (bc := 0) (bs := 0) s x1 x3 m e_y5 (by omega)) rfl rfl (Nat.le_of_ble_eq_true rfl) (by simp [Value.category]) (by omega) (by omega) (by omega) ?_
      refine g_icmp_le (tgt := 155) k_Mod_stands0_150 (by decide) (fun c => ?_) (fun c => ?_)
      · rw [if_pos c] at e
        exact (t_Mod_stands0_155 s F m rec_107 hr_107 rec_118 hr_118 x1 x3 x4  hq e hd)
      · rw [if_neg c] at e
        refine g_iconst (v := 0) k_Mod_stands0_153 rfl ?_
        refine g_zret k_Mod_stands0_154 rfl (by decide) ?_
        exact (by cases e; exact hq)
def ll_Mod_stands0_118 (F : Nat) (rec_107 : Int32 → Int32 → aM → Option Int32) : Nat → Int32 → Int32 → Int32 → aM → Option Int32
  | 0, _, _, _, _ => none
  | N + 1, x1, x3, x4, m => lb_Mod_stands0_118 F rec_107 (ll_Mod_stands0_118 F rec_107 N) x1 x3 x4 m
theorem t_Mod_stands0_118 {K : aK} {d bc bs : Nat} {g : aG} (s : SyM g) {Q : aQ} {r : Int32} (F : Nat) (m : aM) (rec_107 : Int32 → Int32 → aM → Option Int32) (hr_107 : ∀ (x1 : Int32) (x3 : Int32), rec_107 x1 x3 m = some r → G K M_Mod_stands0 d bc bs 107 [.ref 242, .int x1, .double 0, .int x3, .double 0, .double 0, .double 0] [] (g, m) Q) : ∀ (N : Nat) (x1 : Int32) (x3 : Int32) (x4 : Int32), Q (.inl (some (.int r))) (g, m) → ll_Mod_stands0_118 F rec_107 N x1 x3 x4 m = some r → 2 ≤ d → G K M_Mod_stands0 d bc bs 118 [.ref 242, .int x1, .double 0, .int x3, .int x4, .double 0, .double 0] [] (g, m) Q
  | 0, _, _, _ => fun _ e => nomatch e
  | N + 1, x1, x3, x4 => fun hq e hd => tb_Mod_stands0_118 s F m rec_107 hr_107 (ll_Mod_stands0_118 F rec_107 N) (fun x1 x3 x4 e => t_Mod_stands0_118 s F m rec_107 hr_107 N x1 x3 x4 hq e hd) x1 x3 x4 hq e hd
def lb_Mod_stands0_107 (F : Nat) (rec_107 : Int32 → Int32 → aM → Option Int32) (x1 : Int32) (x3 : Int32) (m : aM) : Option Int32 :=
  (if (m 242 35) ≤ x3 then
  some 1
  else
  ll_Mod_stands0_118 F rec_107 F x1 x3 0 m
  )
theorem tb_Mod_stands0_107 {K : aK} {d bc bs : Nat} {g : aG} (s : SyM g) {Q : aQ} {r : Int32} (F : Nat) (m : aM) (rec_107 : Int32 → Int32 → aM → Option Int32) (hr_107 : ∀ (x1 : Int32) (x3 : Int32), rec_107 x1 x3 m = some r → G K M_Mod_stands0 d bc bs 107 [.ref 242, .int x1, .double 0, .int x3, .double 0, .double 0, .double 0] [] (g, m) Q) (x1 : Int32) (x3 : Int32) (hq : Q (.inl (some (.int r))) (g, m)) (e : lb_Mod_stands0_107 F rec_107 x1 x3 m = some r) (hd : 2 ≤ d) : G K M_Mod_stands0 d bc bs 107 [.ref 242, .int x1, .double 0, .int x3, .double 0, .double 0, .double 0] [] (g, m) Q := by
  unfold lb_Mod_stands0_107 at e
  refine g_iload_n k_Mod_stands0_107 rfl rfl ?_
  refine g_aload_n k_Mod_stands0_108 rfl rfl ?_
  refine p_geti k_Mod_stands0_109 fl_Mod_309 rfl (sk_Mod s) (by decide) ?_
  refine g_icmp_ge (tgt := 208) k_Mod_stands0_112 (by decide) (fun c => ?_) (fun c => ?_)
  · rw [if_pos c] at e
    refine g_iconst (v := 1) k_Mod_stands0_208 rfl ?_
    refine g_zret k_Mod_stands0_209 rfl (by decide) ?_
    exact (by cases e; exact hq)
  · rw [if_neg c] at e
    refine g_iconst (v := 0) k_Mod_stands0_115 rfl ?_
    refine g_istore k_Mod_stands0_116 (by decide) ?_
    exact (t_Mod_stands0_118 s F m rec_107 hr_107 F x1 x3 0  hq e hd)
def ll_Mod_stands0_107 (F : Nat) : Nat → Int32 → Int32 → aM → Option Int32
  | 0, _, _, _ => none
  | N + 1, x1, x3, m => lb_Mod_stands0_107 F (ll_Mod_stands0_107 F N) x1 x3 m
theorem t_Mod_stands0_107 {K : aK} {d bc bs : Nat} {g : aG} (s : SyM g) {Q : aQ} {r : Int32} (F : Nat) (m : aM) : ∀ (N : Nat) (x1 : Int32) (x3 : Int32), Q (.inl (some (.int r))) (g, m) → ll_Mod_stands0_107 F N x1 x3 m = some r → 2 ≤ d → G K M_Mod_stands0 d bc bs 107 [.ref 242, .int x1, .double 0, .int x3, .double 0, .double 0, .double 0] [] (g, m) Q
  | 0, _, _ => fun _ e => nomatch e
  | N + 1, x1, x3 => fun hq e hd => tb_Mod_stands0_107 s F m (ll_Mod_stands0_107 F N) (fun x1 x3 e => t_Mod_stands0_107 s F m N x1 x3 hq e hd) x1 x3 hq e hd
def b_Mod_stands0_93 (F : Nat) (rec_2 : Int32 → Int32 → Int32 → aM → Option Int32) (rec_13 : Int32 → Int32 → Int32 → Int32 → aM → Option Int32) (x1 : Int32) (x2 : Int32) (x3 : Int32) (x4 : Int32) (m : aM) : Option Int32 :=
  rec_13 x1 x2 x3 (x4 + 1) m
theorem t_Mod_stands0_93 {K : aK} {d bc bs : Nat} {g : aG} (s : SyM g) {Q : aQ} {r : Int32} (F : Nat) (m : aM) (rec_2 : Int32 → Int32 → Int32 → aM → Option Int32) (hr_2 : ∀ (x1 : Int32) (x2 : Int32) (x3 : Int32), rec_2 x1 x2 x3 m = some r → G K M_Mod_stands0 d bc bs 2 [.ref 242, .int x1, .int x2, .int x3, .double 0, .double 0, .double 0] [] (g, m) Q) (rec_13 : Int32 → Int32 → Int32 → Int32 → aM → Option Int32) (hr_13 : ∀ (x1 : Int32) (x2 : Int32) (x3 : Int32) (x4 : Int32), rec_13 x1 x2 x3 x4 m = some r → G K M_Mod_stands0 d bc bs 13 [.ref 242, .int x1, .int x2, .int x3, .int x4, .double 0, .double 0] [] (g, m) Q) (x1 : Int32) (x2 : Int32) (x3 : Int32) (x4 : Int32) (hq : Q (.inl (some (.int r))) (g, m)) (e : b_Mod_stands0_93 F rec_2 rec_13 x1 x2 x3 x4 m = some r) (hd : 2 ≤ d) : G K M_Mod_stands0 d bc bs 93 [.ref 242, .int x1, .int x2, .int x3, .int x4, .double 0, .double 0] [] (g, m) Q := by
  unfold b_Mod_stands0_93 at e
  refine g_iinc (v := _ + 1) k_Mod_stands0_93 rfl rfl (by decide) ?_
  refine g_goto (tgt := 13) k_Mod_stands0_96 (by decide) ?_
  exact (hr_13 x1 x2 x3 (x4 + 1)  e)
def b_Mod_stands0_79 (F : Nat) (rec_2 : Int32 → Int32 → Int32 → aM → Option Int32) (rec_13 : Int32 → Int32 → Int32 → Int32 → aM → Option Int32) (x1 : Int32) (x2 : Int32) (x3 : Int32) (x4 : Int32) (x5 : Int32) (x6 : Int32) (m : aM) : Option Int32 :=
  (if x5 = 2 then
  (if 2 ≤ x6 then
  b_Mod_stands0_93 F rec_2 rec_13 x1 x2 x3 x4 m
  else
  some 0
  )
  else
  b_Mod_stands0_93 F rec_2 rec_13 x1 x2 x3 x4 m
  )
theorem t_Mod_stands0_79 {K : aK} {d bc bs : Nat} {g : aG} (s : SyM g) {Q : aQ} {r : Int32} (F : Nat) (m : aM) (rec_2 : Int32 → Int32 → Int32 → aM → Option Int32) (hr_2 : ∀ (x1 : Int32) (x2 : Int32) (x3 : Int32), rec_2 x1 x2 x3 m = some r → G K M_Mod_stands0 d bc bs 2 [.ref 242, .int x1, .int x2, .int x3, .double 0, .double 0, .double 0] [] (g, m) Q) (rec_13 : Int32 → Int32 → Int32 → Int32 → aM → Option Int32) (hr_13 : ∀ (x1 : Int32) (x2 : Int32) (x3 : Int32) (x4 : Int32), rec_13 x1 x2 x3 x4 m = some r → G K M_Mod_stands0 d bc bs 13 [.ref 242, .int x1, .int x2, .int x3, .int x4, .double 0, .double 0] [] (g, m) Q) (x1 : Int32) (x2 : Int32) (x3 : Int32) (x4 : Int32) (x5 : Int32) (x6 : Int32) (hq : Q (.inl (some (.int r))) (g, m)) (e : b_Mod_stands0_79 F rec_2 rec_13 x1 x2 x3 x4 x5 x6 m = some r) (hd : 2 ≤ d) : G K M_Mod_stands0 d bc bs 79 [.ref 242, .int x1, .int x2, .int x3, .int x4, .int x5, .int x6] [] (g, m) Q := by
  unfold b_Mod_stands0_79 at e
  refine g_iload k_Mod_stands0_79 rfl ?_
  refine g_iconst (v := 2) k_Mod_stands0_81 rfl ?_
  refine g_icmp_ne (tgt := 93) k_Mod_stands0_82 (by decide) (fun c => ?_) (fun c => ?_)
  · rw [if_pos c] at e
    refine g_iload k_Mod_stands0_85 rfl ?_
    refine g_iconst (v := 2) k_Mod_stands0_87 rfl ?_
    refine g_icmp_ge (tgt := 93) k_Mod_stands0_88 (by decide) (fun c => ?_) (fun c => ?_)
    · rw [if_pos c] at e
      exact G.wl (wls (wls (wls (wls (wls (wld (wld wl0))))))) (t_Mod_stands0_93 s F m rec_2 hr_2 rec_13 hr_13 x1 x2 x3 x4  hq e hd)
    · rw [if_neg c] at e
      refine g_iconst (v := 0) k_Mod_stands0_91 rfl ?_
      refine g_zret k_Mod_stands0_92 rfl (by decide) ?_
      exact (by cases e; exact hq)
  · rw [if_neg c] at e
    exact G.wl (wls (wls (wls (wls (wls (wld (wld wl0))))))) (t_Mod_stands0_93 s F m rec_2 hr_2 rec_13 hr_13 x1 x2 x3 x4  hq e hd)
def b_Mod_stands0_57 (F : Nat) (rec_2 : Int32 → Int32 → Int32 → aM → Option Int32) (rec_13 : Int32 → Int32 → Int32 → Int32 → aM → Option Int32) (x1 : Int32) (x2 : Int32) (x3 : Int32) (x4 : Int32) (xt0 : Int32) (m : aM) : Option Int32 :=
  o_b (f_Mod_stageOf x1 x4 m) fun y1 =>
  (if xt0 = 1 then
  (if 3 < y1 then
  some 0
  else
  b_Mod_stands0_79 F rec_2 rec_13 x1 x2 x3 x4 xt0 y1 m
  )
  else
  b_Mod_stands0_79 F rec_2 rec_13 x1 x2 x3 x4 xt0 y1 m
  )
theorem t_Mod_stands0_57 {K : aK} {d bc bs : Nat} {g : aG} (s : SyM g) {Q : aQ} {r : Int32} (F : Nat) (m : aM) (rec_2 : Int32 → Int32 → Int32 → aM → Option Int32) (hr_2 : ∀ (x1 : Int32) (x2 : Int32) (x3 : Int32), rec_2 x1 x2 x3 m = some r → G K M_Mod_stands0 d bc bs 2 [.ref 242, .int x1, .int x2, .int x3, .double 0, .double 0, .double 0] [] (g, m) Q) (rec_13 : Int32 → Int32 → Int32 → Int32 → aM → Option Int32) (hr_13 : ∀ (x1 : Int32) (x2 : Int32) (x3 : Int32) (x4 : Int32), rec_13 x1 x2 x3 x4 m = some r → G K M_Mod_stands0 d bc bs 13 [.ref 242, .int x1, .int x2, .int x3, .int x4, .double 0, .double 0] [] (g, m) Q) (x1 : Int32) (x2 : Int32) (x3 : Int32) (x4 : Int32) (xt0 : Int32) (hq : Q (.inl (some (.int r))) (g, m)) (e : b_Mod_stands0_57 F rec_2 rec_13 x1 x2 x3 x4 xt0 m = some r) (hd : 2 ≤ d) : G K M_Mod_stands0 d bc bs 57 [.ref 242, .int x1, .int x2, .int x3, .int x4, .double 0, .double 0] [.int xt0] (g, m) Q := by
  unfold b_Mod_stands0_57 at e
  refine g_istore k_Mod_stands0_57 (by decide) ?_
  refine g_iload_n k_Mod_stands0_59 rfl rfl ?_
  refine g_iload k_Mod_stands0_60 rfl ?_
  obtain ⟨y1, e_y1, e⟩ := o_b_ex e
  refine g_cs k_Mod_stands0_62 ls_Mod_318 (by decide +kernel) (s_Mod_stageOf (bc := 0) (bs := 0) s x1 x4 m e_y1 (by omega)) rfl rfl (Nat.le_of_ble_eq_true rfl) (by simp [Value.category]) (by omega) (by omega) (by omega) ?_
  refine g_istore k_Mod_stands0_65 (by decide) ?_
  refine g_iload k_Mod_stands0_67 rfl ?_
  refine g_iconst (v := 1) k_Mod_stands0_69 rfl ?_
  refine g_icmp_ne (tgt := 79) k_Mod_stands0_70 (by decide) (fun c => ?_) (fun c => ?_)
  · rw [if_pos c] at e
    refine g_iload k_Mod_stands0_73 rfl ?_
    refine g_iconst (v := 3) k_Mod_stands0_75 rfl ?_
    refine g_icmp_gt (tgt := 91) k_Mod_stands0_76 (by decide) (fun c => ?_) (fun c => ?_)
    · rw [if_pos c] at e
      refine g_iconst (v := 0) k_Mod_stands0_91 rfl ?_
      refine g_zret k_Mod_stands0_92 rfl (by decide) ?_
      exact (by cases e; exact hq)
    · rw [if_neg c] at e
      exact (t_Mod_stands0_79 s F m rec_2 hr_2 rec_13 hr_13 x1 x2 x3 x4 xt0 y1  hq e hd)
  · rw [if_neg c] at e
    exact (t_Mod_stands0_79 s F m rec_2 hr_2 rec_13 hr_13 x1 x2 x3 x4 xt0 y1  hq e hd)
def b_Mod_stands0_48 (F : Nat) (rec_2 : Int32 → Int32 → Int32 → aM → Option Int32) (rec_13 : Int32 → Int32 → Int32 → Int32 → aM → Option Int32) (x1 : Int32) (x2 : Int32) (x3 : Int32) (x4 : Int32) (m : aM) : Option Int32 :=
  o_gd (inb x3 5) <|
  o_gd (inb x4 3) <|
  o_let ((m (8457 + x3.toNatClampNeg) x4.toNatClampNeg)) fun y3 =>
  b_Mod_stands0_57 F rec_2 rec_13 x1 x2 x3 x4 y3 m
theorem t_Mod_stands0_48 {K : aK} {d bc bs : Nat} {g : aG} (s : SyM g) {Q : aQ} {r : Int32} (F : Nat) (m : aM) (rec_2 : Int32 → Int32 → Int32 → aM → Option Int32) (hr_2 : ∀ (x1 : Int32) (x2 : Int32) (x3 : Int32), rec_2 x1 x2 x3 m = some r → G K M_Mod_stands0 d bc bs 2 [.ref 242, .int x1, .int x2, .int x3, .double 0, .double 0, .double 0] [] (g, m) Q) (rec_13 : Int32 → Int32 → Int32 → Int32 → aM → Option Int32) (hr_13 : ∀ (x1 : Int32) (x2 : Int32) (x3 : Int32) (x4 : Int32), rec_13 x1 x2 x3 x4 m = some r → G K M_Mod_stands0 d bc bs 13 [.ref 242, .int x1, .int x2, .int x3, .int x4, .double 0, .double 0] [] (g, m) Q) (x1 : Int32) (x2 : Int32) (x3 : Int32) (x4 : Int32) (hq : Q (.inl (some (.int r))) (g, m)) (e : b_Mod_stands0_48 F rec_2 rec_13 x1 x2 x3 x4 m = some r) (hd : 2 ≤ d) : G K M_Mod_stands0 d bc bs 48 [.ref 242, .int x1, .int x2, .int x3, .int x4, .double 0, .double 0] [] (g, m) Q := by
  unfold b_Mod_stands0_48 at e
  refine g_aload_n k_Mod_stands0_48 rfl rfl ?_
  refine p_getr k_Mod_stands0_49 fl_Mod_73 rfl (sk_Mod s) (by decide) (sr_Mod_39 s) ?_
  refine g_iload_n k_Mod_stands0_52 rfl rfl ?_
  obtain ⟨q1, e⟩ := o_gd_ex e
  refine p_aald k_Mod_stands0_53 (sa_Mod_39 s) (by decide) (by decide) (inb_in q1) (j := x3.toNatClampNeg) rfl (si_Mod_39 s _ (vp_lt (inb_in q1))).1 ?_
  refine g_iload k_Mod_stands0_54 rfl ?_
  obtain ⟨q2, e⟩ := o_gd_ex e
  refine p_iald k_Mod_stands0_56 (si_Mod_39 s _ (vp_lt (inb_in q1))).2 (inb_in q2) (j := x4.toNatClampNeg) rfl ?_
  obtain ⟨y3, u_y3, e⟩ := o_let_ex e
  refine G.vy u_y3 ?_
  exact (t_Mod_stands0_57 s F m rec_2 hr_2 rec_13 hr_13 x1 x2 x3 x4 y3  hq e hd)
def lb_Mod_stands0_13 (F : Nat) (rec_2 : Int32 → Int32 → Int32 → aM → Option Int32) (rec_13 : Int32 → Int32 → Int32 → Int32 → aM → Option Int32) (x1 : Int32) (x2 : Int32) (x3 : Int32) (x4 : Int32) (m : aM) : Option Int32 :=
  (if (m 242 35) ≤ x4 then
  rec_2 x1 x2 (x3 + 1) m
  else
  o_gd (inb x3 5) <|
  o_gd (inb x4 3) <|
  o_let ((m (8457 + x3.toNatClampNeg) x4.toNatClampNeg)) fun y3 =>
  (if y3 = 1 then
  o_let (((x2 : Int32) >>> (x3 &&& 31))) fun y4 =>
  (if (y4 &&& 1) = 1 then
  b_Mod_stands0_57 F rec_2 rec_13 x1 x2 x3 x4 2 m
  else
  b_Mod_stands0_48 F rec_2 rec_13 x1 x2 x3 x4 m
  )
  else
  b_Mod_stands0_48 F rec_2 rec_13 x1 x2 x3 x4 m
  )
  )
theorem tb_Mod_stands0_13 {K : aK} {d bc bs : Nat} {g : aG} (s : SyM g) {Q : aQ} {r : Int32} (F : Nat) (m : aM) (rec_2 : Int32 → Int32 → Int32 → aM → Option Int32) (hr_2 : ∀ (x1 : Int32) (x2 : Int32) (x3 : Int32), rec_2 x1 x2 x3 m = some r → G K M_Mod_stands0 d bc bs 2 [.ref 242, .int x1, .int x2, .int x3, .double 0, .double 0, .double 0] [] (g, m) Q) (rec_13 : Int32 → Int32 → Int32 → Int32 → aM → Option Int32) (hr_13 : ∀ (x1 : Int32) (x2 : Int32) (x3 : Int32) (x4 : Int32), rec_13 x1 x2 x3 x4 m = some r → G K M_Mod_stands0 d bc bs 13 [.ref 242, .int x1, .int x2, .int x3, .int x4, .double 0, .double 0] [] (g, m) Q) (x1 : Int32) (x2 : Int32) (x3 : Int32) (x4 : Int32) (hq : Q (.inl (some (.int r))) (g, m)) (e : lb_Mod_stands0_13 F rec_2 rec_13 x1 x2 x3 x4 m = some r) (hd : 2 ≤ d) : G K M_Mod_stands0 d bc bs 13 [.ref 242, .int x1, .int x2, .int x3, .int x4, .double 0, .double 0] [] (g, m) Q := by
  unfold lb_Mod_stands0_13 at e
  refine g_iload k_Mod_stands0_13 rfl ?_
  refine g_aload_n k_Mod_stands0_15 rfl rfl ?_
  refine p_geti k_Mod_stands0_16 fl_Mod_309 rfl (sk_Mod s) (by decide) ?_
  refine g_icmp_ge (tgt := 99) k_Mod_stands0_19 (by decide) (fun c => ?_) (fun c => ?_)
  · rw [if_pos c] at e
    refine g_iinc (v := _ + 1) k_Mod_stands0_99 rfl rfl (by decide) ?_
    refine g_goto (tgt := 2) k_Mod_stands0_102 (by decide) ?_
    exact G.wl (wls (wls (wls (wls (wld (wls (wls wl0))))))) (hr_2 x1 x2 (x3 + 1)  e)
  · rw [if_neg c] at e
    refine g_aload_n k_Mod_stands0_22 rfl rfl ?_
    refine p_getr k_Mod_stands0_23 fl_Mod_73 rfl (sk_Mod s) (by decide) (sr_Mod_39 s) ?_
    refine g_iload_n k_Mod_stands0_26 rfl rfl ?_
    obtain ⟨q1, e⟩ := o_gd_ex e
    refine p_aald k_Mod_stands0_27 (sa_Mod_39 s) (by decide) (by decide) (inb_in q1) (j := x3.toNatClampNeg) rfl (si_Mod_39 s _ (vp_lt (inb_in q1))).1 ?_
    refine g_iload k_Mod_stands0_28 rfl ?_
    obtain ⟨q2, e⟩ := o_gd_ex e
    refine p_iald k_Mod_stands0_30 (si_Mod_39 s _ (vp_lt (inb_in q1))).2 (inb_in q2) (j := x4.toNatClampNeg) rfl ?_
    obtain ⟨y3, u_y3, e⟩ := o_let_ex e
    refine G.vy u_y3 ?_
    refine g_iconst (v := 1) k_Mod_stands0_31 rfl ?_
    refine g_icmp_ne (tgt := 48) k_Mod_stands0_32 (by decide) (fun c => ?_) (fun c => ?_)
    · rw [if_pos c] at e
      refine g_iload_n k_Mod_stands0_35 rfl rfl ?_
      refine g_iload_n k_Mod_stands0_36 rfl rfl ?_
      refine g_ishr k_Mod_stands0_37 ?_
      obtain ⟨y4, u_y4, e⟩ := o_let_ex e
      refine G.vy u_y4 ?_
      refine g_iconst (v := 1) k_Mod_stands0_38 rfl ?_
      refine g_iand k_Mod_stands0_39 ?_
      refine g_iconst (v := 1) k_Mod_stands0_40 rfl ?_
      refine g_icmp_ne (tgt := 48) k_Mod_stands0_41 (by decide) (fun c => ?_) (fun c => ?_)
      · rw [if_pos c] at e
        refine g_iconst (v := 2) k_Mod_stands0_44 rfl ?_
        refine g_goto (tgt := 57) k_Mod_stands0_45 (by decide) ?_
        exact (t_Mod_stands0_57 s F m rec_2 hr_2 rec_13 hr_13 x1 x2 x3 x4 2  hq e hd)
      · rw [if_neg c] at e
        exact (t_Mod_stands0_48 s F m rec_2 hr_2 rec_13 hr_13 x1 x2 x3 x4  hq e hd)
    · rw [if_neg c] at e
      exact (t_Mod_stands0_48 s F m rec_2 hr_2 rec_13 hr_13 x1 x2 x3 x4  hq e hd)
def ll_Mod_stands0_13 (F : Nat) (rec_2 : Int32 → Int32 → Int32 → aM → Option Int32) : Nat → Int32 → Int32 → Int32 → Int32 → aM → Option Int32
  | 0, _, _, _, _, _ => none
  | N + 1, x1, x2, x3, x4, m => lb_Mod_stands0_13 F rec_2 (ll_Mod_stands0_13 F rec_2 N) x1 x2 x3 x4 m
theorem t_Mod_stands0_13 {K : aK} {d bc bs : Nat} {g : aG} (s : SyM g) {Q : aQ} {r : Int32} (F : Nat) (m : aM) (rec_2 : Int32 → Int32 → Int32 → aM → Option Int32) (hr_2 : ∀ (x1 : Int32) (x2 : Int32) (x3 : Int32), rec_2 x1 x2 x3 m = some r → G K M_Mod_stands0 d bc bs 2 [.ref 242, .int x1, .int x2, .int x3, .double 0, .double 0, .double 0] [] (g, m) Q) : ∀ (N : Nat) (x1 : Int32) (x2 : Int32) (x3 : Int32) (x4 : Int32), Q (.inl (some (.int r))) (g, m) → ll_Mod_stands0_13 F rec_2 N x1 x2 x3 x4 m = some r → 2 ≤ d → G K M_Mod_stands0 d bc bs 13 [.ref 242, .int x1, .int x2, .int x3, .int x4, .double 0, .double 0] [] (g, m) Q
  | 0, _, _, _, _ => fun _ e => nomatch e
  | N + 1, x1, x2, x3, x4 => fun hq e hd => tb_Mod_stands0_13 s F m rec_2 hr_2 (ll_Mod_stands0_13 F rec_2 N) (fun x1 x2 x3 x4 e => t_Mod_stands0_13 s F m rec_2 hr_2 N x1 x2 x3 x4 hq e hd) x1 x2 x3 x4 hq e hd
def lb_Mod_stands0_2 (F : Nat) (rec_2 : Int32 → Int32 → Int32 → aM → Option Int32) (x1 : Int32) (x2 : Int32) (x3 : Int32) (m : aM) : Option Int32 :=
  (if (m 242 36) ≤ x3 then
  ll_Mod_stands0_107 F F x1 0 m
  else
  ll_Mod_stands0_13 F rec_2 F x1 x2 x3 0 m
  )
theorem tb_Mod_stands0_2 {K : aK} {d bc bs : Nat} {g : aG} (s : SyM g) {Q : aQ} {r : Int32} (F : Nat) (m : aM) (rec_2 : Int32 → Int32 → Int32 → aM → Option Int32) (hr_2 : ∀ (x1 : Int32) (x2 : Int32) (x3 : Int32), rec_2 x1 x2 x3 m = some r → G K M_Mod_stands0 d bc bs 2 [.ref 242, .int x1, .int x2, .int x3, .double 0, .double 0, .double 0] [] (g, m) Q) (x1 : Int32) (x2 : Int32) (x3 : Int32) (hq : Q (.inl (some (.int r))) (g, m)) (e : lb_Mod_stands0_2 F rec_2 x1 x2 x3 m = some r) (hd : 2 ≤ d) : G K M_Mod_stands0 d bc bs 2 [.ref 242, .int x1, .int x2, .int x3, .double 0, .double 0, .double 0] [] (g, m) Q := by
  unfold lb_Mod_stands0_2 at e
  refine g_iload_n k_Mod_stands0_2 rfl rfl ?_
  refine g_aload_n k_Mod_stands0_3 rfl rfl ?_
  refine p_geti k_Mod_stands0_4 fl_Mod_312 rfl (sk_Mod s) (by decide) ?_
  refine g_icmp_ge (tgt := 105) k_Mod_stands0_7 (by decide) (fun c => ?_) (fun c => ?_)
  · rw [if_pos c] at e
    refine g_iconst (v := 0) k_Mod_stands0_105 rfl ?_
    refine g_istore_n k_Mod_stands0_106 rfl (by decide) ?_
    exact G.wl (wls (wls (wld (wls (wls (wls (wls wl0))))))) (t_Mod_stands0_107 s F m F x1 0  hq e hd)
  · rw [if_neg c] at e
    refine g_iconst (v := 0) k_Mod_stands0_10 rfl ?_
    refine g_istore k_Mod_stands0_11 (by decide) ?_
    exact (t_Mod_stands0_13 s F m rec_2 hr_2 F x1 x2 x3 0  hq e hd)
def ll_Mod_stands0_2 (F : Nat) : Nat → Int32 → Int32 → Int32 → aM → Option Int32
  | 0, _, _, _, _ => none
  | N + 1, x1, x2, x3, m => lb_Mod_stands0_2 F (ll_Mod_stands0_2 F N) x1 x2 x3 m
theorem t_Mod_stands0_2 {K : aK} {d bc bs : Nat} {g : aG} (s : SyM g) {Q : aQ} {r : Int32} (F : Nat) (m : aM) : ∀ (N : Nat) (x1 : Int32) (x2 : Int32) (x3 : Int32), Q (.inl (some (.int r))) (g, m) → ll_Mod_stands0_2 F N x1 x2 x3 m = some r → 2 ≤ d → G K M_Mod_stands0 d bc bs 2 [.ref 242, .int x1, .int x2, .int x3, .double 0, .double 0, .double 0] [] (g, m) Q
  | 0, _, _, _ => fun _ e => nomatch e
  | N + 1, x1, x2, x3 => fun hq e hd => tb_Mod_stands0_2 s F m (ll_Mod_stands0_2 F N) (fun x1 x2 x3 e => t_Mod_stands0_2 s F m N x1 x2 x3 hq e hd) x1 x2 x3 hq e hd
def f_Mod_stands0 (F : Nat) (x1 : Int32) (x2 : Int32) (m : aM) : Option Int32 :=
  ll_Mod_stands0_2 F F x1 x2 0 m
theorem s_Mod_stands0 {K : aK} {d bc bs : Nat} {g : aG} (s : SyM g) (F : Nat) (x1 : Int32) (x2 : Int32) (m : aM) {r : Int32} (e : f_Mod_stands0 F x1 x2 m = some r) (hd : 2 ≤ d) : Sp K M_Mod_stands0 d bc bs [.ref 242, .int x1, .int x2] (g, m) (some (.int r)) (g, m) := by
  refine sp_of ok_Mod_stands0 rfl (Nat.le_of_ble_eq_true rfl) (by simp [Value.category]) (fun Q hq => ?_)
  unfold f_Mod_stands0 at e
  refine g_iconst (v := 0) k_Mod_stands0_0 rfl ?_
  refine g_istore_n k_Mod_stands0_1 rfl (by decide) ?_
  exact (t_Mod_stands0_2 s F m F x1 x2 0  hq e hd)
def b_Mod_stands_20 (F : Nat) (x1 : Int32) (x2 : Int32) (xt0 : Int32) (m : aM) : Option (Int32 × aM) :=
  o_b2 (f_Mod_bad xt0 1 m) fun y1 m2 =>
  (if y1 = 0 then
  o_b (f_Mod_stands0 F x1 x2 m2) fun y3 =>
  o_gd (isb y3) <|
  some (y3, m2)
  else
  some (0, m2)
  )
theorem t_Mod_stands_20 {K : aK} {d bc bs : Nat} {g : aG} (s : SyM g) {Q : aQ} {r : Int32} {m' : aM} (F : Nat) (x1 : Int32) (x2 : Int32) (xt0 : Int32) (m : aM) (hq : Q (.inl (some (.int r))) (g, m')) (e : b_Mod_stands_20 F x1 x2 xt0 m = some (r, m')) (hd : 3 ≤ d) : G K M_Mod_stands d bc bs 20 [.ref 242, .int x1, .int x2] [.int xt0, .ref 242] (g, m) Q := by
  unfold b_Mod_stands_20 at e
  refine g_iconst (v := 1) k_Mod_stands_20 rfl ?_
  obtain ⟨y1, m2, e_y1, e⟩ := o_b2_ex e
  refine g_cv k_Mod_stands_21 lv_Mod_240 (by decide +kernel) (T := F_Mod) (N := 61) (ci := 10) rfl (sk_Mod s) (s_Mod_bad (bc := 0) (bs := 0) s xt0 1 m e_y1) rfl rfl (Nat.le_of_ble_eq_true rfl) (by simp [Value.category]) (by omega) (by omega) (by omega) ?_
  refine g_if_eq (tgt := 29) k_Mod_stands_24 (by decide) (fun c => ?_) (fun c => ?_)
  · rw [if_pos c] at e
    refine g_aload_n k_Mod_stands_29 rfl rfl ?_
    refine g_iload_n k_Mod_stands_30 rfl rfl ?_
    refine g_iload_n k_Mod_stands_31 rfl rfl ?_
    obtain ⟨y3, e_y3, e⟩ := o_b_ex e
    refine g_cv k_Mod_stands_32 lv_Mod_329 (by decide +kernel) (T := F_Mod) (N := 61) (ci := 10) rfl (sk_Mod s) (s_Mod_stands0 (bc := 0) (bs := 0) s F x1 x2 m2 e_y3 (by omega)) rfl rfl (Nat.le_of_ble_eq_true rfl) (by simp [Value.category]) (by omega) (by omega) (by omega) ?_
    obtain ⟨q4, e⟩ := o_gd_ex e
    refine g_zret k_Mod_stands_35 rfl (isb_or q4) ?_
    exact (by cases e; exact hq)
  · rw [if_neg c] at e
    refine g_iconst (v := 0) k_Mod_stands_27 rfl ?_
    refine g_zret k_Mod_stands_28 rfl (by decide) ?_
    exact (by cases e; exact hq)
def f_Mod_stands (F : Nat) (x1 : Int32) (x2 : Int32) (m : aM) : Option (Int32 × aM) :=
  o_let (a_st m 242 0 0) fun m1 =>
  o_b (f_Mod_isNode x1 x2 m1) fun y2 =>
  (if y2 = 0 then
  b_Mod_stands_20 F x1 x2 1 m1
  else
  b_Mod_stands_20 F x1 x2 0 m1
  )
theorem s_Mod_stands {K : aK} {d bc bs : Nat} {g : aG} (s : SyM g) (F : Nat) (x1 : Int32) (x2 : Int32) (m : aM) {r : Int32} {m' : aM} (e : f_Mod_stands F x1 x2 m = some (r, m')) (hd : 3 ≤ d) : Sp K M_Mod_stands d bc bs [.ref 242, .int x1, .int x2] (g, m) (some (.int r)) (g, m') := by
  refine sp_of ok_Mod_stands rfl (Nat.le_of_ble_eq_true rfl) (by simp [Value.category]) (fun Q hq => ?_)
  unfold f_Mod_stands at e
  refine g_aload_n k_Mod_stands_0 rfl rfl ?_
  refine g_iconst (v := 0) k_Mod_stands_1 rfl ?_
  refine p_puti k_Mod_stands_2 fl_Mod_131 rfl ⟨R_Mod, F_Mod, 61, rfl, Or.inl rfl⟩ (sk_Mod s) (by decide) ?_
  obtain ⟨m1, u_m1, e⟩ := o_let_ex e
  refine G.hm u_m1 ?_
  refine g_aload_n k_Mod_stands_5 rfl rfl ?_
  refine g_aload_n k_Mod_stands_6 rfl rfl ?_
  refine g_iload_n k_Mod_stands_7 rfl rfl ?_
  refine g_iload_n k_Mod_stands_8 rfl rfl ?_
  obtain ⟨y2, e_y2, e⟩ := o_b_ex e
  refine g_cv k_Mod_stands_9 lv_Mod_325 (by decide +kernel) (T := F_Mod) (N := 61) (ci := 10) rfl (sk_Mod s) (s_Mod_isNode (bc := 0) (bs := 0) s x1 x2 m1 e_y2 (by omega)) rfl rfl (Nat.le_of_ble_eq_true rfl) (by simp [Value.category]) (by omega) (by omega) (by omega) ?_
  refine g_if_ne (tgt := 19) k_Mod_stands_12 (by decide) (fun c => ?_) (fun c => ?_)
  · rw [if_pos c] at e
    refine g_iconst (v := 1) k_Mod_stands_15 rfl ?_
    refine g_goto (tgt := 20) k_Mod_stands_16 (by decide) ?_
    exact (t_Mod_stands_20 s F x1 x2 1 m1 hq e hd)
  · rw [if_neg c] at e
    refine g_iconst (v := 0) k_Mod_stands_19 rfl ?_
    exact (t_Mod_stands_20 s F x1 x2 0 m1 hq e hd)
def b_Mod_stepTo_122 (x4 : Int32) (x5 : Int32) (m : aM) : Option Int32 :=
  o_gd (inb ((32 * x4) + x5) 6912) <|
  o_let ((m 8472 (((32 * x4) + x5).toNatClampNeg))) fun y2 =>
  (if y2 = 0 then
  some (-1)
  else
  some ((32 * x4) + x5)
  )
theorem t_Mod_stepTo_122 {K : aK} {d bc bs : Nat} {g : aG} (s : SyM g) {Q : aQ} {r : Int32} (m : aM) (x4 : Int32) (x5 : Int32) (hq : Q (.inl (some (.int r))) (g, m)) (e : b_Mod_stepTo_122 x4 x5 m = some r) (hd : 2 ≤ d) : G K M_Mod_stepTo d bc bs 122 [.ref 242, .double 0, .double 0, .double 0, .int x4, .int x5] [] (g, m) Q := by
  unfold b_Mod_stepTo_122 at e
  refine g_aload_n k_Mod_stepTo_122 rfl rfl ?_
  refine p_getr k_Mod_stepTo_123 fl_Mod_90 rfl (sk_Mod s) (by decide) (sr_Mod_44 s) ?_
  refine g_bipush (v := 32) k_Mod_stepTo_126 rfl ?_
  refine g_iload k_Mod_stepTo_128 rfl ?_
  refine g_imul k_Mod_stepTo_130 ?_
  refine g_iload k_Mod_stepTo_131 rfl ?_
  refine g_iadd k_Mod_stepTo_133 ?_
  obtain ⟨q1, e⟩ := o_gd_ex e
  refine p_zald k_Mod_stepTo_134 (sa_Mod_44 s) (inb_in q1) (j := ((32 * x4) + x5).toNatClampNeg) rfl ?_
  obtain ⟨y2, u_y2, e⟩ := o_let_ex e
  refine G.vy u_y2 ?_
  refine g_if_eq (tgt := 149) k_Mod_stepTo_135 (by decide) (fun c => ?_) (fun c => ?_)
  · rw [if_pos c] at e
    refine g_iconst (v := (-1)) k_Mod_stepTo_149 rfl ?_
    refine g_iret k_Mod_stepTo_150 rfl ?_
    exact (by cases e; exact hq)
  · rw [if_neg c] at e
    refine g_bipush (v := 32) k_Mod_stepTo_138 rfl ?_
    refine g_iload k_Mod_stepTo_140 rfl ?_
    refine g_imul k_Mod_stepTo_142 ?_
    refine g_iload k_Mod_stepTo_143 rfl ?_
    refine g_iadd k_Mod_stepTo_145 ?_
    refine g_goto (tgt := 150) k_Mod_stepTo_146 (by decide) ?_
    refine g_iret k_Mod_stepTo_150 rfl ?_
    exact (by cases e; exact hq)
def f_Mod_stepTo (x1 : Int32) (x2 : Int32) (x3 : Int32) (m : aM) : Option Int32 :=
  (if 3 ≤ x3 then
  (if 6 ≤ x3 then
  (if (m 242 36) ≤ (x3 - 6) then
  some (-1)
  else
  o_let (((x2 : Int32) >>> ((x3 - 6) &&& 31))) fun y1 =>
  (if (y1 &&& 1) = 1 then
  some (-1)
  else
  o_let (((1 : Int32) <<< ((x3 - 6) &&& 31))) fun y2 =>
  b_Mod_stepTo_122 x1 (x2 ||| y2) m
  )
  )
  else
  (if (m 242 35) ≤ (x3 - 3) then
  some (-1)
  else
  o_b (f_Mod_stageOf x1 (x3 - 3) m) fun y3 =>
  o_b (f_Mod_in y3 1 4 m) fun y4 =>
  (if y4 = 0 then
  some (-1)
  else
  o_b (f_Mod_power (x3 - 3) m) fun y5 =>
  b_Mod_stepTo_122 (x1 - y5) x2 m
  )
  )
  )
  else
  (if (m 242 35) ≤ x3 then
  some (-1)
  else
  o_b (f_Mod_stageOf x1 x3 m) fun y6 =>
  (if y6 = 5 then
  some (-1)
  else
  o_b (f_Mod_power x3 m) fun y7 =>
  b_Mod_stepTo_122 (x1 + y7) x2 m
  )
  )
  )
theorem s_Mod_stepTo {K : aK} {d bc bs : Nat} {g : aG} (s : SyM g) (x1 : Int32) (x2 : Int32) (x3 : Int32) (m : aM) {r : Int32} (e : f_Mod_stepTo x1 x2 x3 m = some r) (hd : 2 ≤ d) : Sp K M_Mod_stepTo d bc bs [.ref 242, .int x1, .int x2, .int x3] (g, m) (some (.int r)) (g, m) := by
  refine sp_of ok_Mod_stepTo rfl (Nat.le_of_ble_eq_true rfl) (by simp [Value.category]) (fun Q hq => ?_)
  unfold f_Mod_stepTo at e
  refine g_iload_n k_Mod_stepTo_0 rfl rfl ?_
  refine g_istore k_Mod_stepTo_1 (by decide) ?_
  refine g_iload_n k_Mod_stepTo_3 rfl rfl ?_
  refine g_istore k_Mod_stepTo_4 (by decide) ?_
  refine g_iload_n k_Mod_stepTo_6 rfl rfl ?_
  refine g_iconst (v := 3) k_Mod_stepTo_7 rfl ?_
  refine g_icmp_ge (tgt := 41) k_Mod_stepTo_8 (by decide) (fun c => ?_) (fun c => ?_)
  · rw [if_pos c] at e
    refine g_iload_n k_Mod_stepTo_41 rfl rfl ?_
    refine g_bipush (v := 6) k_Mod_stepTo_42 rfl ?_
    refine g_icmp_ge (tgt := 87) k_Mod_stepTo_44 (by decide) (fun c => ?_) (fun c => ?_)
    · rw [if_pos c] at e
      refine g_iload_n k_Mod_stepTo_87 rfl rfl ?_
      refine g_bipush (v := 6) k_Mod_stepTo_88 rfl ?_
      refine g_isub k_Mod_stepTo_90 ?_
      refine g_aload_n k_Mod_stepTo_91 rfl rfl ?_
      refine p_geti k_Mod_stepTo_92 fl_Mod_312 rfl (sk_Mod s) (by decide) ?_
      refine g_icmp_ge (tgt := 110) k_Mod_stepTo_95 (by decide) (fun c => ?_) (fun c => ?_)
      · rw [if_pos c] at e
        refine g_iconst (v := (-1)) k_Mod_stepTo_110 rfl ?_
        refine g_iret k_Mod_stepTo_111 rfl ?_
        exact (by cases e; exact hq)
      · rw [if_neg c] at e
        refine g_iload_n k_Mod_stepTo_98 rfl rfl ?_
        refine g_iload_n k_Mod_stepTo_99 rfl rfl ?_
        refine g_bipush (v := 6) k_Mod_stepTo_100 rfl ?_
        refine g_isub k_Mod_stepTo_102 ?_
        refine g_ishr k_Mod_stepTo_103 ?_
        obtain ⟨y1, u_y1, e⟩ := o_let_ex e
        refine G.vy u_y1 ?_
        refine g_iconst (v := 1) k_Mod_stepTo_104 rfl ?_
        refine g_iand k_Mod_stepTo_105 ?_
        refine g_iconst (v := 1) k_Mod_stepTo_106 rfl ?_
        refine g_icmp_ne (tgt := 112) k_Mod_stepTo_107 (by decide) (fun c => ?_) (fun c => ?_)
        · rw [if_pos c] at e
          refine g_iconst (v := (-1)) k_Mod_stepTo_110 rfl ?_
          refine g_iret k_Mod_stepTo_111 rfl ?_
          exact (by cases e; exact hq)
        · rw [if_neg c] at e
          refine g_iload_n k_Mod_stepTo_112 rfl rfl ?_
          refine g_iconst (v := 1) k_Mod_stepTo_113 rfl ?_
          refine g_iload_n k_Mod_stepTo_114 rfl rfl ?_
          refine g_bipush (v := 6) k_Mod_stepTo_115 rfl ?_
          refine g_isub k_Mod_stepTo_117 ?_
          refine g_ishl k_Mod_stepTo_118 ?_
          obtain ⟨y2, u_y2, e⟩ := o_let_ex e
          refine G.vy u_y2 ?_
          refine g_ior k_Mod_stepTo_119 ?_
          refine g_istore k_Mod_stepTo_120 (by decide) ?_
          exact G.wl (wls (wld (wld (wld (wls (wls wl0)))))) (t_Mod_stepTo_122 s m x1 (x2 ||| y2)  hq e hd)
    · rw [if_neg c] at e
      refine g_iload_n k_Mod_stepTo_47 rfl rfl ?_
      refine g_iconst (v := 3) k_Mod_stepTo_48 rfl ?_
      refine g_isub k_Mod_stepTo_49 ?_
      refine g_aload_n k_Mod_stepTo_50 rfl rfl ?_
      refine p_geti k_Mod_stepTo_51 fl_Mod_309 rfl (sk_Mod s) (by decide) ?_
      refine g_icmp_ge (tgt := 72) k_Mod_stepTo_54 (by decide) (fun c => ?_) (fun c => ?_)
      · rw [if_pos c] at e
        refine g_iconst (v := (-1)) k_Mod_stepTo_72 rfl ?_
        refine g_iret k_Mod_stepTo_73 rfl ?_
        exact (by cases e; exact hq)
      · rw [if_neg c] at e
        refine g_iload_n k_Mod_stepTo_57 rfl rfl ?_
        refine g_iload_n k_Mod_stepTo_58 rfl rfl ?_
        refine g_iconst (v := 3) k_Mod_stepTo_59 rfl ?_
        refine g_isub k_Mod_stepTo_60 ?_
        obtain ⟨y3, e_y3, e⟩ := o_b_ex e
        refine g_cs k_Mod_stepTo_61 ls_Mod_318 (by decide +kernel) (s_Mod_stageOf (bc := 0) (bs := 0) s x1 (x3 - 3) m e_y3 (by omega)) rfl rfl (Nat.le_of_ble_eq_true rfl) (by simp [Value.category]) (by omega) (by omega) (by omega) ?_
        refine g_iconst (v := 1) k_Mod_stepTo_64 rfl ?_
        refine g_iconst (v := 4) k_Mod_stepTo_65 rfl ?_
        obtain ⟨y4, e_y4, e⟩ := o_b_ex e
        refine g_cs k_Mod_stepTo_66 ls_Mod_236 (by decide +kernel) (s_Mod_in (bc := 0) (bs := 0) s y3 1 4 m e_y4) rfl rfl (Nat.le_of_ble_eq_true rfl) (by simp [Value.category]) (by omega) (by omega) (by omega) ?_
        refine g_if_ne (tgt := 74) k_Mod_stepTo_69 (by decide) (fun c => ?_) (fun c => ?_)
        · rw [if_pos c] at e
          refine g_iconst (v := (-1)) k_Mod_stepTo_72 rfl ?_
          refine g_iret k_Mod_stepTo_73 rfl ?_
          exact (by cases e; exact hq)
        · rw [if_neg c] at e
          refine g_iload_n k_Mod_stepTo_74 rfl rfl ?_
          refine g_iload_n k_Mod_stepTo_75 rfl rfl ?_
          refine g_iconst (v := 3) k_Mod_stepTo_76 rfl ?_
          refine g_isub k_Mod_stepTo_77 ?_
          obtain ⟨y5, e_y5, e⟩ := o_b_ex e
          refine g_cs k_Mod_stepTo_78 ls_Mod_315 (by decide +kernel) (s_Mod_power (bc := 0) (bs := 0) s (x3 - 3) m e_y5) rfl rfl (Nat.le_of_ble_eq_true rfl) (by simp [Value.category]) (by omega) (by omega) (by omega) ?_
          refine g_isub k_Mod_stepTo_81 ?_
          refine g_istore k_Mod_stepTo_82 (by decide) ?_
          refine g_goto (tgt := 122) k_Mod_stepTo_84 (by decide) ?_
          exact G.wl (wls (wld (wld (wld (wls (wls wl0)))))) (t_Mod_stepTo_122 s m (x1 - y5) x2  hq e hd)
  · rw [if_neg c] at e
    refine g_iload_n k_Mod_stepTo_11 rfl rfl ?_
    refine g_aload_n k_Mod_stepTo_12 rfl rfl ?_
    refine p_geti k_Mod_stepTo_13 fl_Mod_309 rfl (sk_Mod s) (by decide) ?_
    refine g_icmp_ge (tgt := 28) k_Mod_stepTo_16 (by decide) (fun c => ?_) (fun c => ?_)
    · rw [if_pos c] at e
      refine g_iconst (v := (-1)) k_Mod_stepTo_28 rfl ?_
      refine g_iret k_Mod_stepTo_29 rfl ?_
      exact (by cases e; exact hq)
    · rw [if_neg c] at e
      refine g_iload_n k_Mod_stepTo_19 rfl rfl ?_
      refine g_iload_n k_Mod_stepTo_20 rfl rfl ?_
      obtain ⟨y6, e_y6, e⟩ := o_b_ex e
      refine g_cs k_Mod_stepTo_21 ls_Mod_318 (by decide +kernel) (s_Mod_stageOf (bc := 0) (bs := 0) s x1 x3 m e_y6 (by omega)) rfl rfl (Nat.le_of_ble_eq_true rfl) (by simp [Value.category]) (by omega) (by omega) (by omega) ?_
      refine g_iconst (v := 5) k_Mod_stepTo_24 rfl ?_
      refine g_icmp_ne (tgt := 30) k_Mod_stepTo_25 (by decide) (fun c => ?_) (fun c => ?_)
      · rw [if_pos c] at e
        refine g_iconst (v := (-1)) k_Mod_stepTo_28 rfl ?_
        refine g_iret k_Mod_stepTo_29 rfl ?_
        exact (by cases e; exact hq)
      · rw [if_neg c] at e
        refine g_iload_n k_Mod_stepTo_30 rfl rfl ?_
        refine g_iload_n k_Mod_stepTo_31 rfl rfl ?_
        obtain ⟨y7, e_y7, e⟩ := o_b_ex e
        refine g_cs k_Mod_stepTo_32 ls_Mod_315 (by decide +kernel) (s_Mod_power (bc := 0) (bs := 0) s x3 m e_y7) rfl rfl (Nat.le_of_ble_eq_true rfl) (by simp [Value.category]) (by omega) (by omega) (by omega) ?_
        refine g_iadd k_Mod_stepTo_35 ?_
        refine g_istore k_Mod_stepTo_36 (by decide) ?_
        refine g_goto (tgt := 122) k_Mod_stepTo_38 (by decide) ?_
        exact G.wl (wls (wld (wld (wld (wls (wls wl0)))))) (t_Mod_stepTo_122 s m (x1 + y7) x2  hq e hd)
def f_Mod_costOf (x1 : Int32) (x2 : Int32) (m : aM) : Option Int32 :=
  (if 3 ≤ x2 then
  (if 6 ≤ x2 then
  o_gd (inb (x2 - 6) 5) <|
  o_let ((m 8470 ((x2 - 6).toNatClampNeg))) fun y2 =>
  some y2
  else
  some 1
  )
  else
  o_gd (inb x2 3) <|
  o_b (f_Mod_stageOf x1 x2 m) fun y4 =>
  o_gd (inb y4 5) <|
  o_let ((m (8453 + x2.toNatClampNeg) y4.toNatClampNeg)) fun y6 =>
  some y6
  )
theorem s_Mod_costOf {K : aK} {d bc bs : Nat} {g : aG} (s : SyM g) (x1 : Int32) (x2 : Int32) (m : aM) {r : Int32} (e : f_Mod_costOf x1 x2 m = some r) (hd : 2 ≤ d) : Sp K M_Mod_costOf d bc bs [.ref 242, .int x1, .int x2] (g, m) (some (.int r)) (g, m) := by
  refine sp_of ok_Mod_costOf rfl (Nat.le_of_ble_eq_true rfl) (by simp [Value.category]) (fun Q hq => ?_)
  unfold f_Mod_costOf at e
  refine g_iload_n k_Mod_costOf_0 rfl rfl ?_
  refine g_iconst (v := 3) k_Mod_costOf_1 rfl ?_
  refine g_icmp_ge (tgt := 20) k_Mod_costOf_2 (by decide) (fun c => ?_) (fun c => ?_)
  · rw [if_pos c] at e
    refine g_iload_n k_Mod_costOf_20 rfl rfl ?_
    refine g_bipush (v := 6) k_Mod_costOf_21 rfl ?_
    refine g_icmp_ge (tgt := 30) k_Mod_costOf_23 (by decide) (fun c => ?_) (fun c => ?_)
    · rw [if_pos c] at e
      refine g_aload_n k_Mod_costOf_30 rfl rfl ?_
      refine p_getr k_Mod_costOf_31 fl_Mod_84 rfl (sk_Mod s) (by decide) (sr_Mod_42 s) ?_
      refine g_iload_n k_Mod_costOf_34 rfl rfl ?_
      refine g_bipush (v := 6) k_Mod_costOf_35 rfl ?_
      refine g_isub k_Mod_costOf_37 ?_
      obtain ⟨q1, e⟩ := o_gd_ex e
      refine p_iald k_Mod_costOf_38 (sa_Mod_42 s) (inb_in q1) (j := (x2 - 6).toNatClampNeg) rfl ?_
      obtain ⟨y2, u_y2, e⟩ := o_let_ex e
      refine G.vy u_y2 ?_
      refine g_iret k_Mod_costOf_39 rfl ?_
      exact (by cases e; exact hq)
    · rw [if_neg c] at e
      refine g_iconst (v := 1) k_Mod_costOf_26 rfl ?_
      refine g_goto (tgt := 39) k_Mod_costOf_27 (by decide) ?_
      refine g_iret k_Mod_costOf_39 rfl ?_
      exact (by cases e; exact hq)
  · rw [if_neg c] at e
    refine g_aload_n k_Mod_costOf_5 rfl rfl ?_
    refine p_getr k_Mod_costOf_6 fl_Mod_70 rfl (sk_Mod s) (by decide) (sr_Mod_38 s) ?_
    refine g_iload_n k_Mod_costOf_9 rfl rfl ?_
    obtain ⟨q3, e⟩ := o_gd_ex e
    refine p_aald k_Mod_costOf_10 (sa_Mod_38 s) (by decide) (by decide) (inb_in q3) (j := x2.toNatClampNeg) rfl (si_Mod_38 s _ (vp_lt (inb_in q3))).1 ?_
    refine g_iload_n k_Mod_costOf_11 rfl rfl ?_
    refine g_iload_n k_Mod_costOf_12 rfl rfl ?_
    obtain ⟨y4, e_y4, e⟩ := o_b_ex e
    refine g_cs k_Mod_costOf_13 ls_Mod_318 (by decide +kernel) (s_Mod_stageOf (bc := 0) (bs := 0) s x1 x2 m e_y4 (by omega)) rfl rfl (Nat.le_of_ble_eq_true rfl) (by simp [Value.category]) (by omega) (by omega) (by omega) ?_
    obtain ⟨q5, e⟩ := o_gd_ex e
    refine p_iald k_Mod_costOf_16 (si_Mod_38 s _ (vp_lt (inb_in q3))).2 (inb_in q5) (j := y4.toNatClampNeg) rfl ?_
    obtain ⟨y6, u_y6, e⟩ := o_let_ex e
    refine G.vy u_y6 ?_
    refine g_goto (tgt := 39) k_Mod_costOf_17 (by decide) ?_
    refine g_iret k_Mod_costOf_39 rfl ?_
    exact (by cases e; exact hq)
def b_Mod_findBest_293 (F : Nat) (rec_127 : Int32 → Int32 → aM → Option (Int32 × aM)) (rec_140 : Int32 → Int32 → Int32 → aM → Option (Int32 × aM)) (x2 : Int32) (x4 : Int32) (x5 : Int32) (m : aM) : Option (Int32 × aM) :=
  rec_140 x2 x4 (x5 - 1) m
theorem t_Mod_findBest_293 {K : aK} {d bc bs : Nat} {g : aG} (s : SyM g) {Q : aQ} {r : Int32} {m' : aM} (F : Nat) (rec_127 : Int32 → Int32 → aM → Option (Int32 × aM)) (hr_127 : ∀ (x2 : Int32) (x4 : Int32) (m : aM), rec_127 x2 x4 m = some (r, m') → G K M_Mod_findBest d bc bs 127 [.ref 242, .double 0, .int x2, .double 0, .int x4, .double 0, .double 0, .double 0, .double 0] [] (g, m) Q) (rec_140 : Int32 → Int32 → Int32 → aM → Option (Int32 × aM)) (hr_140 : ∀ (x2 : Int32) (x4 : Int32) (x5 : Int32) (m : aM), rec_140 x2 x4 x5 m = some (r, m') → G K M_Mod_findBest d bc bs 140 [.ref 242, .double 0, .int x2, .double 0, .int x4, .int x5, .double 0, .double 0, .double 0] [] (g, m) Q) (x2 : Int32) (x4 : Int32) (x5 : Int32) (m : aM) (hq : Q (.inl none) (g, m')) (e : b_Mod_findBest_293 F rec_127 rec_140 x2 x4 x5 m = some (r, m')) (hd : 3 ≤ d) : G K M_Mod_findBest d bc bs 293 [.ref 242, .double 0, .int x2, .double 0, .int x4, .int x5, .double 0, .double 0, .double 0] [] (g, m) Q := by
  unfold b_Mod_findBest_293 at e
  refine g_iinc k_Mod_findBest_293 rfl (i_m1 _) (by decide) ?_
  refine g_goto (tgt := 140) k_Mod_findBest_296 (by decide) ?_
  exact (hr_140 x2 x4 (x5 - 1) m e)
def b_Mod_findBest_287 (F : Nat) (rec_127 : Int32 → Int32 → aM → Option (Int32 × aM)) (rec_140 : Int32 → Int32 → Int32 → aM → Option (Int32 × aM)) (rec_148 : Int32 → Int32 → Int32 → Int32 → aM → Option (Int32 × aM)) (x2 : Int32) (x4 : Int32) (x5 : Int32) (x6 : Int32) (m : aM) : Option (Int32 × aM) :=
  rec_148 x2 x4 x5 (x6 + 1) m
theorem t_Mod_findBest_287 {K : aK} {d bc bs : Nat} {g : aG} (s : SyM g) {Q : aQ} {r : Int32} {m' : aM} (F : Nat) (rec_127 : Int32 → Int32 → aM → Option (Int32 × aM)) (hr_127 : ∀ (x2 : Int32) (x4 : Int32) (m : aM), rec_127 x2 x4 m = some (r, m') → G K M_Mod_findBest d bc bs 127 [.ref 242, .double 0, .int x2, .double 0, .int x4, .double 0, .double 0, .double 0, .double 0] [] (g, m) Q) (rec_140 : Int32 → Int32 → Int32 → aM → Option (Int32 × aM)) (hr_140 : ∀ (x2 : Int32) (x4 : Int32) (x5 : Int32) (m : aM), rec_140 x2 x4 x5 m = some (r, m') → G K M_Mod_findBest d bc bs 140 [.ref 242, .double 0, .int x2, .double 0, .int x4, .int x5, .double 0, .double 0, .double 0] [] (g, m) Q) (rec_148 : Int32 → Int32 → Int32 → Int32 → aM → Option (Int32 × aM)) (hr_148 : ∀ (x2 : Int32) (x4 : Int32) (x5 : Int32) (x6 : Int32) (m : aM), rec_148 x2 x4 x5 x6 m = some (r, m') → G K M_Mod_findBest d bc bs 148 [.ref 242, .double 0, .int x2, .double 0, .int x4, .int x5, .int x6, .double 0, .double 0] [] (g, m) Q) (x2 : Int32) (x4 : Int32) (x5 : Int32) (x6 : Int32) (m : aM) (hq : Q (.inl none) (g, m')) (e : b_Mod_findBest_287 F rec_127 rec_140 rec_148 x2 x4 x5 x6 m = some (r, m')) (hd : 3 ≤ d) : G K M_Mod_findBest d bc bs 287 [.ref 242, .double 0, .int x2, .double 0, .int x4, .int x5, .int x6, .double 0, .double 0] [] (g, m) Q := by
  unfold b_Mod_findBest_287 at e
  refine g_iinc (v := _ + 1) k_Mod_findBest_287 rfl rfl (by decide) ?_
  refine g_goto (tgt := 148) k_Mod_findBest_290 (by decide) ?_
  exact (hr_148 x2 x4 x5 (x6 + 1) m e)
def b_Mod_findBest_275 (F : Nat) (rec_127 : Int32 → Int32 → aM → Option (Int32 × aM)) (rec_140 : Int32 → Int32 → Int32 → aM → Option (Int32 × aM)) (rec_148 : Int32 → Int32 → Int32 → Int32 → aM → Option (Int32 × aM)) (x2 : Int32) (x5 : Int32) (x6 : Int32) (x8 : Int32) (m : aM) : Option (Int32 × aM) :=
  o_gd (inb x5 6912) <|
  o_let (a_st m 8471 x5.toNatClampNeg x8) fun m2 =>
  b_Mod_findBest_287 F rec_127 rec_140 rec_148 x2 1 x5 x6 m2
theorem t_Mod_findBest_275 {K : aK} {d bc bs : Nat} {g : aG} (s : SyM g) {Q : aQ} {r : Int32} {m' : aM} (F : Nat) (rec_127 : Int32 → Int32 → aM → Option (Int32 × aM)) (hr_127 : ∀ (x2 : Int32) (x4 : Int32) (m : aM), rec_127 x2 x4 m = some (r, m') → G K M_Mod_findBest d bc bs 127 [.ref 242, .double 0, .int x2, .double 0, .int x4, .double 0, .double 0, .double 0, .double 0] [] (g, m) Q) (rec_140 : Int32 → Int32 → Int32 → aM → Option (Int32 × aM)) (hr_140 : ∀ (x2 : Int32) (x4 : Int32) (x5 : Int32) (m : aM), rec_140 x2 x4 x5 m = some (r, m') → G K M_Mod_findBest d bc bs 140 [.ref 242, .double 0, .int x2, .double 0, .int x4, .int x5, .double 0, .double 0, .double 0] [] (g, m) Q) (rec_148 : Int32 → Int32 → Int32 → Int32 → aM → Option (Int32 × aM)) (hr_148 : ∀ (x2 : Int32) (x4 : Int32) (x5 : Int32) (x6 : Int32) (m : aM), rec_148 x2 x4 x5 x6 m = some (r, m') → G K M_Mod_findBest d bc bs 148 [.ref 242, .double 0, .int x2, .double 0, .int x4, .int x5, .int x6, .double 0, .double 0] [] (g, m) Q) (x2 : Int32) (x5 : Int32) (x6 : Int32) (x8 : Int32) (m : aM) (hq : Q (.inl none) (g, m')) (e : b_Mod_findBest_275 F rec_127 rec_140 rec_148 x2 x5 x6 x8 m = some (r, m')) (hd : 3 ≤ d) : G K M_Mod_findBest d bc bs 275 [.ref 242, .double 0, .int x2, .double 0, .double 0, .int x5, .int x6, .double 0, .int x8] [] (g, m) Q := by
  unfold b_Mod_findBest_275 at e
  refine g_aload_n k_Mod_findBest_275 rfl rfl ?_
  refine p_getr k_Mod_findBest_276 fl_Mod_87 rfl (sk_Mod s) (by decide) (sr_Mod_43 s) ?_
  refine g_iload k_Mod_findBest_279 rfl ?_
  refine g_iload k_Mod_findBest_281 rfl ?_
  obtain ⟨q1, e⟩ := o_gd_ex e
  refine p_iast k_Mod_findBest_283 (sa_Mod_43 s) (inb_in q1) (j := x5.toNatClampNeg) rfl ?_
  obtain ⟨m2, u_m2, e⟩ := o_let_ex e
  refine G.hm u_m2 ?_
  refine g_iconst (v := 1) k_Mod_findBest_284 rfl ?_
  refine g_istore k_Mod_findBest_285 (by decide) ?_
  exact G.wl (wls (wls (wls (wls (wls (wls (wls (wls (wld wl0))))))))) (t_Mod_findBest_287 s F rec_127 hr_127 rec_140 hr_140 rec_148 hr_148 x2 1 x5 x6 m2 hq e hd)
def b_Mod_findBest_246 (F : Nat) (rec_127 : Int32 → Int32 → aM → Option (Int32 × aM)) (rec_140 : Int32 → Int32 → Int32 → aM → Option (Int32 × aM)) (rec_148 : Int32 → Int32 → Int32 → Int32 → aM → Option (Int32 × aM)) (x2 : Int32) (x4 : Int32) (x5 : Int32) (x6 : Int32) (xt0 : Int32) (xt1 : Int32) (m : aM) : Option (Int32 × aM) :=
  o_gd (inb x5 6912) <|
  (if (m 8471 x5.toNatClampNeg) = (-1) then
  b_Mod_findBest_275 F rec_127 rec_140 rec_148 x2 x5 x6 (xt1 + xt0) m
  else
  o_gd (inb x5 6912) <|
  (if (xt1 + xt0) < (m 8471 x5.toNatClampNeg) then
  b_Mod_findBest_275 F rec_127 rec_140 rec_148 x2 x5 x6 (xt1 + xt0) m
  else
  b_Mod_findBest_287 F rec_127 rec_140 rec_148 x2 x4 x5 x6 m
  )
  )
theorem t_Mod_findBest_246 {K : aK} {d bc bs : Nat} {g : aG} (s : SyM g) {Q : aQ} {r : Int32} {m' : aM} (F : Nat) (rec_127 : Int32 → Int32 → aM → Option (Int32 × aM)) (hr_127 : ∀ (x2 : Int32) (x4 : Int32) (m : aM), rec_127 x2 x4 m = some (r, m') → G K M_Mod_findBest d bc bs 127 [.ref 242, .double 0, .int x2, .double 0, .int x4, .double 0, .double 0, .double 0, .double 0] [] (g, m) Q) (rec_140 : Int32 → Int32 → Int32 → aM → Option (Int32 × aM)) (hr_140 : ∀ (x2 : Int32) (x4 : Int32) (x5 : Int32) (m : aM), rec_140 x2 x4 x5 m = some (r, m') → G K M_Mod_findBest d bc bs 140 [.ref 242, .double 0, .int x2, .double 0, .int x4, .int x5, .double 0, .double 0, .double 0] [] (g, m) Q) (rec_148 : Int32 → Int32 → Int32 → Int32 → aM → Option (Int32 × aM)) (hr_148 : ∀ (x2 : Int32) (x4 : Int32) (x5 : Int32) (x6 : Int32) (m : aM), rec_148 x2 x4 x5 x6 m = some (r, m') → G K M_Mod_findBest d bc bs 148 [.ref 242, .double 0, .int x2, .double 0, .int x4, .int x5, .int x6, .double 0, .double 0] [] (g, m) Q) (x2 : Int32) (x4 : Int32) (x5 : Int32) (x6 : Int32) (xt0 : Int32) (xt1 : Int32) (m : aM) (hq : Q (.inl none) (g, m')) (e : b_Mod_findBest_246 F rec_127 rec_140 rec_148 x2 x4 x5 x6 xt0 xt1 m = some (r, m')) (hd : 3 ≤ d) : G K M_Mod_findBest d bc bs 246 [.ref 242, .double 0, .int x2, .double 0, .int x4, .int x5, .int x6, .double 0, .double 0] [.int xt0, .int xt1] (g, m) Q := by
  unfold b_Mod_findBest_246 at e
  refine g_iadd k_Mod_findBest_246 ?_
  refine g_istore k_Mod_findBest_247 (by decide) ?_
  refine g_aload_n k_Mod_findBest_249 rfl rfl ?_
  refine p_getr k_Mod_findBest_250 fl_Mod_87 rfl (sk_Mod s) (by decide) (sr_Mod_43 s) ?_
  refine g_iload k_Mod_findBest_253 rfl ?_
  obtain ⟨q1, e⟩ := o_gd_ex e
  refine p_iald k_Mod_findBest_255 (sa_Mod_43 s) (inb_in q1) (j := x5.toNatClampNeg) rfl ?_
  refine g_iconst (v := (-1)) k_Mod_findBest_256 rfl ?_
  refine g_icmp_eq (tgt := 275) k_Mod_findBest_257 (by decide) (fun c => ?_) (fun c => ?_)
  · rw [if_pos c] at e
    exact G.wl (wls (wls (wls (wls (wld (wls (wls (wls (wls wl0))))))))) (t_Mod_findBest_275 s F rec_127 hr_127 rec_140 hr_140 rec_148 hr_148 x2 x5 x6 (xt1 + xt0) m hq e hd)
  · rw [if_neg c] at e
    refine g_iload k_Mod_findBest_260 rfl ?_
    refine g_aload_n k_Mod_findBest_262 rfl rfl ?_
    refine p_getr k_Mod_findBest_263 fl_Mod_87 rfl (sk_Mod s) (by decide) (sr_Mod_43 s) ?_
    refine g_iload k_Mod_findBest_266 rfl ?_
    obtain ⟨q2, e⟩ := o_gd_ex e
    refine p_iald k_Mod_findBest_268 (sa_Mod_43 s) (inb_in q2) (j := x5.toNatClampNeg) rfl ?_
    refine g_icmp_lt (tgt := 275) k_Mod_findBest_269 (by decide) (fun c => ?_) (fun c => ?_)
    · rw [if_pos c] at e
      exact G.wl (wls (wls (wls (wls (wld (wls (wls (wls (wls wl0))))))))) (t_Mod_findBest_275 s F rec_127 hr_127 rec_140 hr_140 rec_148 hr_148 x2 x5 x6 (xt1 + xt0) m hq e hd)
    · rw [if_neg c] at e
      refine g_goto (tgt := 287) k_Mod_findBest_272 (by decide) ?_
      exact G.wl (wls (wls (wls (wls (wls (wls (wls (wls (wld wl0))))))))) (t_Mod_findBest_287 s F rec_127 hr_127 rec_140 hr_140 rec_148 hr_148 x2 x4 x5 x6 m hq e hd)
def lb_Mod_findBest_148 (F : Nat) (rec_127 : Int32 → Int32 → aM → Option (Int32 × aM)) (rec_140 : Int32 → Int32 → Int32 → aM → Option (Int32 × aM)) (rec_148 : Int32 → Int32 → Int32 → Int32 → aM → Option (Int32 × aM)) (x2 : Int32) (x4 : Int32) (x5 : Int32) (x6 : Int32) (m : aM) : Option (Int32 × aM) :=
  (if 11 ≤ x6 then
  b_Mod_findBest_293 F rec_127 rec_140 x2 x4 x5 m
  else
  o_gd (inb x5 6912) <|
  (if (m 8472 x5.toNatClampNeg) = 0 then
  b_Mod_findBest_293 F rec_127 rec_140 x2 x4 x5 m
  else
  o_b (f_Mod_stepTo (x5 / 32) (x5 % 32) x6 m) fun y2 =>
  (if y2 = (-1) then
  b_Mod_findBest_287 F rec_127 rec_140 rec_148 x2 x4 x5 x6 m
  else
  o_gd (inb y2 6912) <|
  (if (m 8471 y2.toNatClampNeg) = (-1) then
  b_Mod_findBest_287 F rec_127 rec_140 rec_148 x2 x4 x5 x6 m
  else
  o_gd (inb y2 6912) <|
  (if x2 = 0 then
  o_b (f_Mod_costOf (x5 / 32) x6 m) fun y5 =>
  b_Mod_findBest_246 F rec_127 rec_140 rec_148 x2 x4 x5 x6 ((10000 * y5) + 1) (m 8471 y2.toNatClampNeg) m
  else
  (if 6 ≤ x6 then
  b_Mod_findBest_246 F rec_127 rec_140 rec_148 x2 x4 x5 x6 1 (m 8471 y2.toNatClampNeg) m
  else
  b_Mod_findBest_246 F rec_127 rec_140 rec_148 x2 x4 x5 x6 0 (m 8471 y2.toNatClampNeg) m
  )
  )
  )
  )
  )
  )
theorem tb_Mod_findBest_148 {K : aK} {d bc bs : Nat} {g : aG} (s : SyM g) {Q : aQ} {r : Int32} {m' : aM} (F : Nat) (rec_127 : Int32 → Int32 → aM → Option (Int32 × aM)) (hr_127 : ∀ (x2 : Int32) (x4 : Int32) (m : aM), rec_127 x2 x4 m = some (r, m') → G K M_Mod_findBest d bc bs 127 [.ref 242, .double 0, .int x2, .double 0, .int x4, .double 0, .double 0, .double 0, .double 0] [] (g, m) Q) (rec_140 : Int32 → Int32 → Int32 → aM → Option (Int32 × aM)) (hr_140 : ∀ (x2 : Int32) (x4 : Int32) (x5 : Int32) (m : aM), rec_140 x2 x4 x5 m = some (r, m') → G K M_Mod_findBest d bc bs 140 [.ref 242, .double 0, .int x2, .double 0, .int x4, .int x5, .double 0, .double 0, .double 0] [] (g, m) Q) (rec_148 : Int32 → Int32 → Int32 → Int32 → aM → Option (Int32 × aM)) (hr_148 : ∀ (x2 : Int32) (x4 : Int32) (x5 : Int32) (x6 : Int32) (m : aM), rec_148 x2 x4 x5 x6 m = some (r, m') → G K M_Mod_findBest d bc bs 148 [.ref 242, .double 0, .int x2, .double 0, .int x4, .int x5, .int x6, .double 0, .double 0] [] (g, m) Q) (x2 : Int32) (x4 : Int32) (x5 : Int32) (x6 : Int32) (m : aM) (hq : Q (.inl none) (g, m')) (e : lb_Mod_findBest_148 F rec_127 rec_140 rec_148 x2 x4 x5 x6 m = some (r, m')) (hd : 3 ≤ d) : G K M_Mod_findBest d bc bs 148 [.ref 242, .double 0, .int x2, .double 0, .int x4, .int x5, .int x6, .double 0, .double 0] [] (g, m) Q := by
  unfold lb_Mod_findBest_148 at e
  refine g_iload k_Mod_findBest_148 rfl ?_
  refine g_bipush (v := 11) k_Mod_findBest_150 rfl ?_
  refine g_icmp_ge (tgt := 293) k_Mod_findBest_152 (by decide) (fun c => ?_) (fun c => ?_)
  · rw [if_pos c] at e
    exact G.wl (wls (wls (wls (wls (wls (wls (wld (wls (wls wl0))))))))) (t_Mod_findBest_293 s F rec_127 hr_127 rec_140 hr_140 x2 x4 x5 m hq e hd)
  · rw [if_neg c] at e
    refine g_aload_n k_Mod_findBest_155 rfl rfl ?_
    refine p_getr k_Mod_findBest_156 fl_Mod_90 rfl (sk_Mod s) (by decide) (sr_Mod_44 s) ?_
    refine g_iload k_Mod_findBest_159 rfl ?_
    obtain ⟨q1, e⟩ := o_gd_ex e
    refine p_zald k_Mod_findBest_161 (sa_Mod_44 s) (inb_in q1) (j := x5.toNatClampNeg) rfl ?_
    refine g_if_eq (tgt := 293) k_Mod_findBest_162 (by decide) (fun c => ?_) (fun c => ?_)
    · rw [if_pos c] at e
      exact G.wl (wls (wls (wls (wls (wls (wls (wld (wls (wls wl0))))))))) (t_Mod_findBest_293 s F rec_127 hr_127 rec_140 hr_140 x2 x4 x5 m hq e hd)
    · rw [if_neg c] at e
      refine g_aload_n k_Mod_findBest_165 rfl rfl ?_
      refine g_iload k_Mod_findBest_166 rfl ?_
      refine g_bipush (v := 32) k_Mod_findBest_168 rfl ?_
      refine g_idiv k_Mod_findBest_170 (by decide) ?_
      refine g_iload k_Mod_findBest_171 rfl ?_
      refine g_bipush (v := 32) k_Mod_findBest_173 rfl ?_
      refine g_irem k_Mod_findBest_175 (by decide) ?_
      refine g_iload k_Mod_findBest_176 rfl ?_
      obtain ⟨y2, e_y2, e⟩ := o_b_ex e
      refine g_cv k_Mod_findBest_178 lv_Mod_332 (by decide +kernel) (T := F_Mod) (N := 61) (ci := 10) rfl (sk_Mod s) (s_Mod_stepTo (bc := 0) (bs := 0) s (x5 / 32) (x5 % 32) x6 m e_y2 (by omega)) rfl rfl (Nat.le_of_ble_eq_true rfl) (by simp [Value.category]) (by omega) (by omega) (by omega) ?_
      refine g_istore k_Mod_findBest_181 (by decide) ?_
      refine g_iload k_Mod_findBest_183 rfl ?_
      refine g_iconst (v := (-1)) k_Mod_findBest_185 rfl ?_
      refine g_icmp_eq (tgt := 287) k_Mod_findBest_186 (by decide) (fun c => ?_) (fun c => ?_)
      · rw [if_pos c] at e
        exact G.wl (wls (wls (wls (wls (wls (wls (wls (wld (wls wl0))))))))) (t_Mod_findBest_287 s F rec_127 hr_127 rec_140 hr_140 rec_148 hr_148 x2 x4 x5 x6 m hq e hd)
      · rw [if_neg c] at e
        refine g_aload_n k_Mod_findBest_189 rfl rfl ?_
        refine p_getr k_Mod_findBest_190 fl_Mod_87 rfl (sk_Mod s) (by decide) (sr_Mod_43 s) ?_
        refine g_iload k_Mod_findBest_193 rfl ?_
        obtain ⟨q3, e⟩ := o_gd_ex e
        refine p_iald k_Mod_findBest_195 (sa_Mod_43 s) (inb_in q3) (j := y2.toNatClampNeg) rfl ?_
        refine g_iconst (v := (-1)) k_Mod_findBest_196 rfl ?_
        refine g_icmp_ne (tgt := 203) k_Mod_findBest_197 (by decide) (fun c => ?_) (fun c => ?_)
        · rw [if_pos c] at e
          refine g_goto (tgt := 287) k_Mod_findBest_200 (by decide) ?_
          exact G.wl (wls (wls (wls (wls (wls (wls (wls (wld (wls wl0))))))))) (t_Mod_findBest_287 s F rec_127 hr_127 rec_140 hr_140 rec_148 hr_148 x2 x4 x5 x6 m hq e hd)
        · rw [if_neg c] at e
          refine g_aload_n k_Mod_findBest_203 rfl rfl ?_
          refine p_getr k_Mod_findBest_204 fl_Mod_87 rfl (sk_Mod s) (by decide) (sr_Mod_43 s) ?_
          refine g_iload k_Mod_findBest_207 rfl ?_
          obtain ⟨q4, e⟩ := o_gd_ex e
          refine p_iald k_Mod_findBest_209 (sa_Mod_43 s) (inb_in q4) (j := y2.toNatClampNeg) rfl ?_
          refine g_iload_n k_Mod_findBest_210 rfl rfl ?_
          refine g_if_ne (tgt := 234) k_Mod_findBest_211 (by decide) (fun c => ?_) (fun c => ?_)
          · rw [if_pos c] at e
            refine g_sipush (v := 10000) k_Mod_findBest_214 rfl ?_
            refine g_aload_n k_Mod_findBest_217 rfl rfl ?_
            refine g_iload k_Mod_findBest_218 rfl ?_
            refine g_bipush (v := 32) k_Mod_findBest_220 rfl ?_
            refine g_idiv k_Mod_findBest_222 (by decide) ?_
            refine g_iload k_Mod_findBest_223 rfl ?_
            obtain ⟨y5, e_y5, e⟩ := o_b_ex e
            refine g_cv k_Mod_findBest_225 lv_Mod_336 (by decide +kernel) (T := F_Mod) (N := 61) (ci := 10) rfl (sk_Mod s) (s_Mod_costOf (bc := 0) (bs := 0) s (x5 / 32) x6 m e_y5 (by omega)) rfl rfl (Nat.le_of_ble_eq_true rfl) (by simp [Value.category]) (by omega) (by omega) (by omega) ?_
            refine g_imul k_Mod_findBest_228 ?_
            refine g_iconst (v := 1) k_Mod_findBest_229 rfl ?_
            refine g_iadd k_Mod_findBest_230 ?_
            refine g_goto (tgt := 246) k_Mod_findBest_231 (by decide) ?_
            exact G.wl (wls (wls (wls (wls (wls (wls (wls (wld (wls wl0))))))))) (t_Mod_findBest_246 s F rec_127 hr_127 rec_140 hr_140 rec_148 hr_148 x2 x4 x5 x6 ((10000 * y5) + 1) (m 8471 y2.toNatClampNeg) m hq e hd)
          · rw [if_neg c] at e
            refine g_iload k_Mod_findBest_234 rfl ?_
            refine g_bipush (v := 6) k_Mod_findBest_236 rfl ?_
            refine g_icmp_ge (tgt := 245) k_Mod_findBest_238 (by decide) (fun c => ?_) (fun c => ?_)
            · rw [if_pos c] at e
              refine g_iconst (v := 1) k_Mod_findBest_245 rfl ?_
              exact G.wl (wls (wls (wls (wls (wls (wls (wls (wld (wls wl0))))))))) (t_Mod_findBest_246 s F rec_127 hr_127 rec_140 hr_140 rec_148 hr_148 x2 x4 x5 x6 1 (m 8471 y2.toNatClampNeg) m hq e hd)
            · rw [if_neg c] at e
              refine g_iconst (v := 0) k_Mod_findBest_241 rfl ?_
              refine g_goto (tgt := 246) k_Mod_findBest_242 (by decide) ?_
              exact G.wl (wls (wls (wls (wls (wls (wls (wls (wld (wls wl0))))))))) (t_Mod_findBest_246 s F rec_127 hr_127 rec_140 hr_140 rec_148 hr_148 x2 x4 x5 x6 0 (m 8471 y2.toNatClampNeg) m hq e hd)
def ll_Mod_findBest_148 (F : Nat) (rec_127 : Int32 → Int32 → aM → Option (Int32 × aM)) (rec_140 : Int32 → Int32 → Int32 → aM → Option (Int32 × aM)) : Nat → Int32 → Int32 → Int32 → Int32 → aM → Option (Int32 × aM)
  | 0, _, _, _, _, _ => none
  | N + 1, x2, x4, x5, x6, m => lb_Mod_findBest_148 F rec_127 rec_140 (ll_Mod_findBest_148 F rec_127 rec_140 N) x2 x4 x5 x6 m
theorem t_Mod_findBest_148 {K : aK} {d bc bs : Nat} {g : aG} (s : SyM g) {Q : aQ} {r : Int32} {m' : aM} (F : Nat) (rec_127 : Int32 → Int32 → aM → Option (Int32 × aM)) (hr_127 : ∀ (x2 : Int32) (x4 : Int32) (m : aM), rec_127 x2 x4 m = some (r, m') → G K M_Mod_findBest d bc bs 127 [.ref 242, .double 0, .int x2, .double 0, .int x4, .double 0, .double 0, .double 0, .double 0] [] (g, m) Q) (rec_140 : Int32 → Int32 → Int32 → aM → Option (Int32 × aM)) (hr_140 : ∀ (x2 : Int32) (x4 : Int32) (x5 : Int32) (m : aM), rec_140 x2 x4 x5 m = some (r, m') → G K M_Mod_findBest d bc bs 140 [.ref 242, .double 0, .int x2, .double 0, .int x4, .int x5, .double 0, .double 0, .double 0] [] (g, m) Q) : ∀ (N : Nat) (x2 : Int32) (x4 : Int32) (x5 : Int32) (x6 : Int32) (m : aM), Q (.inl none) (g, m') → ll_Mod_findBest_148 F rec_127 rec_140 N x2 x4 x5 x6 m = some (r, m') → 3 ≤ d → G K M_Mod_findBest d bc bs 148 [.ref 242, .double 0, .int x2, .double 0, .int x4, .int x5, .int x6, .double 0, .double 0] [] (g, m) Q
  | 0, _, _, _, _, _ => fun _ e => nomatch e
  | N + 1, x2, x4, x5, x6, m => fun hq e hd => tb_Mod_findBest_148 s F rec_127 hr_127 rec_140 hr_140 (ll_Mod_findBest_148 F rec_127 rec_140 N) (fun x2 x4 x5 x6 m e => t_Mod_findBest_148 s F rec_127 hr_127 rec_140 hr_140 N x2 x4 x5 x6 m hq e hd) x2 x4 x5 x6 m hq e hd
def lb_Mod_findBest_140 (F : Nat) (rec_127 : Int32 → Int32 → aM → Option (Int32 × aM)) (rec_140 : Int32 → Int32 → Int32 → aM → Option (Int32 × aM)) (x2 : Int32) (x4 : Int32) (x5 : Int32) (m : aM) : Option (Int32 × aM) :=
  (if x5 < 0 then
  rec_127 x2 x4 m
  else
  ll_Mod_findBest_148 F rec_127 rec_140 F x2 x4 x5 0 m
  )
theorem tb_Mod_findBest_140 {K : aK} {d bc bs : Nat} {g : aG} (s : SyM g) {Q : aQ} {r : Int32} {m' : aM} (F : Nat) (rec_127 : Int32 → Int32 → aM → Option (Int32 × aM)) (hr_127 : ∀ (x2 : Int32) (x4 : Int32) (m : aM), rec_127 x2 x4 m = some (r, m') → G K M_Mod_findBest d bc bs 127 [.ref 242, .double 0, .int x2, .double 0, .int x4, .double 0, .double 0, .double 0, .double 0] [] (g, m) Q) (rec_140 : Int32 → Int32 → Int32 → aM → Option (Int32 × aM)) (hr_140 : ∀ (x2 : Int32) (x4 : Int32) (x5 : Int32) (m : aM), rec_140 x2 x4 x5 m = some (r, m') → G K M_Mod_findBest d bc bs 140 [.ref 242, .double 0, .int x2, .double 0, .int x4, .int x5, .double 0, .double 0, .double 0] [] (g, m) Q) (x2 : Int32) (x4 : Int32) (x5 : Int32) (m : aM) (hq : Q (.inl none) (g, m')) (e : lb_Mod_findBest_140 F rec_127 rec_140 x2 x4 x5 m = some (r, m')) (hd : 3 ≤ d) : G K M_Mod_findBest d bc bs 140 [.ref 242, .double 0, .int x2, .double 0, .int x4, .int x5, .double 0, .double 0, .double 0] [] (g, m) Q := by
  unfold lb_Mod_findBest_140 at e
  refine g_iload k_Mod_findBest_140 rfl ?_
  refine g_if_lt (tgt := 299) k_Mod_findBest_142 (by decide) (fun c => ?_) (fun c => ?_)
  · rw [if_pos c] at e
    refine g_goto (tgt := 127) k_Mod_findBest_299 (by decide) ?_
    exact G.wl (wls (wls (wls (wls (wls (wld (wls (wls (wls wl0))))))))) (hr_127 x2 x4 m e)
  · rw [if_neg c] at e
    refine g_iconst (v := 0) k_Mod_findBest_145 rfl ?_
    refine g_istore k_Mod_findBest_146 (by decide) ?_
    exact (t_Mod_findBest_148 s F rec_127 hr_127 rec_140 hr_140 F x2 x4 x5 0 m hq e hd)
def ll_Mod_findBest_140 (F : Nat) (rec_127 : Int32 → Int32 → aM → Option (Int32 × aM)) : Nat → Int32 → Int32 → Int32 → aM → Option (Int32 × aM)
  | 0, _, _, _, _ => none
  | N + 1, x2, x4, x5, m => lb_Mod_findBest_140 F rec_127 (ll_Mod_findBest_140 F rec_127 N) x2 x4 x5 m
theorem t_Mod_findBest_140 {K : aK} {d bc bs : Nat} {g : aG} (s : SyM g) {Q : aQ} {r : Int32} {m' : aM} (F : Nat) (rec_127 : Int32 → Int32 → aM → Option (Int32 × aM)) (hr_127 : ∀ (x2 : Int32) (x4 : Int32) (m : aM), rec_127 x2 x4 m = some (r, m') → G K M_Mod_findBest d bc bs 127 [.ref 242, .double 0, .int x2, .double 0, .int x4, .double 0, .double 0, .double 0, .double 0] [] (g, m) Q) : ∀ (N : Nat) (x2 : Int32) (x4 : Int32) (x5 : Int32) (m : aM), Q (.inl none) (g, m') → ll_Mod_findBest_140 F rec_127 N x2 x4 x5 m = some (r, m') → 3 ≤ d → G K M_Mod_findBest d bc bs 140 [.ref 242, .double 0, .int x2, .double 0, .int x4, .int x5, .double 0, .double 0, .double 0] [] (g, m) Q
  | 0, _, _, _, _ => fun _ e => nomatch e
  | N + 1, x2, x4, x5, m => fun hq e hd => tb_Mod_findBest_140 s F rec_127 hr_127 (ll_Mod_findBest_140 F rec_127 N) (fun x2 x4 x5 m e => t_Mod_findBest_140 s F rec_127 hr_127 N x2 x4 x5 m hq e hd) x2 x4 x5 m hq e hd
def lb_Mod_findBest_127 (F : Nat) (rec_127 : Int32 → Int32 → aM → Option (Int32 × aM)) (x2 : Int32) (x4 : Int32) (m : aM) : Option (Int32 × aM) :=
  (if x4 = 0 then
  some (0, m)
  else
  ll_Mod_findBest_140 F rec_127 F x2 0 6911 m
  )
theorem tb_Mod_findBest_127 {K : aK} {d bc bs : Nat} {g : aG} (s : SyM g) {Q : aQ} {r : Int32} {m' : aM} (F : Nat) (rec_127 : Int32 → Int32 → aM → Option (Int32 × aM)) (hr_127 : ∀ (x2 : Int32) (x4 : Int32) (m : aM), rec_127 x2 x4 m = some (r, m') → G K M_Mod_findBest d bc bs 127 [.ref 242, .double 0, .int x2, .double 0, .int x4, .double 0, .double 0, .double 0, .double 0] [] (g, m) Q) (x2 : Int32) (x4 : Int32) (m : aM) (hq : Q (.inl none) (g, m')) (e : lb_Mod_findBest_127 F rec_127 x2 x4 m = some (r, m')) (hd : 3 ≤ d) : G K M_Mod_findBest d bc bs 127 [.ref 242, .double 0, .int x2, .double 0, .int x4, .double 0, .double 0, .double 0, .double 0] [] (g, m) Q := by
  unfold lb_Mod_findBest_127 at e
  refine g_iload k_Mod_findBest_127 rfl ?_
  refine g_if_eq (tgt := 302) k_Mod_findBest_129 (by decide) (fun c => ?_) (fun c => ?_)
  · rw [if_pos c] at e
    refine g_vret k_Mod_findBest_302 rfl ?_
    exact (by cases e; exact hq)
  · rw [if_neg c] at e
    refine g_iconst (v := 0) k_Mod_findBest_132 rfl ?_
    refine g_istore k_Mod_findBest_133 (by decide) ?_
    refine g_sipush (v := 6911) k_Mod_findBest_135 rfl ?_
    refine g_istore k_Mod_findBest_138 (by decide) ?_
    exact (t_Mod_findBest_140 s F rec_127 hr_127 F x2 0 6911 m hq e hd)
def ll_Mod_findBest_127 (F : Nat) : Nat → Int32 → Int32 → aM → Option (Int32 × aM)
  | 0, _, _, _ => none
  | N + 1, x2, x4, m => lb_Mod_findBest_127 F (ll_Mod_findBest_127 F N) x2 x4 m
theorem t_Mod_findBest_127 {K : aK} {d bc bs : Nat} {g : aG} (s : SyM g) {Q : aQ} {r : Int32} {m' : aM} (F : Nat) : ∀ (N : Nat) (x2 : Int32) (x4 : Int32) (m : aM), Q (.inl none) (g, m') → ll_Mod_findBest_127 F N x2 x4 m = some (r, m') → 3 ≤ d → G K M_Mod_findBest d bc bs 127 [.ref 242, .double 0, .int x2, .double 0, .int x4, .double 0, .double 0, .double 0, .double 0] [] (g, m) Q
  | 0, _, _, _ => fun _ e => nomatch e
  | N + 1, x2, x4, m => fun hq e hd => tb_Mod_findBest_127 s F (ll_Mod_findBest_127 F N) (fun x2 x4 m e => t_Mod_findBest_127 s F N x2 x4 m hq e hd) x2 x4 m hq e hd
def b_Mod_findBest_117 (F : Nat) (rec_33 : Int32 → Int32 → Int32 → aM → Option (Int32 × aM)) (x2 : Int32) (x3 : Int32) (x4 : Int32) (xt0 : Int32) (xt1 : Int32) (m : aM) : Option (Int32 × aM) :=
  o_gd (inb xt1 6912) <|
  o_let (a_st m 8471 xt1.toNatClampNeg xt0) fun m2 =>
  rec_33 x2 x3 (x4 + 1) m2
theorem t_Mod_findBest_117 {K : aK} {d bc bs : Nat} {g : aG} (s : SyM g) {Q : aQ} {r : Int32} {m' : aM} (F : Nat) (rec_33 : Int32 → Int32 → Int32 → aM → Option (Int32 × aM)) (hr_33 : ∀ (x2 : Int32) (x3 : Int32) (x4 : Int32) (m : aM), rec_33 x2 x3 x4 m = some (r, m') → G K M_Mod_findBest d bc bs 33 [.ref 242, .double 0, .int x2, .int x3, .int x4, .double 0, .double 0, .double 0, .double 0] [] (g, m) Q) (x2 : Int32) (x3 : Int32) (x4 : Int32) (xt0 : Int32) (xt1 : Int32) (m : aM) (hq : Q (.inl none) (g, m')) (e : b_Mod_findBest_117 F rec_33 x2 x3 x4 xt0 xt1 m = some (r, m')) (hd : 3 ≤ d) : G K M_Mod_findBest d bc bs 117 [.ref 242, .double 0, .int x2, .int x3, .int x4, .double 0, .double 0, .double 0, .double 0] [.int xt0, .int xt1, .ref 8471] (g, m) Q := by
  unfold b_Mod_findBest_117 at e
  obtain ⟨q1, e⟩ := o_gd_ex e
  refine p_iast k_Mod_findBest_117 (sa_Mod_43 s) (inb_in q1) (j := xt1.toNatClampNeg) rfl ?_
  obtain ⟨m2, u_m2, e⟩ := o_let_ex e
  refine G.hm u_m2 ?_
  refine g_iinc (v := _ + 1) k_Mod_findBest_118 rfl rfl (by decide) ?_
  refine g_goto (tgt := 33) k_Mod_findBest_121 (by decide) ?_
  exact (hr_33 x2 x3 (x4 + 1) m2 e)
def b_Mod_findBest_116 (F : Nat) (rec_33 : Int32 → Int32 → Int32 → aM → Option (Int32 × aM)) (x2 : Int32) (x3 : Int32) (x4 : Int32) (xt0 : Int32) (m : aM) : Option (Int32 × aM) :=
  b_Mod_findBest_117 F rec_33 x2 x3 x4 (-1) xt0 m
theorem t_Mod_findBest_116 {K : aK} {d bc bs : Nat} {g : aG} (s : SyM g) {Q : aQ} {r : Int32} {m' : aM} (F : Nat) (rec_33 : Int32 → Int32 → Int32 → aM → Option (Int32 × aM)) (hr_33 : ∀ (x2 : Int32) (x3 : Int32) (x4 : Int32) (m : aM), rec_33 x2 x3 x4 m = some (r, m') → G K M_Mod_findBest d bc bs 33 [.ref 242, .double 0, .int x2, .int x3, .int x4, .double 0, .double 0, .double 0, .double 0] [] (g, m) Q) (x2 : Int32) (x3 : Int32) (x4 : Int32) (xt0 : Int32) (m : aM) (hq : Q (.inl none) (g, m')) (e : b_Mod_findBest_116 F rec_33 x2 x3 x4 xt0 m = some (r, m')) (hd : 3 ≤ d) : G K M_Mod_findBest d bc bs 116 [.ref 242, .double 0, .int x2, .int x3, .int x4, .double 0, .double 0, .double 0, .double 0] [.int xt0, .ref 8471] (g, m) Q := by
  unfold b_Mod_findBest_116 at e
  refine g_iconst (v := (-1)) k_Mod_findBest_116 rfl ?_
  exact (t_Mod_findBest_117 s F rec_33 hr_33 x2 x3 x4 (-1) xt0 m hq e hd)
def b_Mod_findBest_86 (F : Nat) (rec_33 : Int32 → Int32 → Int32 → aM → Option (Int32 × aM)) (x2 : Int32) (x3 : Int32) (x4 : Int32) (xt0 : Int32) (xt1 : Int32) (m : aM) : Option (Int32 × aM) :=
  o_gd (inb xt1 6912) <|
  o_gd (isb xt0) <|
  o_let (a_st m 8472 xt1.toNatClampNeg xt0) fun m3 =>
  (if (x4 / 32) = x3 then
  o_gd (inb x4 6912) <|
  (if (m3 8472 x4.toNatClampNeg) = 0 then
  b_Mod_findBest_116 F rec_33 x2 x3 x4 x4 m3
  else
  b_Mod_findBest_117 F rec_33 x2 x3 x4 0 x4 m3
  )
  else
  b_Mod_findBest_116 F rec_33 x2 x3 x4 x4 m3
  )
theorem t_Mod_findBest_86 {K : aK} {d bc bs : Nat} {g : aG} (s : SyM g) {Q : aQ} {r : Int32} {m' : aM} (F : Nat) (rec_33 : Int32 → Int32 → Int32 → aM → Option (Int32 × aM)) (hr_33 : ∀ (x2 : Int32) (x3 : Int32) (x4 : Int32) (m : aM), rec_33 x2 x3 x4 m = some (r, m') → G K M_Mod_findBest d bc bs 33 [.ref 242, .double 0, .int x2, .int x3, .int x4, .double 0, .double 0, .double 0, .double 0] [] (g, m) Q) (x2 : Int32) (x3 : Int32) (x4 : Int32) (xt0 : Int32) (xt1 : Int32) (m : aM) (hq : Q (.inl none) (g, m')) (e : b_Mod_findBest_86 F rec_33 x2 x3 x4 xt0 xt1 m = some (r, m')) (hd : 3 ≤ d) : G K M_Mod_findBest d bc bs 86 [.ref 242, .double 0, .int x2, .int x3, .int x4, .double 0, .double 0, .double 0, .double 0] [.int xt0, .int xt1, .ref 8472] (g, m) Q := by
  unfold b_Mod_findBest_86 at e
  obtain ⟨q1, e⟩ := o_gd_ex e
  obtain ⟨q2, e⟩ := o_gd_ex e
  refine p_zast k_Mod_findBest_86 (sa_Mod_44 s) (inb_in q1) (j := xt1.toNatClampNeg) rfl (isb_or q2) ?_
  obtain ⟨m3, u_m3, e⟩ := o_let_ex e
  refine G.hm u_m3 ?_
  refine g_aload_n k_Mod_findBest_87 rfl rfl ?_
  refine p_getr k_Mod_findBest_88 fl_Mod_87 rfl (sk_Mod s) (by decide) (sr_Mod_43 s) ?_
  refine g_iload k_Mod_findBest_91 rfl ?_
  refine g_iload k_Mod_findBest_93 rfl ?_
  refine g_bipush (v := 32) k_Mod_findBest_95 rfl ?_
  refine g_idiv k_Mod_findBest_97 (by decide) ?_
  refine g_iload_n k_Mod_findBest_98 rfl rfl ?_
  refine g_icmp_ne (tgt := 116) k_Mod_findBest_99 (by decide) (fun c => ?_) (fun c => ?_)
  · rw [if_pos c] at e
    refine g_aload_n k_Mod_findBest_102 rfl rfl ?_
    refine p_getr k_Mod_findBest_103 fl_Mod_90 rfl (sk_Mod s) (by decide) (sr_Mod_44 s) ?_
    refine g_iload k_Mod_findBest_106 rfl ?_
    obtain ⟨q4, e⟩ := o_gd_ex e
    refine p_zald k_Mod_findBest_108 (sa_Mod_44 s) (inb_in q4) (j := x4.toNatClampNeg) rfl ?_
    refine g_if_eq (tgt := 116) k_Mod_findBest_109 (by decide) (fun c => ?_) (fun c => ?_)
    · rw [if_pos c] at e
      exact (t_Mod_findBest_116 s F rec_33 hr_33 x2 x3 x4 x4 m3 hq e hd)
    · rw [if_neg c] at e
      refine g_iconst (v := 0) k_Mod_findBest_112 rfl ?_
      refine g_goto (tgt := 117) k_Mod_findBest_113 (by decide) ?_
      exact (t_Mod_findBest_117 s F rec_33 hr_33 x2 x3 x4 0 x4 m3 hq e hd)
  · rw [if_neg c] at e
    exact (t_Mod_findBest_116 s F rec_33 hr_33 x2 x3 x4 x4 m3 hq e hd)
def b_Mod_findBest_85 (F : Nat) (rec_33 : Int32 → Int32 → Int32 → aM → Option (Int32 × aM)) (x2 : Int32) (x3 : Int32) (x4 : Int32) (xt0 : Int32) (m : aM) : Option (Int32 × aM) :=
  b_Mod_findBest_86 F rec_33 x2 x3 x4 0 xt0 m
theorem t_Mod_findBest_85 {K : aK} {d bc bs : Nat} {g : aG} (s : SyM g) {Q : aQ} {r : Int32} {m' : aM} (F : Nat) (rec_33 : Int32 → Int32 → Int32 → aM → Option (Int32 × aM)) (hr_33 : ∀ (x2 : Int32) (x3 : Int32) (x4 : Int32) (m : aM), rec_33 x2 x3 x4 m = some (r, m') → G K M_Mod_findBest d bc bs 33 [.ref 242, .double 0, .int x2, .int x3, .int x4, .double 0, .double 0, .double 0, .double 0] [] (g, m) Q) (x2 : Int32) (x3 : Int32) (x4 : Int32) (xt0 : Int32) (m : aM) (hq : Q (.inl none) (g, m')) (e : b_Mod_findBest_85 F rec_33 x2 x3 x4 xt0 m = some (r, m')) (hd : 3 ≤ d) : G K M_Mod_findBest d bc bs 85 [.ref 242, .double 0, .int x2, .int x3, .int x4, .double 0, .double 0, .double 0, .double 0] [.int xt0, .ref 8472] (g, m) Q := by
  unfold b_Mod_findBest_85 at e
  refine g_iconst (v := 0) k_Mod_findBest_85 rfl ?_
  exact (t_Mod_findBest_86 s F rec_33 hr_33 x2 x3 x4 0 xt0 m hq e hd)
def lb_Mod_findBest_33 (F : Nat) (rec_33 : Int32 → Int32 → Int32 → aM → Option (Int32 × aM)) (x2 : Int32) (x3 : Int32) (x4 : Int32) (m : aM) : Option (Int32 × aM) :=
  (if 6912 ≤ x4 then
  ll_Mod_findBest_127 F F x2 1 m
  else
  o_b (f_Mod_isNode (x4 / 32) (x4 % 32) m) fun y1 =>
  (if y1 = 0 then
  b_Mod_findBest_85 F rec_33 x2 x3 x4 x4 m
  else
  o_b (f_Mod_stands0 F (x4 / 32) (x4 % 32) m) fun y2 =>
  (if y2 = 0 then
  b_Mod_findBest_85 F rec_33 x2 x3 x4 x4 m
  else
  b_Mod_findBest_86 F rec_33 x2 x3 x4 1 x4 m
  )
  )
  )
theorem tb_Mod_findBest_33 {K : aK} {d bc bs : Nat} {g : aG} (s : SyM g) {Q : aQ} {r : Int32} {m' : aM} (F : Nat) (rec_33 : Int32 → Int32 → Int32 → aM → Option (Int32 × aM)) (hr_33 : ∀ (x2 : Int32) (x3 : Int32) (x4 : Int32) (m : aM), rec_33 x2 x3 x4 m = some (r, m') → G K M_Mod_findBest d bc bs 33 [.ref 242, .double 0, .int x2, .int x3, .int x4, .double 0, .double 0, .double 0, .double 0] [] (g, m) Q) (x2 : Int32) (x3 : Int32) (x4 : Int32) (m : aM) (hq : Q (.inl none) (g, m')) (e : lb_Mod_findBest_33 F rec_33 x2 x3 x4 m = some (r, m')) (hd : 3 ≤ d) : G K M_Mod_findBest d bc bs 33 [.ref 242, .double 0, .int x2, .int x3, .int x4, .double 0, .double 0, .double 0, .double 0] [] (g, m) Q := by
  unfold lb_Mod_findBest_33 at e
  refine g_iload k_Mod_findBest_33 rfl ?_
  refine g_sipush (v := 6912) k_Mod_findBest_35 rfl ?_
  refine g_icmp_ge (tgt := 124) k_Mod_findBest_38 (by decide) (fun c => ?_) (fun c => ?_)
  · rw [if_pos c] at e
    refine g_iconst (v := 1) k_Mod_findBest_124 rfl ?_
    refine g_istore k_Mod_findBest_125 (by decide) ?_
    exact G.wl (wls (wls (wls (wld (wls (wls (wls (wls (wls wl0))))))))) (t_Mod_findBest_127 s F F x2 1 m hq e hd)
  · rw [if_neg c] at e
    refine g_aload_n k_Mod_findBest_41 rfl rfl ?_
    refine p_getr k_Mod_findBest_42 fl_Mod_90 rfl (sk_Mod s) (by decide) (sr_Mod_44 s) ?_
    refine g_iload k_Mod_findBest_45 rfl ?_
    refine g_aload_n k_Mod_findBest_47 rfl rfl ?_
    refine g_iload k_Mod_findBest_48 rfl ?_
    refine g_bipush (v := 32) k_Mod_findBest_50 rfl ?_
    refine g_idiv k_Mod_findBest_52 (by decide) ?_
    refine g_iload k_Mod_findBest_53 rfl ?_
    refine g_bipush (v := 32) k_Mod_findBest_55 rfl ?_
    refine g_irem k_Mod_findBest_57 (by decide) ?_
    obtain ⟨y1, e_y1, e⟩ := o_b_ex e
    refine g_cv k_Mod_findBest_58 lv_Mod_325 (by decide +kernel) (T := F_Mod) (N := 61) (ci := 10) rfl (sk_Mod s) (s_Mod_isNode (bc := 0) (bs := 0) s (x4 / 32) (x4 % 32) m e_y1 (by omega)) rfl rfl (Nat.le_of_ble_eq_true rfl) (by simp [Value.category]) (by omega) (by omega) (by omega) ?_
    refine g_if_eq (tgt := 85) k_Mod_findBest_61 (by decide) (fun c => ?_) (fun c => ?_)
    · rw [if_pos c] at e
      exact (t_Mod_findBest_85 s F rec_33 hr_33 x2 x3 x4 x4 m hq e hd)
    · rw [if_neg c] at e
      refine g_aload_n k_Mod_findBest_64 rfl rfl ?_
      refine g_iload k_Mod_findBest_65 rfl ?_
      refine g_bipush (v := 32) k_Mod_findBest_67 rfl ?_
      refine g_idiv k_Mod_findBest_69 (by decide) ?_
      refine g_iload k_Mod_findBest_70 rfl ?_
      refine g_bipush (v := 32) k_Mod_findBest_72 rfl ?_
      refine g_irem k_Mod_findBest_74 (by decide) ?_
      obtain ⟨y2, e_y2, e⟩ := o_b_ex e
      refine g_cv k_Mod_findBest_75 lv_Mod_329 (by decide +kernel) (T := F_Mod) (N := 61) (ci := 10) rfl (sk_Mod s) (s_Mod_stands0 (bc := 0) (bs := 0) s F (x4 / 32) (x4 % 32) m e_y2 (by omega)) rfl rfl (Nat.le_of_ble_eq_true rfl) (by simp [Value.category]) (by omega) (by omega) (by omega) ?_
      refine g_if_eq (tgt := 85) k_Mod_findBest_78 (by decide) (fun c => ?_) (fun c => ?_)
      · rw [if_pos c] at e
        exact (t_Mod_findBest_85 s F rec_33 hr_33 x2 x3 x4 x4 m hq e hd)
      · rw [if_neg c] at e
        refine g_iconst (v := 1) k_Mod_findBest_81 rfl ?_
        refine g_goto (tgt := 86) k_Mod_findBest_82 (by decide) ?_
        exact (t_Mod_findBest_86 s F rec_33 hr_33 x2 x3 x4 1 x4 m hq e hd)
def ll_Mod_findBest_33 (F : Nat) : Nat → Int32 → Int32 → Int32 → aM → Option (Int32 × aM)
  | 0, _, _, _, _ => none
  | N + 1, x2, x3, x4, m => lb_Mod_findBest_33 F (ll_Mod_findBest_33 F N) x2 x3 x4 m
theorem t_Mod_findBest_33 {K : aK} {d bc bs : Nat} {g : aG} (s : SyM g) {Q : aQ} {r : Int32} {m' : aM} (F : Nat) : ∀ (N : Nat) (x2 : Int32) (x3 : Int32) (x4 : Int32) (m : aM), Q (.inl none) (g, m') → ll_Mod_findBest_33 F N x2 x3 x4 m = some (r, m') → 3 ≤ d → G K M_Mod_findBest d bc bs 33 [.ref 242, .double 0, .int x2, .int x3, .int x4, .double 0, .double 0, .double 0, .double 0] [] (g, m) Q
  | 0, _, _, _, _ => fun _ e => nomatch e
  | N + 1, x2, x3, x4, m => fun hq e hd => tb_Mod_findBest_33 s F (ll_Mod_findBest_33 F N) (fun x2 x3 x4 m e => t_Mod_findBest_33 s F N x2 x3 x4 m hq e hd) x2 x3 x4 m hq e hd
def lb_Mod_findBest_5 (F : Nat) (rec_5 : Int32 → Int32 → Int32 → Int32 → aM → Option (Int32 × aM)) (x1 : Int32) (x2 : Int32) (x3 : Int32) (x4 : Int32) (m : aM) : Option (Int32 × aM) :=
  (if (m 242 35) ≤ x4 then
  ll_Mod_findBest_33 F F x2 x3 0 m
  else
  o_b (f_Mod_power x4 m) fun y1 =>
  rec_5 x1 x2 (x3 + (x1 * y1)) (x4 + 1) m
  )
theorem tb_Mod_findBest_5 {K : aK} {d bc bs : Nat} {g : aG} (s : SyM g) {Q : aQ} {r : Int32} {m' : aM} (F : Nat) (rec_5 : Int32 → Int32 → Int32 → Int32 → aM → Option (Int32 × aM)) (hr_5 : ∀ (x1 : Int32) (x2 : Int32) (x3 : Int32) (x4 : Int32) (m : aM), rec_5 x1 x2 x3 x4 m = some (r, m') → G K M_Mod_findBest d bc bs 5 [.ref 242, .int x1, .int x2, .int x3, .int x4, .double 0, .double 0, .double 0, .double 0] [] (g, m) Q) (x1 : Int32) (x2 : Int32) (x3 : Int32) (x4 : Int32) (m : aM) (hq : Q (.inl none) (g, m')) (e : lb_Mod_findBest_5 F rec_5 x1 x2 x3 x4 m = some (r, m')) (hd : 3 ≤ d) : G K M_Mod_findBest d bc bs 5 [.ref 242, .int x1, .int x2, .int x3, .int x4, .double 0, .double 0, .double 0, .double 0] [] (g, m) Q := by
  unfold lb_Mod_findBest_5 at e
  refine g_iload k_Mod_findBest_5 rfl ?_
  refine g_aload_n k_Mod_findBest_7 rfl rfl ?_
  refine p_geti k_Mod_findBest_8 fl_Mod_309 rfl (sk_Mod s) (by decide) ?_
  refine g_icmp_ge (tgt := 30) k_Mod_findBest_11 (by decide) (fun c => ?_) (fun c => ?_)
  · rw [if_pos c] at e
    refine g_iconst (v := 0) k_Mod_findBest_30 rfl ?_
    refine g_istore k_Mod_findBest_31 (by decide) ?_
    exact G.wl (wls (wld (wls (wls (wls (wls (wls (wls (wls wl0))))))))) (t_Mod_findBest_33 s F F x2 x3 0 m hq e hd)
  · rw [if_neg c] at e
    refine g_iload_n k_Mod_findBest_14 rfl rfl ?_
    refine g_iload_n k_Mod_findBest_15 rfl rfl ?_
    refine g_iload k_Mod_findBest_16 rfl ?_
    obtain ⟨y1, e_y1, e⟩ := o_b_ex e
    refine g_cs k_Mod_findBest_18 ls_Mod_315 (by decide +kernel) (s_Mod_power (bc := 0) (bs := 0) s x4 m e_y1) rfl rfl (Nat.le_of_ble_eq_true rfl) (by simp [Value.category]) (by omega) (by omega) (by omega) ?_
    refine g_imul k_Mod_findBest_21 ?_
    refine g_iadd k_Mod_findBest_22 ?_
    refine g_istore_n k_Mod_findBest_23 rfl (by decide) ?_
    refine g_iinc (v := _ + 1) k_Mod_findBest_24 rfl rfl (by decide) ?_
    refine g_goto (tgt := 5) k_Mod_findBest_27 (by decide) ?_
    exact (hr_5 x1 x2 (x3 + (x1 * y1)) (x4 + 1) m e)
def ll_Mod_findBest_5 (F : Nat) : Nat → Int32 → Int32 → Int32 → Int32 → aM → Option (Int32 × aM)
  | 0, _, _, _, _, _ => none
  | N + 1, x1, x2, x3, x4, m => lb_Mod_findBest_5 F (ll_Mod_findBest_5 F N) x1 x2 x3 x4 m
theorem t_Mod_findBest_5 {K : aK} {d bc bs : Nat} {g : aG} (s : SyM g) {Q : aQ} {r : Int32} {m' : aM} (F : Nat) : ∀ (N : Nat) (x1 : Int32) (x2 : Int32) (x3 : Int32) (x4 : Int32) (m : aM), Q (.inl none) (g, m') → ll_Mod_findBest_5 F N x1 x2 x3 x4 m = some (r, m') → 3 ≤ d → G K M_Mod_findBest d bc bs 5 [.ref 242, .int x1, .int x2, .int x3, .int x4, .double 0, .double 0, .double 0, .double 0] [] (g, m) Q
  | 0, _, _, _, _, _ => fun _ e => nomatch e
  | N + 1, x1, x2, x3, x4, m => fun hq e hd => tb_Mod_findBest_5 s F (ll_Mod_findBest_5 F N) (fun x1 x2 x3 x4 m e => t_Mod_findBest_5 s F N x1 x2 x3 x4 m hq e hd) x1 x2 x3 x4 m hq e hd
def f_Mod_findBest (F : Nat) (x1 : Int32) (x2 : Int32) (m : aM) : Option (Int32 × aM) :=
  ll_Mod_findBest_5 F F x1 x2 0 0 m
theorem s_Mod_findBest {K : aK} {d bc bs : Nat} {g : aG} (s : SyM g) (F : Nat) (x1 : Int32) (x2 : Int32) (m : aM) {r : Int32} {m' : aM} (e : f_Mod_findBest F x1 x2 m = some (r, m')) (hd : 3 ≤ d) : Sp K M_Mod_findBest d bc bs [.ref 242, .int x1, .int x2] (g, m) none (g, m') := by
  refine sp_of ok_Mod_findBest rfl (Nat.le_of_ble_eq_true rfl) (by simp [Value.category]) (fun Q hq => ?_)
  unfold f_Mod_findBest at e
  refine g_iconst (v := 0) k_Mod_findBest_0 rfl ?_
  refine g_istore_n k_Mod_findBest_1 rfl (by decide) ?_
  refine g_iconst (v := 0) k_Mod_findBest_2 rfl ?_
  refine g_istore k_Mod_findBest_3 (by decide) ?_
  exact (t_Mod_findBest_5 s F F x1 x2 0 0 m hq e hd)
def b_Mod_firstStep_84 (F : Nat) (rec_2 : Int32 → Int32 → aM → Option Int32) (x1 : Int32) (x2 : Int32) (m : aM) : Option Int32 :=
  rec_2 x1 (x2 + 1) m
theorem t_Mod_firstStep_84 {K : aK} {d bc bs : Nat} {g : aG} (s : SyM g) {Q : aQ} {r : Int32} (F : Nat) (m : aM) (rec_2 : Int32 → Int32 → aM → Option Int32) (hr_2 : ∀ (x1 : Int32) (x2 : Int32), rec_2 x1 x2 m = some r → G K M_Mod_firstStep d bc bs 2 [.ref 242, .int x1, .int x2] [] (g, m) Q) (x1 : Int32) (x2 : Int32) (hq : Q (.inl (some (.int r))) (g, m)) (e : b_Mod_firstStep_84 F rec_2 x1 x2 m = some r) (hd : 3 ≤ d) : G K M_Mod_firstStep d bc bs 84 [.ref 242, .int x1, .int x2] [] (g, m) Q := by
  unfold b_Mod_firstStep_84 at e
  refine g_iinc (v := _ + 1) k_Mod_firstStep_84 rfl rfl (by decide) ?_
  refine g_goto (tgt := 2) k_Mod_firstStep_87 (by decide) ?_
  exact (hr_2 x1 (x2 + 1)  e)
def lb_Mod_firstStep_2 (F : Nat) (rec_2 : Int32 → Int32 → aM → Option Int32) (x1 : Int32) (x2 : Int32) (m : aM) : Option Int32 :=
  o_b (f_Mod_stepTo (x1 / 32) (x1 % 32) x2 m) fun y1 =>
  (if y1 = (-1) then
  b_Mod_firstStep_84 F rec_2 x1 x2 m
  else
  o_b (f_Mod_stepTo (x1 / 32) (x1 % 32) x2 m) fun y2 =>
  o_gd (inb y2 6912) <|
  (if (m 8471 y2.toNatClampNeg) = (-1) then
  b_Mod_firstStep_84 F rec_2 x1 x2 m
  else
  o_b (f_Mod_stepTo (x1 / 32) (x1 % 32) x2 m) fun y4 =>
  o_gd (inb y4 6912) <|
  o_b (f_Mod_costOf (x1 / 32) x2 m) fun y6 =>
  o_let (((m 8471 y4.toNatClampNeg) + (10000 * y6))) fun y7 =>
  o_gd (inb x1 6912) <|
  (if (y7 + 1) = (m 8471 x1.toNatClampNeg) then
  some x2
  else
  b_Mod_firstStep_84 F rec_2 x1 x2 m
  )
  )
  )
theorem tb_Mod_firstStep_2 {K : aK} {d bc bs : Nat} {g : aG} (s : SyM g) {Q : aQ} {r : Int32} (F : Nat) (m : aM) (rec_2 : Int32 → Int32 → aM → Option Int32) (hr_2 : ∀ (x1 : Int32) (x2 : Int32), rec_2 x1 x2 m = some r → G K M_Mod_firstStep d bc bs 2 [.ref 242, .int x1, .int x2] [] (g, m) Q) (x1 : Int32) (x2 : Int32) (hq : Q (.inl (some (.int r))) (g, m)) (e : lb_Mod_firstStep_2 F rec_2 x1 x2 m = some r) (hd : 3 ≤ d) : G K M_Mod_firstStep d bc bs 2 [.ref 242, .int x1, .int x2] [] (g, m) Q := by
  unfold lb_Mod_firstStep_2 at e
  refine g_aload_n k_Mod_firstStep_2 rfl rfl ?_
  refine g_iload_n k_Mod_firstStep_3 rfl rfl ?_
  refine g_bipush (v := 32) k_Mod_firstStep_4 rfl ?_
  refine g_idiv k_Mod_firstStep_6 (by decide) ?_
  refine g_iload_n k_Mod_firstStep_7 rfl rfl ?_
  refine g_bipush (v := 32) k_Mod_firstStep_8 rfl ?_
  refine g_irem k_Mod_firstStep_10 (by decide) ?_
  refine g_iload_n k_Mod_firstStep_11 rfl rfl ?_
  obtain ⟨y1, e_y1, e⟩ := o_b_ex e
  refine g_cv k_Mod_firstStep_12 lv_Mod_332 (by decide +kernel) (T := F_Mod) (N := 61) (ci := 10) rfl (sk_Mod s) (s_Mod_stepTo (bc := 0) (bs := 0) s (x1 / 32) (x1 % 32) x2 m e_y1 (by omega)) rfl rfl (Nat.le_of_ble_eq_true rfl) (by simp [Value.category]) (by omega) (by omega) (by omega) ?_
  refine g_iconst (v := (-1)) k_Mod_firstStep_15 rfl ?_
  refine g_icmp_eq (tgt := 84) k_Mod_firstStep_16 (by decide) (fun c => ?_) (fun c => ?_)
  · rw [if_pos c] at e
    exact (t_Mod_firstStep_84 s F m rec_2 hr_2 x1 x2  hq e hd)
  · rw [if_neg c] at e
    refine g_aload_n k_Mod_firstStep_19 rfl rfl ?_
    refine p_getr k_Mod_firstStep_20 fl_Mod_87 rfl (sk_Mod s) (by decide) (sr_Mod_43 s) ?_
    refine g_aload_n k_Mod_firstStep_23 rfl rfl ?_
    refine g_iload_n k_Mod_firstStep_24 rfl rfl ?_
    refine g_bipush (v := 32) k_Mod_firstStep_25 rfl ?_
    refine g_idiv k_Mod_firstStep_27 (by decide) ?_
    refine g_iload_n k_Mod_firstStep_28 rfl rfl ?_
    refine g_bipush (v := 32) k_Mod_firstStep_29 rfl ?_
    refine g_irem k_Mod_firstStep_31 (by decide) ?_
    refine g_iload_n k_Mod_firstStep_32 rfl rfl ?_
    obtain ⟨y2, e_y2, e⟩ := o_b_ex e
    refine g_cv k_Mod_firstStep_33 lv_Mod_332 (by decide +kernel) (T := F_Mod) (N := 61) (ci := 10) rfl (sk_Mod s) (s_Mod_stepTo (bc := 0) (bs := 0) s (x1 / 32) (x1 % 32) x2 m e_y2 (by omega)) rfl rfl (Nat.le_of_ble_eq_true rfl) (by simp [Value.category]) (by omega) (by omega) (by omega) ?_
    obtain ⟨q3, e⟩ := o_gd_ex e
    refine p_iald k_Mod_firstStep_36 (sa_Mod_43 s) (inb_in q3) (j := y2.toNatClampNeg) rfl ?_
    refine g_iconst (v := (-1)) k_Mod_firstStep_37 rfl ?_
    refine g_icmp_eq (tgt := 84) k_Mod_firstStep_38 (by decide) (fun c => ?_) (fun c => ?_)
    · rw [if_pos c] at e
      exact (t_Mod_firstStep_84 s F m rec_2 hr_2 x1 x2  hq e hd)
    · rw [if_neg c] at e
      refine g_aload_n k_Mod_firstStep_41 rfl rfl ?_
      refine p_getr k_Mod_firstStep_42 fl_Mod_87 rfl (sk_Mod s) (by decide) (sr_Mod_43 s) ?_
      refine g_aload_n k_Mod_firstStep_45 rfl rfl ?_
      refine g_iload_n k_Mod_firstStep_46 rfl rfl ?_
      refine g_bipush (v := 32) k_Mod_firstStep_47 rfl ?_
      refine g_idiv k_Mod_firstStep_49 (by decide) ?_
      refine g_iload_n k_Mod_firstStep_50 rfl rfl ?_
      refine g_bipush (v := 32) k_Mod_firstStep_51 rfl ?_
      refine g_irem k_Mod_firstStep_53 (by decide) ?_
      refine g_iload_n k_Mod_firstStep_54 rfl rfl ?_
      obtain ⟨y4, e_y4, e⟩ := o_b_ex e
      refine g_cv k_Mod_firstStep_55 lv_Mod_332 (by decide +kernel) (T := F_Mod) (N := 61) (ci := 10) rfl (sk_Mod s) (s_Mod_stepTo (bc := 0) (bs := 0) s (x1 / 32) (x1 % 32) x2 m e_y4 (by omega)) rfl rfl (Nat.le_of_ble_eq_true rfl) (by simp [Value.category]) (by omega) (by omega) (by omega) ?_
      obtain ⟨q5, e⟩ := o_gd_ex e
      refine p_iald k_Mod_firstStep_58 (sa_Mod_43 s) (inb_in q5) (j := y4.toNatClampNeg) rfl ?_
      refine g_sipush (v := 10000) k_Mod_firstStep_59 rfl ?_
      refine g_aload_n k_Mod_firstStep_62 rfl rfl ?_
      refine g_iload_n k_Mod_firstStep_63 rfl rfl ?_
      refine g_bipush (v := 32) k_Mod_firstStep_64 rfl ?_
      refine g_idiv k_Mod_firstStep_66 (by decide) ?_
      refine g_iload_n k_Mod_firstStep_67 rfl rfl ?_
      obtain ⟨y6, e_y6, e⟩ := o_b_ex e
      refine g_cv k_Mod_firstStep_68 lv_Mod_336 (by decide +kernel) (T := F_Mod) (N := 61) (ci := 10) rfl (sk_Mod s) (s_Mod_costOf (bc := 0) (bs := 0) s (x1 / 32) x2 m e_y6 (by omega)) rfl rfl (Nat.le_of_ble_eq_true rfl) (by simp [Value.category]) (by omega) (by omega) (by omega) ?_
      refine g_imul k_Mod_firstStep_71 ?_
      refine g_iadd k_Mod_firstStep_72 ?_
      obtain ⟨y7, u_y7, e⟩ := o_let_ex e
      refine G.vy u_y7 ?_
      refine g_iconst (v := 1) k_Mod_firstStep_73 rfl ?_
      refine g_iadd k_Mod_firstStep_74 ?_
      refine g_aload_n k_Mod_firstStep_75 rfl rfl ?_
      refine p_getr k_Mod_firstStep_76 fl_Mod_87 rfl (sk_Mod s) (by decide) (sr_Mod_43 s) ?_
      refine g_iload_n k_Mod_firstStep_79 rfl rfl ?_
      obtain ⟨q8, e⟩ := o_gd_ex e
      refine p_iald k_Mod_firstStep_80 (sa_Mod_43 s) (inb_in q8) (j := x1.toNatClampNeg) rfl ?_
      refine g_icmp_eq (tgt := 90) k_Mod_firstStep_81 (by decide) (fun c => ?_) (fun c => ?_)
      · rw [if_pos c] at e
        refine g_iload_n k_Mod_firstStep_90 rfl rfl ?_
        refine g_iret k_Mod_firstStep_91 rfl ?_
        exact (by cases e; exact hq)
      · rw [if_neg c] at e
        exact (t_Mod_firstStep_84 s F m rec_2 hr_2 x1 x2  hq e hd)
def ll_Mod_firstStep_2 (F : Nat) : Nat → Int32 → Int32 → aM → Option Int32
  | 0, _, _, _ => none
  | N + 1, x1, x2, m => lb_Mod_firstStep_2 F (ll_Mod_firstStep_2 F N) x1 x2 m
theorem t_Mod_firstStep_2 {K : aK} {d bc bs : Nat} {g : aG} (s : SyM g) {Q : aQ} {r : Int32} (F : Nat) (m : aM) : ∀ (N : Nat) (x1 : Int32) (x2 : Int32), Q (.inl (some (.int r))) (g, m) → ll_Mod_firstStep_2 F N x1 x2 m = some r → 3 ≤ d → G K M_Mod_firstStep d bc bs 2 [.ref 242, .int x1, .int x2] [] (g, m) Q
  | 0, _, _ => fun _ e => nomatch e
  | N + 1, x1, x2 => fun hq e hd => tb_Mod_firstStep_2 s F m (ll_Mod_firstStep_2 F N) (fun x1 x2 e => t_Mod_firstStep_2 s F m N x1 x2 hq e hd) x1 x2 hq e hd
def f_Mod_firstStep (F : Nat) (x1 : Int32) (m : aM) : Option Int32 :=
  ll_Mod_firstStep_2 F F x1 0 m
theorem s_Mod_firstStep {K : aK} {d bc bs : Nat} {g : aG} (s : SyM g) (F : Nat) (x1 : Int32) (m : aM) {r : Int32} (e : f_Mod_firstStep F x1 m = some r) (hd : 3 ≤ d) : Sp K M_Mod_firstStep d bc bs [.ref 242, .int x1] (g, m) (some (.int r)) (g, m) := by
  refine sp_of ok_Mod_firstStep rfl (Nat.le_of_ble_eq_true rfl) (by simp [Value.category]) (fun Q hq => ?_)
  unfold f_Mod_firstStep at e
  refine g_iconst (v := 0) k_Mod_firstStep_0 rfl ?_
  refine g_istore_n k_Mod_firstStep_1 rfl (by decide) ?_
  exact (t_Mod_firstStep_2 s F m F x1 0  hq e hd)
def lb_Mod_way_111 (F : Nat) (rec_111 : Int32 → Int32 → Int32 → aM → Option (Int32 × aM)) (x3 : Int32) (x4 : Int32) (x5 : Int32) (m : aM) : Option (Int32 × aM) :=
  o_gd (inb x4 6912) <|
  (if (m 8471 x4.toNatClampNeg) ≤ 0 then
  some ((-1), m)
  else
  o_b (f_Mod_firstStep F x4 m) fun y2 =>
  (if x5 = x3 then
  some (y2, m)
  else
  o_b (f_Mod_stepTo (x4 / 32) (x4 % 32) y2 m) fun y3 =>
  rec_111 x3 y3 (x5 + 1) m
  )
  )
theorem tb_Mod_way_111 {K : aK} {d bc bs : Nat} {g : aG} (s : SyM g) {Q : aQ} {r : Int32} {m' : aM} (F : Nat) (rec_111 : Int32 → Int32 → Int32 → aM → Option (Int32 × aM)) (hr_111 : ∀ (x3 : Int32) (x4 : Int32) (x5 : Int32) (m : aM), rec_111 x3 x4 x5 m = some (r, m') → G K M_Mod_way d bc bs 111 [.ref 242, .double 0, .double 0, .int x3, .int x4, .int x5, .double 0] [] (g, m) Q) (x3 : Int32) (x4 : Int32) (x5 : Int32) (m : aM) (hq : Q (.inl (some (.int r))) (g, m')) (e : lb_Mod_way_111 F rec_111 x3 x4 x5 m = some (r, m')) (hd : 4 ≤ d) : G K M_Mod_way d bc bs 111 [.ref 242, .double 0, .double 0, .int x3, .int x4, .int x5, .double 0] [] (g, m) Q := by
  unfold lb_Mod_way_111 at e
  refine g_aload_n k_Mod_way_111 rfl rfl ?_
  refine p_getr k_Mod_way_112 fl_Mod_87 rfl (sk_Mod s) (by decide) (sr_Mod_43 s) ?_
  refine g_iload k_Mod_way_115 rfl ?_
  obtain ⟨q1, e⟩ := o_gd_ex e
  refine p_iald k_Mod_way_117 (sa_Mod_43 s) (inb_in q1) (j := x4.toNatClampNeg) rfl ?_
  refine g_if_le (tgt := 162) k_Mod_way_118 (by decide) (fun c => ?_) (fun c => ?_)
  · rw [if_pos c] at e
    refine g_iconst (v := (-1)) k_Mod_way_162 rfl ?_
    refine g_iret k_Mod_way_163 rfl ?_
    exact (by cases e; exact hq)
  · rw [if_neg c] at e
    refine g_aload_n k_Mod_way_121 rfl rfl ?_
    refine g_iload k_Mod_way_122 rfl ?_
    obtain ⟨y2, e_y2, e⟩ := o_b_ex e
    refine g_cv k_Mod_way_124 lv_Mod_342 (by decide +kernel) (T := F_Mod) (N := 61) (ci := 10) rfl (sk_Mod s) (s_Mod_firstStep (bc := 0) (bs := 0) s F x4 m e_y2 (by omega)) rfl rfl (Nat.le_of_ble_eq_true rfl) (by simp [Value.category]) (by omega) (by omega) (by omega) ?_
    refine g_istore k_Mod_way_127 (by decide) ?_
    refine g_iload k_Mod_way_129 rfl ?_
    refine g_iload_n k_Mod_way_131 rfl rfl ?_
    refine g_icmp_ne (tgt := 138) k_Mod_way_132 (by decide) (fun c => ?_) (fun c => ?_)
    · rw [if_pos c] at e
      refine g_iload k_Mod_way_135 rfl ?_
      refine g_iret k_Mod_way_137 rfl ?_
      exact (by cases e; exact hq)
    · rw [if_neg c] at e
      refine g_aload_n k_Mod_way_138 rfl rfl ?_
      refine g_iload k_Mod_way_139 rfl ?_
      refine g_bipush (v := 32) k_Mod_way_141 rfl ?_
      refine g_idiv k_Mod_way_143 (by decide) ?_
      refine g_iload k_Mod_way_144 rfl ?_
      refine g_bipush (v := 32) k_Mod_way_146 rfl ?_
      refine g_irem k_Mod_way_148 (by decide) ?_
      refine g_iload k_Mod_way_149 rfl ?_
      obtain ⟨y3, e_y3, e⟩ := o_b_ex e
      refine g_cv k_Mod_way_151 lv_Mod_332 (by decide +kernel) (T := F_Mod) (N := 61) (ci := 10) rfl (sk_Mod s) (s_Mod_stepTo (bc := 0) (bs := 0) s (x4 / 32) (x4 % 32) y2 m e_y3 (by omega)) rfl rfl (Nat.le_of_ble_eq_true rfl) (by simp [Value.category]) (by omega) (by omega) (by omega) ?_
      refine g_istore k_Mod_way_154 (by decide) ?_
      refine g_iinc (v := _ + 1) k_Mod_way_156 rfl rfl (by decide) ?_
      refine g_goto (tgt := 111) k_Mod_way_159 (by decide) ?_
      exact G.wl (wls (wls (wls (wls (wls (wls (wld wl0))))))) (hr_111 x3 y3 (x5 + 1) m e)
def ll_Mod_way_111 (F : Nat) : Nat → Int32 → Int32 → Int32 → aM → Option (Int32 × aM)
  | 0, _, _, _, _ => none
  | N + 1, x3, x4, x5, m => lb_Mod_way_111 F (ll_Mod_way_111 F N) x3 x4 x5 m
theorem t_Mod_way_111 {K : aK} {d bc bs : Nat} {g : aG} (s : SyM g) {Q : aQ} {r : Int32} {m' : aM} (F : Nat) : ∀ (N : Nat) (x3 : Int32) (x4 : Int32) (x5 : Int32) (m : aM), Q (.inl (some (.int r))) (g, m') → ll_Mod_way_111 F N x3 x4 x5 m = some (r, m') → 4 ≤ d → G K M_Mod_way d bc bs 111 [.ref 242, .double 0, .double 0, .int x3, .int x4, .int x5, .double 0] [] (g, m) Q
  | 0, _, _, _, _ => fun _ e => nomatch e
  | N + 1, x3, x4, x5, m => fun hq e hd => tb_Mod_way_111 s F (ll_Mod_way_111 F N) (fun x3 x4 x5 m e => t_Mod_way_111 s F N x3 x4 x5 m hq e hd) x3 x4 x5 m hq e hd
def b_Mod_way_26 (F : Nat) (x1 : Int32) (x2 : Int32) (x3 : Int32) (xt0 : Int32) (m : aM) : Option (Int32 × aM) :=
  o_b2 (f_Mod_bad xt0 1 m) fun y1 m2 =>
  (if y1 = 0 then
  o_b (f_Mod_stands0 F x1 x2 m2) fun y3 =>
  (if y3 = 0 then
  some ((-1), m2)
  else
  o_b2 (f_Mod_findBest F 5 0 m2) fun y4 m5 =>
  o_gd (inb ((32 * x1) + x2) 6912) <|
  o_let ((m5 8471 (((32 * x1) + x2).toNatClampNeg))) fun y7 =>
  (if y7 = (-1) then
  some ((-1), m5)
  else
  (if 0 ≤ x3 then
  ll_Mod_way_111 F F x3 ((32 * x1) + x2) 0 m5
  else
  (if x3 = (-1) then
  o_gd (inb ((32 * x1) + x2) 6912) <|
  o_let ((m5 8471 (((32 * x1) + x2).toNatClampNeg))) fun y9 =>
  some ((y9 / 10000), m5)
  else
  o_gd (inb ((32 * x1) + x2) 6912) <|
  o_let ((m5 8471 (((32 * x1) + x2).toNatClampNeg))) fun y11 =>
  some ((y11 % 10000), m5)
  )
  )
  )
  )
  else
  some (0, m2)
  )
theorem t_Mod_way_26 {K : aK} {d bc bs : Nat} {g : aG} (s : SyM g) {Q : aQ} {r : Int32} {m' : aM} (F : Nat) (x1 : Int32) (x2 : Int32) (x3 : Int32) (xt0 : Int32) (m : aM) (hq : Q (.inl (some (.int r))) (g, m')) (e : b_Mod_way_26 F x1 x2 x3 xt0 m = some (r, m')) (hd : 4 ≤ d) : G K M_Mod_way d bc bs 26 [.ref 242, .int x1, .int x2, .int x3, .double 0, .double 0, .double 0] [.int xt0, .ref 242] (g, m) Q := by
  unfold b_Mod_way_26 at e
  refine g_iconst (v := 1) k_Mod_way_26 rfl ?_
  obtain ⟨y1, m2, e_y1, e⟩ := o_b2_ex e
  refine g_cv k_Mod_way_27 lv_Mod_240 (by decide +kernel) (T := F_Mod) (N := 61) (ci := 10) rfl (sk_Mod s) (s_Mod_bad (bc := 0) (bs := 0) s xt0 1 m e_y1) rfl rfl (Nat.le_of_ble_eq_true rfl) (by simp [Value.category]) (by omega) (by omega) (by omega) ?_
  refine g_if_eq (tgt := 35) k_Mod_way_30 (by decide) (fun c => ?_) (fun c => ?_)
  · rw [if_pos c] at e
    refine g_aload_n k_Mod_way_35 rfl rfl ?_
    refine g_iload_n k_Mod_way_36 rfl rfl ?_
    refine g_iload_n k_Mod_way_37 rfl rfl ?_
    obtain ⟨y3, e_y3, e⟩ := o_b_ex e
    refine g_cv k_Mod_way_38 lv_Mod_329 (by decide +kernel) (T := F_Mod) (N := 61) (ci := 10) rfl (sk_Mod s) (s_Mod_stands0 (bc := 0) (bs := 0) s F x1 x2 m2 e_y3 (by omega)) rfl rfl (Nat.le_of_ble_eq_true rfl) (by simp [Value.category]) (by omega) (by omega) (by omega) ?_
    refine g_if_ne (tgt := 46) k_Mod_way_41 (by decide) (fun c => ?_) (fun c => ?_)
    · rw [if_pos c] at e
      refine g_iconst (v := (-1)) k_Mod_way_44 rfl ?_
      refine g_iret k_Mod_way_45 rfl ?_
      exact (by cases e; exact hq)
    · rw [if_neg c] at e
      refine g_aload_n k_Mod_way_46 rfl rfl ?_
      refine g_iconst (v := 5) k_Mod_way_47 rfl ?_
      refine g_iconst (v := 0) k_Mod_way_48 rfl ?_
      obtain ⟨y4, m5, e_y4, e⟩ := o_b2_ex e
      refine g_cv k_Mod_way_49 lv_Mod_339 (by decide +kernel) (T := F_Mod) (N := 61) (ci := 10) rfl (sk_Mod s) (s_Mod_findBest (bc := 0) (bs := 0) s F 5 0 m2 e_y4 (by omega)) rfl rfl (Nat.le_of_ble_eq_true rfl) (by simp [Value.category]) (by omega) (by omega) (by omega) ?_
      refine g_bipush (v := 32) k_Mod_way_52 rfl ?_
      refine g_iload_n k_Mod_way_54 rfl rfl ?_
      refine g_imul k_Mod_way_55 ?_
      refine g_iload_n k_Mod_way_56 rfl rfl ?_
      refine g_iadd k_Mod_way_57 ?_
      refine g_istore k_Mod_way_58 (by decide) ?_
      refine g_aload_n k_Mod_way_60 rfl rfl ?_
      refine p_getr k_Mod_way_61 fl_Mod_87 rfl (sk_Mod s) (by decide) (sr_Mod_43 s) ?_
      refine g_iload k_Mod_way_64 rfl ?_
      obtain ⟨q6, e⟩ := o_gd_ex e
      refine p_iald k_Mod_way_66 (sa_Mod_43 s) (inb_in q6) (j := ((32 * x1) + x2).toNatClampNeg) rfl ?_
      obtain ⟨y7, u_y7, e⟩ := o_let_ex e
      refine G.vy u_y7 ?_
      refine g_iconst (v := (-1)) k_Mod_way_67 rfl ?_
      refine g_icmp_ne (tgt := 73) k_Mod_way_68 (by decide) (fun c => ?_) (fun c => ?_)
      · rw [if_pos c] at e
        refine g_iconst (v := (-1)) k_Mod_way_71 rfl ?_
        refine g_iret k_Mod_way_72 rfl ?_
        exact (by cases e; exact hq)
      · rw [if_neg c] at e
        refine g_iload_n k_Mod_way_73 rfl rfl ?_
        refine g_if_ge (tgt := 108) k_Mod_way_74 (by decide) (fun c => ?_) (fun c => ?_)
        · rw [if_pos c] at e
          refine g_iconst (v := 0) k_Mod_way_108 rfl ?_
          refine g_istore k_Mod_way_109 (by decide) ?_
          exact G.wl (wls (wld (wld (wls (wls (wls (wls wl0))))))) (t_Mod_way_111 s F F x3 ((32 * x1) + x2) 0 m5 hq e hd)
        · rw [if_neg c] at e
          refine g_iload_n k_Mod_way_77 rfl rfl ?_
          refine g_iconst (v := (-1)) k_Mod_way_78 rfl ?_
          refine g_icmp_ne (tgt := 96) k_Mod_way_79 (by decide) (fun c => ?_) (fun c => ?_)
          · rw [if_pos c] at e
            refine g_aload_n k_Mod_way_82 rfl rfl ?_
            refine p_getr k_Mod_way_83 fl_Mod_87 rfl (sk_Mod s) (by decide) (sr_Mod_43 s) ?_
            refine g_iload k_Mod_way_86 rfl ?_
            obtain ⟨q8, e⟩ := o_gd_ex e
            refine p_iald k_Mod_way_88 (sa_Mod_43 s) (inb_in q8) (j := ((32 * x1) + x2).toNatClampNeg) rfl ?_
            obtain ⟨y9, u_y9, e⟩ := o_let_ex e
            refine G.vy u_y9 ?_
            refine g_sipush (v := 10000) k_Mod_way_89 rfl ?_
            refine g_idiv k_Mod_way_92 (by decide) ?_
            refine g_goto (tgt := 107) k_Mod_way_93 (by decide) ?_
            refine g_iret k_Mod_way_107 rfl ?_
            exact (by cases e; exact hq)
          · rw [if_neg c] at e
            refine g_aload_n k_Mod_way_96 rfl rfl ?_
            refine p_getr k_Mod_way_97 fl_Mod_87 rfl (sk_Mod s) (by decide) (sr_Mod_43 s) ?_
            refine g_iload k_Mod_way_100 rfl ?_
            obtain ⟨q10, e⟩ := o_gd_ex e
            refine p_iald k_Mod_way_102 (sa_Mod_43 s) (inb_in q10) (j := ((32 * x1) + x2).toNatClampNeg) rfl ?_
            obtain ⟨y11, u_y11, e⟩ := o_let_ex e
            refine G.vy u_y11 ?_
            refine g_sipush (v := 10000) k_Mod_way_103 rfl ?_
            refine g_irem k_Mod_way_106 (by decide) ?_
            refine g_iret k_Mod_way_107 rfl ?_
            exact (by cases e; exact hq)
  · rw [if_neg c] at e
    refine g_iconst (v := 0) k_Mod_way_33 rfl ?_
    refine g_iret k_Mod_way_34 rfl ?_
    exact (by cases e; exact hq)
def b_Mod_way_21 (F : Nat) (x1 : Int32) (x2 : Int32) (x3 : Int32) (m : aM) : Option (Int32 × aM) :=
  b_Mod_way_26 F x1 x2 x3 1 m
theorem t_Mod_way_21 {K : aK} {d bc bs : Nat} {g : aG} (s : SyM g) {Q : aQ} {r : Int32} {m' : aM} (F : Nat) (x1 : Int32) (x2 : Int32) (x3 : Int32) (m : aM) (hq : Q (.inl (some (.int r))) (g, m')) (e : b_Mod_way_21 F x1 x2 x3 m = some (r, m')) (hd : 4 ≤ d) : G K M_Mod_way d bc bs 21 [.ref 242, .int x1, .int x2, .int x3, .double 0, .double 0, .double 0] [.ref 242] (g, m) Q := by
  unfold b_Mod_way_21 at e
  refine g_iconst (v := 1) k_Mod_way_21 rfl ?_
  refine g_goto (tgt := 26) k_Mod_way_22 (by decide) ?_
  exact (t_Mod_way_26 s F x1 x2 x3 1 m hq e hd)
def f_Mod_way (F : Nat) (x1 : Int32) (x2 : Int32) (x3 : Int32) (m : aM) : Option (Int32 × aM) :=
  o_let (a_st m 242 0 0) fun m1 =>
  o_b (f_Mod_isNode x1 x2 m1) fun y2 =>
  (if y2 = 0 then
  b_Mod_way_21 F x1 x2 x3 m1
  else
  (if (-2) ≤ x3 then
  b_Mod_way_26 F x1 x2 x3 0 m1
  else
  b_Mod_way_21 F x1 x2 x3 m1
  )
  )
theorem s_Mod_way {K : aK} {d bc bs : Nat} {g : aG} (s : SyM g) (F : Nat) (x1 : Int32) (x2 : Int32) (x3 : Int32) (m : aM) {r : Int32} {m' : aM} (e : f_Mod_way F x1 x2 x3 m = some (r, m')) (hd : 4 ≤ d) : Sp K M_Mod_way d bc bs [.ref 242, .int x1, .int x2, .int x3] (g, m) (some (.int r)) (g, m') := by
  refine sp_of ok_Mod_way rfl (Nat.le_of_ble_eq_true rfl) (by simp [Value.category]) (fun Q hq => ?_)
  unfold f_Mod_way at e
  refine g_aload_n k_Mod_way_0 rfl rfl ?_
  refine g_iconst (v := 0) k_Mod_way_1 rfl ?_
  refine p_puti k_Mod_way_2 fl_Mod_131 rfl ⟨R_Mod, F_Mod, 61, rfl, Or.inl rfl⟩ (sk_Mod s) (by decide) ?_
  obtain ⟨m1, u_m1, e⟩ := o_let_ex e
  refine G.hm u_m1 ?_
  refine g_aload_n k_Mod_way_5 rfl rfl ?_
  refine g_aload_n k_Mod_way_6 rfl rfl ?_
  refine g_iload_n k_Mod_way_7 rfl rfl ?_
  refine g_iload_n k_Mod_way_8 rfl rfl ?_
  obtain ⟨y2, e_y2, e⟩ := o_b_ex e
  refine g_cv k_Mod_way_9 lv_Mod_325 (by decide +kernel) (T := F_Mod) (N := 61) (ci := 10) rfl (sk_Mod s) (s_Mod_isNode (bc := 0) (bs := 0) s x1 x2 m1 e_y2 (by omega)) rfl rfl (Nat.le_of_ble_eq_true rfl) (by simp [Value.category]) (by omega) (by omega) (by omega) ?_
  refine g_if_eq (tgt := 21) k_Mod_way_12 (by decide) (fun c => ?_) (fun c => ?_)
  · rw [if_pos c] at e
    exact (t_Mod_way_21 s F x1 x2 x3 m1 hq e hd)
  · rw [if_neg c] at e
    refine g_iload_n k_Mod_way_15 rfl rfl ?_
    refine g_bipush (v := (-2)) k_Mod_way_16 rfl ?_
    refine g_icmp_ge (tgt := 25) k_Mod_way_18 (by decide) (fun c => ?_) (fun c => ?_)
    · rw [if_pos c] at e
      refine g_iconst (v := 0) k_Mod_way_25 rfl ?_
      exact (t_Mod_way_26 s F x1 x2 x3 0 m1 hq e hd)
    · rw [if_neg c] at e
      exact (t_Mod_way_21 s F x1 x2 x3 m1 hq e hd)
def b_Mod_fewest_20 (F : Nat) (x1 : Int32) (x2 : Int32) (xt0 : Int32) (m : aM) : Option (Int32 × aM) :=
  o_b2 (f_Mod_bad xt0 1 m) fun y1 m2 =>
  (if y1 = 0 then
  o_b (f_Mod_stands0 F x1 x2 m2) fun y3 =>
  (if y3 = 0 then
  some ((-1), m2)
  else
  o_b2 (f_Mod_findBest F 5 1 m2) fun y4 m5 =>
  o_gd (inb ((32 * x1) + x2) 6912) <|
  o_let ((m5 8471 (((32 * x1) + x2).toNatClampNeg))) fun y7 =>
  some (y7, m5)
  )
  else
  some (0, m2)
  )
theorem t_Mod_fewest_20 {K : aK} {d bc bs : Nat} {g : aG} (s : SyM g) {Q : aQ} {r : Int32} {m' : aM} (F : Nat) (x1 : Int32) (x2 : Int32) (xt0 : Int32) (m : aM) (hq : Q (.inl (some (.int r))) (g, m')) (e : b_Mod_fewest_20 F x1 x2 xt0 m = some (r, m')) (hd : 4 ≤ d) : G K M_Mod_fewest d bc bs 20 [.ref 242, .int x1, .int x2] [.int xt0, .ref 242] (g, m) Q := by
  unfold b_Mod_fewest_20 at e
  refine g_iconst (v := 1) k_Mod_fewest_20 rfl ?_
  obtain ⟨y1, m2, e_y1, e⟩ := o_b2_ex e
  refine g_cv k_Mod_fewest_21 lv_Mod_240 (by decide +kernel) (T := F_Mod) (N := 61) (ci := 10) rfl (sk_Mod s) (s_Mod_bad (bc := 0) (bs := 0) s xt0 1 m e_y1) rfl rfl (Nat.le_of_ble_eq_true rfl) (by simp [Value.category]) (by omega) (by omega) (by omega) ?_
  refine g_if_eq (tgt := 29) k_Mod_fewest_24 (by decide) (fun c => ?_) (fun c => ?_)
  · rw [if_pos c] at e
    refine g_aload_n k_Mod_fewest_29 rfl rfl ?_
    refine g_iload_n k_Mod_fewest_30 rfl rfl ?_
    refine g_iload_n k_Mod_fewest_31 rfl rfl ?_
    obtain ⟨y3, e_y3, e⟩ := o_b_ex e
    refine g_cv k_Mod_fewest_32 lv_Mod_329 (by decide +kernel) (T := F_Mod) (N := 61) (ci := 10) rfl (sk_Mod s) (s_Mod_stands0 (bc := 0) (bs := 0) s F x1 x2 m2 e_y3 (by omega)) rfl rfl (Nat.le_of_ble_eq_true rfl) (by simp [Value.category]) (by omega) (by omega) (by omega) ?_
    refine g_if_ne (tgt := 40) k_Mod_fewest_35 (by decide) (fun c => ?_) (fun c => ?_)
    · rw [if_pos c] at e
      refine g_iconst (v := (-1)) k_Mod_fewest_38 rfl ?_
      refine g_iret k_Mod_fewest_39 rfl ?_
      exact (by cases e; exact hq)
    · rw [if_neg c] at e
      refine g_aload_n k_Mod_fewest_40 rfl rfl ?_
      refine g_iconst (v := 5) k_Mod_fewest_41 rfl ?_
      refine g_iconst (v := 1) k_Mod_fewest_42 rfl ?_
      obtain ⟨y4, m5, e_y4, e⟩ := o_b2_ex e
      refine g_cv k_Mod_fewest_43 lv_Mod_339 (by decide +kernel) (T := F_Mod) (N := 61) (ci := 10) rfl (sk_Mod s) (s_Mod_findBest (bc := 0) (bs := 0) s F 5 1 m2 e_y4 (by omega)) rfl rfl (Nat.le_of_ble_eq_true rfl) (by simp [Value.category]) (by omega) (by omega) (by omega) ?_
      refine g_aload_n k_Mod_fewest_46 rfl rfl ?_
      refine p_getr k_Mod_fewest_47 fl_Mod_87 rfl (sk_Mod s) (by decide) (sr_Mod_43 s) ?_
      refine g_bipush (v := 32) k_Mod_fewest_50 rfl ?_
      refine g_iload_n k_Mod_fewest_52 rfl rfl ?_
      refine g_imul k_Mod_fewest_53 ?_
      refine g_iload_n k_Mod_fewest_54 rfl rfl ?_
      refine g_iadd k_Mod_fewest_55 ?_
      obtain ⟨q6, e⟩ := o_gd_ex e
      refine p_iald k_Mod_fewest_56 (sa_Mod_43 s) (inb_in q6) (j := ((32 * x1) + x2).toNatClampNeg) rfl ?_
      obtain ⟨y7, u_y7, e⟩ := o_let_ex e
      refine G.vy u_y7 ?_
      refine g_iret k_Mod_fewest_57 rfl ?_
      exact (by cases e; exact hq)
  · rw [if_neg c] at e
    refine g_iconst (v := 0) k_Mod_fewest_27 rfl ?_
    refine g_iret k_Mod_fewest_28 rfl ?_
    exact (by cases e; exact hq)
def f_Mod_fewest (F : Nat) (x1 : Int32) (x2 : Int32) (m : aM) : Option (Int32 × aM) :=
  o_let (a_st m 242 0 0) fun m1 =>
  o_b (f_Mod_isNode x1 x2 m1) fun y2 =>
  (if y2 = 0 then
  b_Mod_fewest_20 F x1 x2 1 m1
  else
  b_Mod_fewest_20 F x1 x2 0 m1
  )
theorem s_Mod_fewest {K : aK} {d bc bs : Nat} {g : aG} (s : SyM g) (F : Nat) (x1 : Int32) (x2 : Int32) (m : aM) {r : Int32} {m' : aM} (e : f_Mod_fewest F x1 x2 m = some (r, m')) (hd : 4 ≤ d) : Sp K M_Mod_fewest d bc bs [.ref 242, .int x1, .int x2] (g, m) (some (.int r)) (g, m') := by
  refine sp_of ok_Mod_fewest rfl (Nat.le_of_ble_eq_true rfl) (by simp [Value.category]) (fun Q hq => ?_)
  unfold f_Mod_fewest at e
  refine g_aload_n k_Mod_fewest_0 rfl rfl ?_
  refine g_iconst (v := 0) k_Mod_fewest_1 rfl ?_
  refine p_puti k_Mod_fewest_2 fl_Mod_131 rfl ⟨R_Mod, F_Mod, 61, rfl, Or.inl rfl⟩ (sk_Mod s) (by decide) ?_
  obtain ⟨m1, u_m1, e⟩ := o_let_ex e
  refine G.hm u_m1 ?_
  refine g_aload_n k_Mod_fewest_5 rfl rfl ?_
  refine g_aload_n k_Mod_fewest_6 rfl rfl ?_
  refine g_iload_n k_Mod_fewest_7 rfl rfl ?_
  refine g_iload_n k_Mod_fewest_8 rfl rfl ?_
  obtain ⟨y2, e_y2, e⟩ := o_b_ex e
  refine g_cv k_Mod_fewest_9 lv_Mod_325 (by decide +kernel) (T := F_Mod) (N := 61) (ci := 10) rfl (sk_Mod s) (s_Mod_isNode (bc := 0) (bs := 0) s x1 x2 m1 e_y2 (by omega)) rfl rfl (Nat.le_of_ble_eq_true rfl) (by simp [Value.category]) (by omega) (by omega) (by omega) ?_
  refine g_if_ne (tgt := 19) k_Mod_fewest_12 (by decide) (fun c => ?_) (fun c => ?_)
  · rw [if_pos c] at e
    refine g_iconst (v := 1) k_Mod_fewest_15 rfl ?_
    refine g_goto (tgt := 20) k_Mod_fewest_16 (by decide) ?_
    exact (t_Mod_fewest_20 s F x1 x2 1 m1 hq e hd)
  · rw [if_neg c] at e
    refine g_iconst (v := 0) k_Mod_fewest_19 rfl ?_
    exact (t_Mod_fewest_20 s F x1 x2 0 m1 hq e hd)
