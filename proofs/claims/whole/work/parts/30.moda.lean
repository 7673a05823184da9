/-! the reference (made by wip/gen/auto2.py) -/
def f_Mod_thrown  (m : aM) : Option Int32 :=
  some (m 242 0)
theorem s_Mod_thrown {K : aK} {d bc bs : Nat} {g : aG} (s : SyM g)  (m : aM) {r : Int32} (e : f_Mod_thrown  m = some r) : Sp K M_Mod_thrown d bc bs [.ref 242] (g, m) (some (.int r)) (g, m) := by
  refine sp_of ok_Mod_thrown rfl (Nat.le_of_ble_eq_true rfl) (by simp [Value.category]) (fun Q hq => ?_)
  unfold f_Mod_thrown at e
  refine g_aload_n k_Mod_thrown_0 rfl rfl ?_
  refine p_geti k_Mod_thrown_1 fl_Mod_131 rfl (sk_Mod s) (by decide) ?_
  refine g_iret k_Mod_thrown_4 rfl ?_
  exact (by cases e; exact hq)
def b_Mod_feed_76 (F : Nat) (rec_23 : Int32 → Int32 → Int32 → Int32 → Int32 → Int32 → aM → Option (Int32 × aM)) (x1 : Int32) (x2 : Int32) (x3 : Int32) (x4 : Int32) (x5 : Int32) (x6 : Int32) (xt0 : Int32) (m : aM) : Option (Int32 × aM) :=
  o_let (((xt0 : Int32) >>> ((24 - (8 * (x6 % 4))) &&& 31))) fun y1 =>
  o_gd (inb (m 242 1) 400) <|
  o_let (a_st m 243 ((m 242 1).toNatClampNeg) (y1 &&& 255)) fun m3 =>
  o_let (a_st m3 242 1 ((m3 242 1) + 1)) fun m4 =>
  rec_23 x1 x2 x3 x4 x5 (x6 + 1) m4
theorem t_Mod_feed_76 {K : aK} {d bc bs : Nat} {g : aG} (s : SyM g) {Q : aQ} {r : Int32} {m' : aM} (F : Nat) (rec_23 : Int32 → Int32 → Int32 → Int32 → Int32 → Int32 → aM → Option (Int32 × aM)) (hr_23 : ∀ (x1 : Int32) (x2 : Int32) (x3 : Int32) (x4 : Int32) (x5 : Int32) (x6 : Int32) (m : aM), rec_23 x1 x2 x3 x4 x5 x6 m = some (r, m') → G K M_Mod_feed d bc bs 23 [.ref 242, .int x1, .int x2, .int x3, .int x4, .int x5, .int x6, .double 0] [] (g, m) Q) (x1 : Int32) (x2 : Int32) (x3 : Int32) (x4 : Int32) (x5 : Int32) (x6 : Int32) (xt0 : Int32) (m : aM) (hq : Q (.inl (some (.int r))) (g, m')) (e : b_Mod_feed_76 F rec_23 x1 x2 x3 x4 x5 x6 xt0 m = some (r, m')) : G K M_Mod_feed d bc bs 76 [.ref 242, .int x1, .int x2, .int x3, .int x4, .int x5, .int x6, .double 0] [.int xt0] (g, m) Q := by
  unfold b_Mod_feed_76 at e
  refine g_istore k_Mod_feed_76 (by decide) ?_
  refine g_aload_n k_Mod_feed_78 rfl rfl ?_
  refine p_getr k_Mod_feed_79 fl_Mod_15 rfl (sk_Mod s) (by decide) (sr_Mod_8 s) ?_
  refine g_aload_n k_Mod_feed_82 rfl rfl ?_
  refine p_geti k_Mod_feed_83 fl_Mod_134 rfl (sk_Mod s) (by decide) ?_
  refine g_iload k_Mod_feed_86 rfl ?_
  refine g_bipush (v := 24) k_Mod_feed_88 rfl ?_
  refine g_bipush (v := 8) k_Mod_feed_90 rfl ?_
  refine g_iload k_Mod_feed_92 rfl ?_
  refine g_iconst (v := 4) k_Mod_feed_94 rfl ?_
  refine g_irem k_Mod_feed_95 (by decide) ?_
  refine g_imul k_Mod_feed_96 ?_
  refine g_isub k_Mod_feed_97 ?_
  refine g_ishr k_Mod_feed_98 ?_
  obtain ⟨y1, u_y1, e⟩ := o_let_ex e
  refine G.vy u_y1 ?_
  refine g_sipush (v := 255) k_Mod_feed_99 rfl ?_
  refine g_iand k_Mod_feed_102 ?_
  obtain ⟨q2, e⟩ := o_gd_ex e
  refine p_iast k_Mod_feed_103 (sa_Mod_8 s) (inb_in q2) (j := (m 242 1).toNatClampNeg) rfl ?_
  obtain ⟨m3, u_m3, e⟩ := o_let_ex e
  refine G.hm u_m3 ?_
  refine g_aload_n k_Mod_feed_104 rfl rfl ?_
  refine g_dup k_Mod_feed_105 rfl ?_
  refine p_geti k_Mod_feed_106 fl_Mod_134 rfl (sk_Mod s) (by decide) ?_
  refine g_iconst (v := 1) k_Mod_feed_109 rfl ?_
  refine g_iadd k_Mod_feed_110 ?_
  refine p_puti k_Mod_feed_111 fl_Mod_134 rfl ⟨R_Mod, F_Mod, 61, rfl, Or.inl rfl⟩ (sk_Mod s) (by decide) ?_
  obtain ⟨m4, u_m4, e⟩ := o_let_ex e
  refine G.hm u_m4 ?_
  refine g_iinc (v := _ + 1) k_Mod_feed_114 rfl rfl (by decide) ?_
  refine g_goto (tgt := 23) k_Mod_feed_117 (by decide) ?_
  exact G.wl (wls (wls (wls (wls (wls (wls (wls (wld wl0)))))))) (hr_23 x1 x2 x3 x4 x5 (x6 + 1) m4 e)
def lb_Mod_feed_23 (F : Nat) (rec_23 : Int32 → Int32 → Int32 → Int32 → Int32 → Int32 → aM → Option (Int32 × aM)) (x1 : Int32) (x2 : Int32) (x3 : Int32) (x4 : Int32) (x5 : Int32) (x6 : Int32) (m : aM) : Option (Int32 × aM) :=
  (if 20 ≤ x6 then
  some ((m 242 1), m)
  else
  (if 4 ≤ x6 then
  (if 8 ≤ x6 then
  (if 12 ≤ x6 then
  (if 16 ≤ x6 then
  b_Mod_feed_76 F rec_23 x1 x2 x3 x4 x5 x6 x5 m
  else
  b_Mod_feed_76 F rec_23 x1 x2 x3 x4 x5 x6 x4 m
  )
  else
  b_Mod_feed_76 F rec_23 x1 x2 x3 x4 x5 x6 x3 m
  )
  else
  b_Mod_feed_76 F rec_23 x1 x2 x3 x4 x5 x6 x2 m
  )
  else
  b_Mod_feed_76 F rec_23 x1 x2 x3 x4 x5 x6 x1 m
  )
  )
theorem tb_Mod_feed_23 {K : aK} {d bc bs : Nat} {g : aG} (s : SyM g) {Q : aQ} {r : Int32} {m' : aM} (F : Nat) (rec_23 : Int32 → Int32 → Int32 → Int32 → Int32 → Int32 → aM → Option (Int32 × aM)) (hr_23 : ∀ (x1 : Int32) (x2 : Int32) (x3 : Int32) (x4 : Int32) (x5 : Int32) (x6 : Int32) (m : aM), rec_23 x1 x2 x3 x4 x5 x6 m = some (r, m') → G K M_Mod_feed d bc bs 23 [.ref 242, .int x1, .int x2, .int x3, .int x4, .int x5, .int x6, .double 0] [] (g, m) Q) (x1 : Int32) (x2 : Int32) (x3 : Int32) (x4 : Int32) (x5 : Int32) (x6 : Int32) (m : aM) (hq : Q (.inl (some (.int r))) (g, m')) (e : lb_Mod_feed_23 F rec_23 x1 x2 x3 x4 x5 x6 m = some (r, m')) : G K M_Mod_feed d bc bs 23 [.ref 242, .int x1, .int x2, .int x3, .int x4, .int x5, .int x6, .double 0] [] (g, m) Q := by
  unfold lb_Mod_feed_23 at e
  refine g_iload k_Mod_feed_23 rfl ?_
  refine g_bipush (v := 20) k_Mod_feed_25 rfl ?_
  refine g_icmp_ge (tgt := 120) k_Mod_feed_27 (by decide) (fun c => ?_) (fun c => ?_)
  · rw [if_pos c] at e
    refine g_aload_n k_Mod_feed_120 rfl rfl ?_
    refine p_geti k_Mod_feed_121 fl_Mod_134 rfl (sk_Mod s) (by decide) ?_
    refine g_iret k_Mod_feed_124 rfl ?_
    exact (by cases e; exact hq)
  · rw [if_neg c] at e
    refine g_iload k_Mod_feed_30 rfl ?_
    refine g_iconst (v := 4) k_Mod_feed_32 rfl ?_
    refine g_icmp_ge (tgt := 40) k_Mod_feed_33 (by decide) (fun c => ?_) (fun c => ?_)
    · rw [if_pos c] at e
      refine g_iload k_Mod_feed_40 rfl ?_
      refine g_bipush (v := 8) k_Mod_feed_42 rfl ?_
      refine g_icmp_ge (tgt := 51) k_Mod_feed_44 (by decide) (fun c => ?_) (fun c => ?_)
      · rw [if_pos c] at e
        refine g_iload k_Mod_feed_51 rfl ?_
        refine g_bipush (v := 12) k_Mod_feed_53 rfl ?_
        refine g_icmp_ge (tgt := 62) k_Mod_feed_55 (by decide) (fun c => ?_) (fun c => ?_)
        · rw [if_pos c] at e
          refine g_iload k_Mod_feed_62 rfl ?_
          refine g_bipush (v := 16) k_Mod_feed_64 rfl ?_
          refine g_icmp_ge (tgt := 74) k_Mod_feed_66 (by decide) (fun c => ?_) (fun c => ?_)
          · rw [if_pos c] at e
            refine g_iload k_Mod_feed_74 rfl ?_
            exact (t_Mod_feed_76 s F rec_23 hr_23 x1 x2 x3 x4 x5 x6 x5 m hq e)
          · rw [if_neg c] at e
            refine g_iload k_Mod_feed_69 rfl ?_
            refine g_goto (tgt := 76) k_Mod_feed_71 (by decide) ?_
            exact (t_Mod_feed_76 s F rec_23 hr_23 x1 x2 x3 x4 x5 x6 x4 m hq e)
        · rw [if_neg c] at e
          refine g_iload_n k_Mod_feed_58 rfl rfl ?_
          refine g_goto (tgt := 76) k_Mod_feed_59 (by decide) ?_
          exact (t_Mod_feed_76 s F rec_23 hr_23 x1 x2 x3 x4 x5 x6 x3 m hq e)
      · rw [if_neg c] at e
        refine g_iload_n k_Mod_feed_47 rfl rfl ?_
        refine g_goto (tgt := 76) k_Mod_feed_48 (by decide) ?_
        exact (t_Mod_feed_76 s F rec_23 hr_23 x1 x2 x3 x4 x5 x6 x2 m hq e)
    · rw [if_neg c] at e
      refine g_iload_n k_Mod_feed_36 rfl rfl ?_
      refine g_goto (tgt := 76) k_Mod_feed_37 (by decide) ?_
      exact (t_Mod_feed_76 s F rec_23 hr_23 x1 x2 x3 x4 x5 x6 x1 m hq e)
def ll_Mod_feed_23 (F : Nat) : Nat → Int32 → Int32 → Int32 → Int32 → Int32 → Int32 → aM → Option (Int32 × aM)
  | 0, _, _, _, _, _, _, _ => none
  | N + 1, x1, x2, x3, x4, x5, x6, m => lb_Mod_feed_23 F (ll_Mod_feed_23 F N) x1 x2 x3 x4 x5 x6 m
theorem t_Mod_feed_23 {K : aK} {d bc bs : Nat} {g : aG} (s : SyM g) {Q : aQ} {r : Int32} {m' : aM} (F : Nat) : ∀ (N : Nat) (x1 : Int32) (x2 : Int32) (x3 : Int32) (x4 : Int32) (x5 : Int32) (x6 : Int32) (m : aM), Q (.inl (some (.int r))) (g, m') → ll_Mod_feed_23 F N x1 x2 x3 x4 x5 x6 m = some (r, m') → G K M_Mod_feed d bc bs 23 [.ref 242, .int x1, .int x2, .int x3, .int x4, .int x5, .int x6, .double 0] [] (g, m) Q
  | 0, _, _, _, _, _, _, _ => fun _ e => nomatch e
  | N + 1, x1, x2, x3, x4, x5, x6, m => fun hq e => tb_Mod_feed_23 s F (ll_Mod_feed_23 F N) (fun x1 x2 x3 x4 x5 x6 m e => t_Mod_feed_23 s F N x1 x2 x3 x4 x5 x6 m hq e) x1 x2 x3 x4 x5 x6 m hq e
def f_Mod_feed (F : Nat) (x1 : Int32) (x2 : Int32) (x3 : Int32) (x4 : Int32) (x5 : Int32) (m : aM) : Option (Int32 × aM) :=
  o_let (a_st m 242 0 0) fun m1 =>
  (if ((m1 242 1) + 20) ≤ 400 then
  ll_Mod_feed_23 F F x1 x2 x3 x4 x5 0 m1
  else
  some ((-1), m1)
  )
theorem s_Mod_feed {K : aK} {d bc bs : Nat} {g : aG} (s : SyM g) (F : Nat) (x1 : Int32) (x2 : Int32) (x3 : Int32) (x4 : Int32) (x5 : Int32) (m : aM) {r : Int32} {m' : aM} (e : f_Mod_feed F x1 x2 x3 x4 x5 m = some (r, m')) : Sp K M_Mod_feed d bc bs [.ref 242, .int x1, .int x2, .int x3, .int x4, .int x5] (g, m) (some (.int r)) (g, m') := by
  refine sp_of ok_Mod_feed rfl (Nat.le_of_ble_eq_true rfl) (by simp [Value.category]) (fun Q hq => ?_)
  unfold f_Mod_feed at e
  refine g_aload_n k_Mod_feed_0 rfl rfl ?_
  refine g_iconst (v := 0) k_Mod_feed_1 rfl ?_
  refine p_puti k_Mod_feed_2 fl_Mod_131 rfl ⟨R_Mod, F_Mod, 61, rfl, Or.inl rfl⟩ (sk_Mod s) (by decide) ?_
  obtain ⟨m1, u_m1, e⟩ := o_let_ex e
  refine G.hm u_m1 ?_
  refine g_aload_n k_Mod_feed_5 rfl rfl ?_
  refine p_geti k_Mod_feed_6 fl_Mod_134 rfl (sk_Mod s) (by decide) ?_
  refine g_bipush (v := 20) k_Mod_feed_9 rfl ?_
  refine g_iadd k_Mod_feed_11 ?_
  refine g_sipush (v := 400) k_Mod_feed_12 rfl ?_
  refine g_icmp_le (tgt := 20) k_Mod_feed_15 (by decide) (fun c => ?_) (fun c => ?_)
  · rw [if_pos c] at e
    refine g_iconst (v := 0) k_Mod_feed_20 rfl ?_
    refine g_istore k_Mod_feed_21 (by decide) ?_
    exact (t_Mod_feed_23 s F F x1 x2 x3 x4 x5 0 m1 hq e)
  · rw [if_neg c] at e
    refine g_iconst (v := (-1)) k_Mod_feed_18 rfl ?_
    refine g_iret k_Mod_feed_19 rfl ?_
    exact (by cases e; exact hq)
def f_Mod_in (x0 : Int32) (x1 : Int32) (x2 : Int32) (m : aM) : Option Int32 :=
  (if x0 < x1 then
  some 0
  else
  (if x2 < x0 then
  some 0
  else
  some 1
  )
  )
theorem s_Mod_in {K : aK} {d bc bs : Nat} {g : aG} (s : SyM g) (x0 : Int32) (x1 : Int32) (x2 : Int32) (m : aM) {r : Int32} (e : f_Mod_in x0 x1 x2 m = some r) : Sp K M_Mod_in d bc bs [.int x0, .int x1, .int x2] (g, m) (some (.int r)) (g, m) := by
  refine sp_of ok_Mod_in rfl (Nat.le_of_ble_eq_true rfl) (by simp [Value.category]) (fun Q hq => ?_)
  unfold f_Mod_in at e
  refine g_iload_n k_Mod_in_0 rfl rfl ?_
  refine g_iload_n k_Mod_in_1 rfl rfl ?_
  refine g_icmp_lt (tgt := 14) k_Mod_in_2 (by decide) (fun c => ?_) (fun c => ?_)
  · rw [if_pos c] at e
    refine g_iconst (v := 0) k_Mod_in_14 rfl ?_
    refine g_zret k_Mod_in_15 rfl (by decide) ?_
    exact (by cases e; exact hq)
  · rw [if_neg c] at e
    refine g_iload_n k_Mod_in_5 rfl rfl ?_
    refine g_iload_n k_Mod_in_6 rfl rfl ?_
    refine g_icmp_gt (tgt := 14) k_Mod_in_7 (by decide) (fun c => ?_) (fun c => ?_)
    · rw [if_pos c] at e
      refine g_iconst (v := 0) k_Mod_in_14 rfl ?_
      refine g_zret k_Mod_in_15 rfl (by decide) ?_
      exact (by cases e; exact hq)
    · rw [if_neg c] at e
      refine g_iconst (v := 1) k_Mod_in_10 rfl ?_
      refine g_goto (tgt := 15) k_Mod_in_11 (by decide) ?_
      refine g_zret k_Mod_in_15 rfl (by decide) ?_
      exact (by cases e; exact hq)
def b_Mod_bad_16  (m : aM) : Option (Int32 × aM) :=
  (if (m 242 0) = 0 then
  some (0, m)
  else
  some (1, m)
  )
theorem t_Mod_bad_16 {K : aK} {d bc bs : Nat} {g : aG} (s : SyM g) {Q : aQ} {r : Int32} {m' : aM}  (m : aM) (hq : Q (.inl (some (.int r))) (g, m')) (e : b_Mod_bad_16  m = some (r, m')) : G K M_Mod_bad d bc bs 16 [.ref 242, .double 0, .double 0] [] (g, m) Q := by
  unfold b_Mod_bad_16 at e
  refine g_aload_n k_Mod_bad_16 rfl rfl ?_
  refine p_geti k_Mod_bad_17 fl_Mod_131 rfl (sk_Mod s) (by decide) ?_
  refine g_if_eq (tgt := 27) k_Mod_bad_20 (by decide) (fun c => ?_) (fun c => ?_)
  · rw [if_pos c] at e
    refine g_iconst (v := 0) k_Mod_bad_27 rfl ?_
    refine g_zret k_Mod_bad_28 rfl (by decide) ?_
    exact (by cases e; exact hq)
  · rw [if_neg c] at e
    refine g_iconst (v := 1) k_Mod_bad_23 rfl ?_
    refine g_goto (tgt := 28) k_Mod_bad_24 (by decide) ?_
    refine g_zret k_Mod_bad_28 rfl (by decide) ?_
    exact (by cases e; exact hq)
def f_Mod_bad (x1 : Int32) (x2 : Int32) (m : aM) : Option (Int32 × aM) :=
  (if x1 = 0 then
  b_Mod_bad_16  m
  else
  (if (m 242 0) = 0 then
  o_let (a_st m 242 0 x2) fun m1 =>
  b_Mod_bad_16  m1
  else
  b_Mod_bad_16  m
  )
  )
theorem s_Mod_bad {K : aK} {d bc bs : Nat} {g : aG} (s : SyM g) (x1 : Int32) (x2 : Int32) (m : aM) {r : Int32} {m' : aM} (e : f_Mod_bad x1 x2 m = some (r, m')) : Sp K M_Mod_bad d bc bs [.ref 242, .int x1, .int x2] (g, m) (some (.int r)) (g, m') := by
  refine sp_of ok_Mod_bad rfl (Nat.le_of_ble_eq_true rfl) (by simp [Value.category]) (fun Q hq => ?_)
  unfold f_Mod_bad at e
  refine g_iload_n k_Mod_bad_0 rfl rfl ?_
  refine g_if_eq (tgt := 16) k_Mod_bad_1 (by decide) (fun c => ?_) (fun c => ?_)
  · rw [if_pos c] at e
    exact G.wl (wls (wld (wld wl0))) (t_Mod_bad_16 s  m hq e)
  · rw [if_neg c] at e
    refine g_aload_n k_Mod_bad_4 rfl rfl ?_
    refine p_geti k_Mod_bad_5 fl_Mod_131 rfl (sk_Mod s) (by decide) ?_
    refine g_if_ne (tgt := 16) k_Mod_bad_8 (by decide) (fun c => ?_) (fun c => ?_)
    · rw [if_pos c] at e
      refine g_aload_n k_Mod_bad_11 rfl rfl ?_
      refine g_iload_n k_Mod_bad_12 rfl rfl ?_
      refine p_puti k_Mod_bad_13 fl_Mod_131 rfl ⟨R_Mod, F_Mod, 61, rfl, Or.inl rfl⟩ (sk_Mod s) (by decide) ?_
      obtain ⟨m1, u_m1, e⟩ := o_let_ex e
      refine G.hm u_m1 ?_
      exact G.wl (wls (wld (wld wl0))) (t_Mod_bad_16 s  m1 hq e)
    · rw [if_neg c] at e
      exact G.wl (wls (wld (wld wl0))) (t_Mod_bad_16 s  m hq e)
def f_Mod_byteAt (x1 : Int32) (m : aM) : Option Int32 :=
  (if x1 < (m 242 2) then
  (if (m 242 17) = 0 then
  o_gd (inb x1 400) <|
  some (m 243 x1.toNatClampNeg)
  else
  o_gd (inb x1 400) <|
  some (m 244 x1.toNatClampNeg)
  )
  else
  some (-1)
  )
theorem s_Mod_byteAt {K : aK} {d bc bs : Nat} {g : aG} (s : SyM g) (x1 : Int32) (m : aM) {r : Int32} (e : f_Mod_byteAt x1 m = some r) : Sp K M_Mod_byteAt d bc bs [.ref 242, .int x1] (g, m) (some (.int r)) (g, m) := by
  refine sp_of ok_Mod_byteAt rfl (Nat.le_of_ble_eq_true rfl) (by simp [Value.category]) (fun Q hq => ?_)
  unfold f_Mod_byteAt at e
  refine g_iload_n k_Mod_byteAt_0 rfl rfl ?_
  refine g_aload_n k_Mod_byteAt_1 rfl rfl ?_
  refine p_geti k_Mod_byteAt_2 fl_Mod_137 rfl (sk_Mod s) (by decide) ?_
  refine g_icmp_lt (tgt := 12) k_Mod_byteAt_5 (by decide) (fun c => ?_) (fun c => ?_)
  · rw [if_pos c] at e
    refine g_aload_n k_Mod_byteAt_12 rfl rfl ?_
    refine p_geti k_Mod_byteAt_13 fl_Mod_140 rfl (sk_Mod s) (by decide) ?_
    refine g_if_ne (tgt := 28) k_Mod_byteAt_16 (by decide) (fun c => ?_) (fun c => ?_)
    · rw [if_pos c] at e
      refine g_aload_n k_Mod_byteAt_19 rfl rfl ?_
      refine p_getr k_Mod_byteAt_20 fl_Mod_15 rfl (sk_Mod s) (by decide) (sr_Mod_8 s) ?_
      refine g_iload_n k_Mod_byteAt_23 rfl rfl ?_
      obtain ⟨q1, e⟩ := o_gd_ex e
      refine p_iald k_Mod_byteAt_24 (sa_Mod_8 s) (inb_in q1) (j := x1.toNatClampNeg) rfl ?_
      refine g_goto (tgt := 34) k_Mod_byteAt_25 (by decide) ?_
      refine g_iret k_Mod_byteAt_34 rfl ?_
      exact (by cases e; exact hq)
    · rw [if_neg c] at e
      refine g_aload_n k_Mod_byteAt_28 rfl rfl ?_
      refine p_getr k_Mod_byteAt_29 fl_Mod_19 rfl (sk_Mod s) (by decide) (sr_Mod_9 s) ?_
      refine g_iload_n k_Mod_byteAt_32 rfl rfl ?_
      obtain ⟨q2, e⟩ := o_gd_ex e
      refine p_iald k_Mod_byteAt_33 (sa_Mod_9 s) (inb_in q2) (j := x1.toNatClampNeg) rfl ?_
      refine g_iret k_Mod_byteAt_34 rfl ?_
      exact (by cases e; exact hq)
  · rw [if_neg c] at e
    refine g_iconst (v := (-1)) k_Mod_byteAt_8 rfl ?_
    refine g_goto (tgt := 34) k_Mod_byteAt_9 (by decide) ?_
    refine g_iret k_Mod_byteAt_34 rfl ?_
    exact (by cases e; exact hq)
def lb_Mod_blanks_0 (F : Nat) (rec_0 : aM → Option (Int32 × aM))  (m : aM) : Option (Int32 × aM) :=
  o_b (f_Mod_byteAt (m 242 13) m) fun y1 =>
  (if y1 = 32 then
  o_let (a_st m 242 13 ((m 242 13) + 1)) fun m2 =>
  rec_0  m2
  else
  some (0, m)
  )
theorem tb_Mod_blanks_0 {K : aK} {d bc bs : Nat} {g : aG} (s : SyM g) {Q : aQ} {r : Int32} {m' : aM} (F : Nat) (rec_0 : aM → Option (Int32 × aM)) (hr_0 : ∀ (m : aM), rec_0  m = some (r, m') → G K M_Mod_blanks d bc bs 0 [.ref 242] [] (g, m) Q)  (m : aM) (hq : Q (.inl none) (g, m')) (e : lb_Mod_blanks_0 F rec_0  m = some (r, m')) (hd : 1 ≤ d) : G K M_Mod_blanks d bc bs 0 [.ref 242] [] (g, m) Q := by
  unfold lb_Mod_blanks_0 at e
  refine g_aload_n k_Mod_blanks_0 rfl rfl ?_
  refine g_aload_n k_Mod_blanks_1 rfl rfl ?_
  refine p_geti k_Mod_blanks_2 fl_Mod_143 rfl (sk_Mod s) (by decide) ?_
  obtain ⟨y1, e_y1, e⟩ := o_b_ex e
  refine g_cv k_Mod_blanks_5 lv_Mod_146 (by decide +kernel) (T := F_Mod) (N := 61) (ci := 10) rfl (sk_Mod s) (s_Mod_byteAt (bc := 0) (bs := 0) s (m 242 13) m e_y1) rfl rfl (Nat.le_of_ble_eq_true rfl) (by simp [Value.category]) (by omega) (by omega) (by omega) ?_
  refine g_bipush (v := 32) k_Mod_blanks_8 rfl ?_
  refine g_icmp_ne (tgt := 26) k_Mod_blanks_10 (by decide) (fun c => ?_) (fun c => ?_)
  · rw [if_pos c] at e
    refine g_aload_n k_Mod_blanks_13 rfl rfl ?_
    refine g_dup k_Mod_blanks_14 rfl ?_
    refine p_geti k_Mod_blanks_15 fl_Mod_143 rfl (sk_Mod s) (by decide) ?_
    refine g_iconst (v := 1) k_Mod_blanks_18 rfl ?_
    refine g_iadd k_Mod_blanks_19 ?_
    refine p_puti k_Mod_blanks_20 fl_Mod_143 rfl ⟨R_Mod, F_Mod, 61, rfl, Or.inl rfl⟩ (sk_Mod s) (by decide) ?_
    obtain ⟨m2, u_m2, e⟩ := o_let_ex e
    refine G.hm u_m2 ?_
    refine g_goto (tgt := 0) k_Mod_blanks_23 (by decide) ?_
    exact (hr_0  m2 e)
  · rw [if_neg c] at e
    refine g_vret k_Mod_blanks_26 rfl ?_
    exact (by cases e; exact hq)
def ll_Mod_blanks_0 (F : Nat) : Nat → aM → Option (Int32 × aM)
  | 0, _ => none
  | N + 1, m => lb_Mod_blanks_0 F (ll_Mod_blanks_0 F N)  m
theorem t_Mod_blanks_0 {K : aK} {d bc bs : Nat} {g : aG} (s : SyM g) {Q : aQ} {r : Int32} {m' : aM} (F : Nat) : ∀ (N : Nat) (m : aM), Q (.inl none) (g, m') → ll_Mod_blanks_0 F N  m = some (r, m') → 1 ≤ d → G K M_Mod_blanks d bc bs 0 [.ref 242] [] (g, m) Q
  | 0, _ => fun _ e => nomatch e
  | N + 1, m => fun hq e hd => tb_Mod_blanks_0 s F (ll_Mod_blanks_0 F N) (fun m e => t_Mod_blanks_0 s F N m hq e hd) m hq e hd
def f_Mod_blanks (F : Nat)  (m : aM) : Option (Int32 × aM) :=
  ll_Mod_blanks_0 F F  m
theorem s_Mod_blanks {K : aK} {d bc bs : Nat} {g : aG} (s : SyM g) (F : Nat)  (m : aM) {r : Int32} {m' : aM} (e : f_Mod_blanks F  m = some (r, m')) (hd : 1 ≤ d) : Sp K M_Mod_blanks d bc bs [.ref 242] (g, m) none (g, m') := by
  refine sp_of ok_Mod_blanks rfl (Nat.le_of_ble_eq_true rfl) (by simp [Value.category]) (fun Q hq => ?_)
  unfold f_Mod_blanks at e
  exact (t_Mod_blanks_0 s F F  m hq e hd)
def f_Mod_isSmall (x0 : Int32) (m : aM) : Option Int32 :=
  (if x0 < 97 then
  some 0
  else
  (if 122 < x0 then
  some 0
  else
  some 1
  )
  )
theorem s_Mod_isSmall {K : aK} {d bc bs : Nat} {g : aG} (s : SyM g) (x0 : Int32) (m : aM) {r : Int32} (e : f_Mod_isSmall x0 m = some r) : Sp K M_Mod_isSmall d bc bs [.int x0] (g, m) (some (.int r)) (g, m) := by
  refine sp_of ok_Mod_isSmall rfl (Nat.le_of_ble_eq_true rfl) (by simp [Value.category]) (fun Q hq => ?_)
  unfold f_Mod_isSmall at e
  refine g_iload_n k_Mod_isSmall_0 rfl rfl ?_
  refine g_bipush (v := 97) k_Mod_isSmall_1 rfl ?_
  refine g_icmp_lt (tgt := 16) k_Mod_isSmall_3 (by decide) (fun c => ?_) (fun c => ?_)
  · rw [if_pos c] at e
    refine g_iconst (v := 0) k_Mod_isSmall_16 rfl ?_
    refine g_zret k_Mod_isSmall_17 rfl (by decide) ?_
    exact (by cases e; exact hq)
  · rw [if_neg c] at e
    refine g_iload_n k_Mod_isSmall_6 rfl rfl ?_
    refine g_bipush (v := 122) k_Mod_isSmall_7 rfl ?_
    refine g_icmp_gt (tgt := 16) k_Mod_isSmall_9 (by decide) (fun c => ?_) (fun c => ?_)
    · rw [if_pos c] at e
      refine g_iconst (v := 0) k_Mod_isSmall_16 rfl ?_
      refine g_zret k_Mod_isSmall_17 rfl (by decide) ?_
      exact (by cases e; exact hq)
    · rw [if_neg c] at e
      refine g_iconst (v := 1) k_Mod_isSmall_12 rfl ?_
      refine g_goto (tgt := 17) k_Mod_isSmall_13 (by decide) ?_
      refine g_zret k_Mod_isSmall_17 rfl (by decide) ?_
      exact (by cases e; exact hq)
def f_Mod_isLetter (x0 : Int32) (m : aM) : Option Int32 :=
  o_b (f_Mod_isSmall x0 m) fun y1 =>
  (if y1 = 0 then
  (if x0 < 65 then
  some 0
  else
  (if 90 < x0 then
  some 0
  else
  some 1
  )
  )
  else
  some 1
  )
theorem s_Mod_isLetter {K : aK} {d bc bs : Nat} {g : aG} (s : SyM g) (x0 : Int32) (m : aM) {r : Int32} (e : f_Mod_isLetter x0 m = some r) (hd : 1 ≤ d) : Sp K M_Mod_isLetter d bc bs [.int x0] (g, m) (some (.int r)) (g, m) := by
  refine sp_of ok_Mod_isLetter rfl (Nat.le_of_ble_eq_true rfl) (by simp [Value.category]) (fun Q hq => ?_)
  unfold f_Mod_isLetter at e
  refine g_iload_n k_Mod_isLetter_0 rfl rfl ?_
  obtain ⟨y1, e_y1, e⟩ := o_b_ex e
  refine g_cs k_Mod_isLetter_1 ls_Mod_156 (by decide +kernel) (s_Mod_isSmall (bc := 0) (bs := 0) s x0 m e_y1) rfl rfl (Nat.le_of_ble_eq_true rfl) (by simp [Value.category]) (by omega) (by omega) (by omega) ?_
  refine g_if_ne (tgt := 19) k_Mod_isLetter_4 (by decide) (fun c => ?_) (fun c => ?_)
  · rw [if_pos c] at e
    refine g_iload_n k_Mod_isLetter_7 rfl rfl ?_
    refine g_bipush (v := 65) k_Mod_isLetter_8 rfl ?_
    refine g_icmp_lt (tgt := 23) k_Mod_isLetter_10 (by decide) (fun c => ?_) (fun c => ?_)
    · rw [if_pos c] at e
      refine g_iconst (v := 0) k_Mod_isLetter_23 rfl ?_
      refine g_zret k_Mod_isLetter_24 rfl (by decide) ?_
      exact (by cases e; exact hq)
    · rw [if_neg c] at e
      refine g_iload_n k_Mod_isLetter_13 rfl rfl ?_
      refine g_bipush (v := 90) k_Mod_isLetter_14 rfl ?_
      refine g_icmp_gt (tgt := 23) k_Mod_isLetter_16 (by decide) (fun c => ?_) (fun c => ?_)
      · rw [if_pos c] at e
        refine g_iconst (v := 0) k_Mod_isLetter_23 rfl ?_
        refine g_zret k_Mod_isLetter_24 rfl (by decide) ?_
        exact (by cases e; exact hq)
      · rw [if_neg c] at e
        refine g_iconst (v := 1) k_Mod_isLetter_19 rfl ?_
        refine g_goto (tgt := 24) k_Mod_isLetter_20 (by decide) ?_
        refine g_zret k_Mod_isLetter_24 rfl (by decide) ?_
        exact (by cases e; exact hq)
  · rw [if_neg c] at e
    refine g_iconst (v := 1) k_Mod_isLetter_19 rfl ?_
    refine g_goto (tgt := 24) k_Mod_isLetter_20 (by decide) ?_
    refine g_zret k_Mod_isLetter_24 rfl (by decide) ?_
    exact (by cases e; exact hq)
def b_Mod_letterHere_50 (F : Nat) (x1 : Int32) (m : aM) : Option (Int32 × aM) :=
  (if x1 < 65 then
  some ((-1), m)
  else
  (if 68 < x1 then
  some ((-1), m)
  else
  some (((x1 - 65) + 4), m)
  )
  )
theorem t_Mod_letterHere_50 {K : aK} {d bc bs : Nat} {g : aG} (s : SyM g) {Q : aQ} {r : Int32} {m' : aM} (F : Nat) (x1 : Int32) (m : aM) (hq : Q (.inl (some (.int r))) (g, m')) (e : b_Mod_letterHere_50 F x1 m = some (r, m')) (hd : 2 ≤ d) : G K M_Mod_letterHere d bc bs 50 [.double 0, .int x1] [] (g, m) Q := by
  unfold b_Mod_letterHere_50 at e
  refine g_iload_n k_Mod_letterHere_50 rfl rfl ?_
  refine g_bipush (v := 65) k_Mod_letterHere_51 rfl ?_
  refine g_icmp_lt (tgt := 71) k_Mod_letterHere_53 (by decide) (fun c => ?_) (fun c => ?_)
  · rw [if_pos c] at e
    refine g_iconst (v := (-1)) k_Mod_letterHere_71 rfl ?_
    refine g_iret k_Mod_letterHere_72 rfl ?_
    exact (by cases e; exact hq)
  · rw [if_neg c] at e
    refine g_iload_n k_Mod_letterHere_56 rfl rfl ?_
    refine g_bipush (v := 68) k_Mod_letterHere_57 rfl ?_
    refine g_icmp_gt (tgt := 71) k_Mod_letterHere_59 (by decide) (fun c => ?_) (fun c => ?_)
    · rw [if_pos c] at e
      refine g_iconst (v := (-1)) k_Mod_letterHere_71 rfl ?_
      refine g_iret k_Mod_letterHere_72 rfl ?_
      exact (by cases e; exact hq)
    · rw [if_neg c] at e
      refine g_iload_n k_Mod_letterHere_62 rfl rfl ?_
      refine g_bipush (v := 65) k_Mod_letterHere_63 rfl ?_
      refine g_isub k_Mod_letterHere_65 ?_
      refine g_iconst (v := 4) k_Mod_letterHere_66 rfl ?_
      refine g_iadd k_Mod_letterHere_67 ?_
      refine g_goto (tgt := 72) k_Mod_letterHere_68 (by decide) ?_
      refine g_iret k_Mod_letterHere_72 rfl ?_
      exact (by cases e; exact hq)
def f_Mod_letterHere (F : Nat)  (m : aM) : Option (Int32 × aM) :=
  o_b2 (f_Mod_blanks F  m) fun y1 m2 =>
  o_b (f_Mod_byteAt (m2 242 13) m2) fun y3 =>
  o_b (f_Mod_byteAt ((m2 242 13) + 1) m2) fun y4 =>
  o_b (f_Mod_isLetter y4 m2) fun y5 =>
  (if y5 = 0 then
  (if y3 < 97 then
  b_Mod_letterHere_50 F y3 m2
  else
  (if 100 < y3 then
  b_Mod_letterHere_50 F y3 m2
  else
  some ((y3 - 97), m2)
  )
  )
  else
  some ((-1), m2)
  )
theorem s_Mod_letterHere {K : aK} {d bc bs : Nat} {g : aG} (s : SyM g) (F : Nat)  (m : aM) {r : Int32} {m' : aM} (e : f_Mod_letterHere F  m = some (r, m')) (hd : 2 ≤ d) : Sp K M_Mod_letterHere d bc bs [.ref 242] (g, m) (some (.int r)) (g, m') := by
  refine sp_of ok_Mod_letterHere rfl (Nat.le_of_ble_eq_true rfl) (by simp [Value.category]) (fun Q hq => ?_)
  unfold f_Mod_letterHere at e
  refine g_aload_n k_Mod_letterHere_0 rfl rfl ?_
  obtain ⟨y1, m2, e_y1, e⟩ := o_b2_ex e
  refine g_cv k_Mod_letterHere_1 lv_Mod_160 (by decide +kernel) (T := F_Mod) (N := 61) (ci := 10) rfl (sk_Mod s) (s_Mod_blanks (bc := 0) (bs := 0) s F  m e_y1 (by omega)) rfl rfl (Nat.le_of_ble_eq_true rfl) (by simp [Value.category]) (by omega) (by omega) (by omega) ?_
  refine g_aload_n k_Mod_letterHere_4 rfl rfl ?_
  refine g_aload_n k_Mod_letterHere_5 rfl rfl ?_
  refine p_geti k_Mod_letterHere_6 fl_Mod_143 rfl (sk_Mod s) (by decide) ?_
  obtain ⟨y3, e_y3, e⟩ := o_b_ex e
  refine g_cv k_Mod_letterHere_9 lv_Mod_146 (by decide +kernel) (T := F_Mod) (N := 61) (ci := 10) rfl (sk_Mod s) (s_Mod_byteAt (bc := 0) (bs := 0) s (m2 242 13) m2 e_y3) rfl rfl (Nat.le_of_ble_eq_true rfl) (by simp [Value.category]) (by omega) (by omega) (by omega) ?_
  refine g_istore_n k_Mod_letterHere_12 rfl (by decide) ?_
  refine g_aload_n k_Mod_letterHere_13 rfl rfl ?_
  refine g_aload_n k_Mod_letterHere_14 rfl rfl ?_
  refine p_geti k_Mod_letterHere_15 fl_Mod_143 rfl (sk_Mod s) (by decide) ?_
  refine g_iconst (v := 1) k_Mod_letterHere_18 rfl ?_
  refine g_iadd k_Mod_letterHere_19 ?_
  obtain ⟨y4, e_y4, e⟩ := o_b_ex e
  refine g_cv k_Mod_letterHere_20 lv_Mod_146 (by decide +kernel) (T := F_Mod) (N := 61) (ci := 10) rfl (sk_Mod s) (s_Mod_byteAt (bc := 0) (bs := 0) s ((m2 242 13) + 1) m2 e_y4) rfl rfl (Nat.le_of_ble_eq_true rfl) (by simp [Value.category]) (by omega) (by omega) (by omega) ?_
  obtain ⟨y5, e_y5, e⟩ := o_b_ex e
  refine g_cs k_Mod_letterHere_23 ls_Mod_163 (by decide +kernel) (s_Mod_isLetter (bc := 0) (bs := 0) s y4 m2 e_y5 (by omega)) rfl rfl (Nat.le_of_ble_eq_true rfl) (by simp [Value.category]) (by omega) (by omega) (by omega) ?_
  refine g_if_eq (tgt := 31) k_Mod_letterHere_26 (by decide) (fun c => ?_) (fun c => ?_)
  · rw [if_pos c] at e
    refine g_iload_n k_Mod_letterHere_31 rfl rfl ?_
    refine g_bipush (v := 97) k_Mod_letterHere_32 rfl ?_
    refine g_icmp_lt (tgt := 50) k_Mod_letterHere_34 (by decide) (fun c => ?_) (fun c => ?_)
    · rw [if_pos c] at e
      exact G.wl (wld (wls wl0)) (t_Mod_letterHere_50 s F y3 m2 hq e hd)
    · rw [if_neg c] at e
      refine g_iload_n k_Mod_letterHere_37 rfl rfl ?_
      refine g_bipush (v := 100) k_Mod_letterHere_38 rfl ?_
      refine g_icmp_gt (tgt := 50) k_Mod_letterHere_40 (by decide) (fun c => ?_) (fun c => ?_)
      · rw [if_pos c] at e
        exact G.wl (wld (wls wl0)) (t_Mod_letterHere_50 s F y3 m2 hq e hd)
      · rw [if_neg c] at e
        refine g_iload_n k_Mod_letterHere_43 rfl rfl ?_
        refine g_bipush (v := 97) k_Mod_letterHere_44 rfl ?_
        refine g_isub k_Mod_letterHere_46 ?_
        refine g_goto (tgt := 72) k_Mod_letterHere_47 (by decide) ?_
        refine g_iret k_Mod_letterHere_72 rfl ?_
        exact (by cases e; exact hq)
  · rw [if_neg c] at e
    refine g_iconst (v := (-1)) k_Mod_letterHere_29 rfl ?_
    refine g_iret k_Mod_letterHere_30 rfl ?_
    exact (by cases e; exact hq)
def b_Mod_wordHere_53 (F : Nat) (rec_8 : Int32 → Int32 → aM → Option (Int32 × aM)) (x2 : Int32) (xt0 : Int32) (m : aM) : Option (Int32 × aM) :=
  rec_8 xt0 (x2 + 1) m
theorem t_Mod_wordHere_53 {K : aK} {d bc bs : Nat} {g : aG} (s : SyM g) {Q : aQ} {r : Int32} {m' : aM} (F : Nat) (rec_8 : Int32 → Int32 → aM → Option (Int32 × aM)) (hr_8 : ∀ (x1 : Int32) (x2 : Int32) (m : aM), rec_8 x1 x2 m = some (r, m') → G K M_Mod_wordHere d bc bs 8 [.ref 242, .int x1, .int x2] [] (g, m) Q) (x2 : Int32) (xt0 : Int32) (m : aM) (hq : Q (.inl (some (.int r))) (g, m')) (e : b_Mod_wordHere_53 F rec_8 x2 xt0 m = some (r, m')) (hd : 2 ≤ d) : G K M_Mod_wordHere d bc bs 53 [.ref 242, .double 0, .int x2] [.int xt0] (g, m) Q := by
  unfold b_Mod_wordHere_53 at e
  refine g_istore_n k_Mod_wordHere_53 rfl (by decide) ?_
  refine g_iinc (v := _ + 1) k_Mod_wordHere_54 rfl rfl (by decide) ?_
  refine g_goto (tgt := 8) k_Mod_wordHere_57 (by decide) ?_
  exact (hr_8 xt0 (x2 + 1) m e)
def lb_Mod_wordHere_8 (F : Nat) (rec_8 : Int32 → Int32 → aM → Option (Int32 × aM)) (x1 : Int32) (x2 : Int32) (m : aM) : Option (Int32 × aM) :=
  o_b (f_Mod_byteAt ((m 242 13) + x2) m) fun y1 =>
  o_b (f_Mod_isSmall y1 m) fun y2 =>
  (if y2 = 0 then
  (if x2 ≤ 5 then
  some (x1, m)
  else
  some ((-1), m)
  )
  else
  (if 5 ≤ x2 then
  b_Mod_wordHere_53 F rec_8 x2 x1 m
  else
  o_b (f_Mod_byteAt ((m 242 13) + x2) m) fun y3 =>
  o_let (((((27 * x1) + y3) - 97) + 1)) fun y4 =>
  b_Mod_wordHere_53 F rec_8 x2 y4 m
  )
  )
theorem tb_Mod_wordHere_8 {K : aK} {d bc bs : Nat} {g : aG} (s : SyM g) {Q : aQ} {r : Int32} {m' : aM} (F : Nat) (rec_8 : Int32 → Int32 → aM → Option (Int32 × aM)) (hr_8 : ∀ (x1 : Int32) (x2 : Int32) (m : aM), rec_8 x1 x2 m = some (r, m') → G K M_Mod_wordHere d bc bs 8 [.ref 242, .int x1, .int x2] [] (g, m) Q) (x1 : Int32) (x2 : Int32) (m : aM) (hq : Q (.inl (some (.int r))) (g, m')) (e : lb_Mod_wordHere_8 F rec_8 x1 x2 m = some (r, m')) (hd : 2 ≤ d) : G K M_Mod_wordHere d bc bs 8 [.ref 242, .int x1, .int x2] [] (g, m) Q := by
  unfold lb_Mod_wordHere_8 at e
  refine g_aload_n k_Mod_wordHere_8 rfl rfl ?_
  refine g_aload_n k_Mod_wordHere_9 rfl rfl ?_
  refine p_geti k_Mod_wordHere_10 fl_Mod_143 rfl (sk_Mod s) (by decide) ?_
  refine g_iload_n k_Mod_wordHere_13 rfl rfl ?_
  refine g_iadd k_Mod_wordHere_14 ?_
  obtain ⟨y1, e_y1, e⟩ := o_b_ex e
  refine g_cv k_Mod_wordHere_15 lv_Mod_146 (by decide +kernel) (T := F_Mod) (N := 61) (ci := 10) rfl (sk_Mod s) (s_Mod_byteAt (bc := 0) (bs := 0) s ((m 242 13) + x2) m e_y1) rfl rfl (Nat.le_of_ble_eq_true rfl) (by simp [Value.category]) (by omega) (by omega) (by omega) ?_
  obtain ⟨y2, e_y2, e⟩ := o_b_ex e
  refine g_cs k_Mod_wordHere_18 ls_Mod_156 (by decide +kernel) (s_Mod_isSmall (bc := 0) (bs := 0) s y1 m e_y2) rfl rfl (Nat.le_of_ble_eq_true rfl) (by simp [Value.category]) (by omega) (by omega) (by omega) ?_
  refine g_if_eq (tgt := 60) k_Mod_wordHere_21 (by decide) (fun c => ?_) (fun c => ?_)
  · rw [if_pos c] at e
    refine g_iload_n k_Mod_wordHere_60 rfl rfl ?_
    refine g_iconst (v := 5) k_Mod_wordHere_61 rfl ?_
    refine g_icmp_le (tgt := 69) k_Mod_wordHere_62 (by decide) (fun c => ?_) (fun c => ?_)
    · rw [if_pos c] at e
      refine g_iload_n k_Mod_wordHere_69 rfl rfl ?_
      refine g_iret k_Mod_wordHere_70 rfl ?_
      exact (by cases e; exact hq)
    · rw [if_neg c] at e
      refine g_iconst (v := (-1)) k_Mod_wordHere_65 rfl ?_
      refine g_goto (tgt := 70) k_Mod_wordHere_66 (by decide) ?_
      refine g_iret k_Mod_wordHere_70 rfl ?_
      exact (by cases e; exact hq)
  · rw [if_neg c] at e
    refine g_iload_n k_Mod_wordHere_24 rfl rfl ?_
    refine g_iconst (v := 5) k_Mod_wordHere_25 rfl ?_
    refine g_icmp_ge (tgt := 52) k_Mod_wordHere_26 (by decide) (fun c => ?_) (fun c => ?_)
    · rw [if_pos c] at e
      refine g_iload_n k_Mod_wordHere_52 rfl rfl ?_
      exact G.wl (wls (wld (wls wl0))) (t_Mod_wordHere_53 s F rec_8 hr_8 x2 x1 m hq e hd)
    · rw [if_neg c] at e
      refine g_bipush (v := 27) k_Mod_wordHere_29 rfl ?_
      refine g_iload_n k_Mod_wordHere_31 rfl rfl ?_
      refine g_imul k_Mod_wordHere_32 ?_
      refine g_aload_n k_Mod_wordHere_33 rfl rfl ?_
      refine g_aload_n k_Mod_wordHere_34 rfl rfl ?_
      refine p_geti k_Mod_wordHere_35 fl_Mod_143 rfl (sk_Mod s) (by decide) ?_
      refine g_iload_n k_Mod_wordHere_38 rfl rfl ?_
      refine g_iadd k_Mod_wordHere_39 ?_
      obtain ⟨y3, e_y3, e⟩ := o_b_ex e
      refine g_cv k_Mod_wordHere_40 lv_Mod_146 (by decide +kernel) (T := F_Mod) (N := 61) (ci := 10) rfl (sk_Mod s) (s_Mod_byteAt (bc := 0) (bs := 0) s ((m 242 13) + x2) m e_y3) rfl rfl (Nat.le_of_ble_eq_true rfl) (by simp [Value.category]) (by omega) (by omega) (by omega) ?_
      refine g_iadd k_Mod_wordHere_43 ?_
      refine g_bipush (v := 97) k_Mod_wordHere_44 rfl ?_
      refine g_isub k_Mod_wordHere_46 ?_
      refine g_iconst (v := 1) k_Mod_wordHere_47 rfl ?_
      refine g_iadd k_Mod_wordHere_48 ?_
      obtain ⟨y4, u_y4, e⟩ := o_let_ex e
      refine G.vy u_y4 ?_
      refine g_goto (tgt := 53) k_Mod_wordHere_49 (by decide) ?_
      exact G.wl (wls (wld (wls wl0))) (t_Mod_wordHere_53 s F rec_8 hr_8 x2 y4 m hq e hd)
def ll_Mod_wordHere_8 (F : Nat) : Nat → Int32 → Int32 → aM → Option (Int32 × aM)
  | 0, _, _, _ => none
  | N + 1, x1, x2, m => lb_Mod_wordHere_8 F (ll_Mod_wordHere_8 F N) x1 x2 m
theorem t_Mod_wordHere_8 {K : aK} {d bc bs : Nat} {g : aG} (s : SyM g) {Q : aQ} {r : Int32} {m' : aM} (F : Nat) : ∀ (N : Nat) (x1 : Int32) (x2 : Int32) (m : aM), Q (.inl (some (.int r))) (g, m') → ll_Mod_wordHere_8 F N x1 x2 m = some (r, m') → 2 ≤ d → G K M_Mod_wordHere d bc bs 8 [.ref 242, .int x1, .int x2] [] (g, m) Q
  | 0, _, _, _ => fun _ e => nomatch e
  | N + 1, x1, x2, m => fun hq e hd => tb_Mod_wordHere_8 s F (ll_Mod_wordHere_8 F N) (fun x1 x2 m e => t_Mod_wordHere_8 s F N x1 x2 m hq e hd) x1 x2 m hq e hd
def f_Mod_wordHere (F : Nat)  (m : aM) : Option (Int32 × aM) :=
  o_b2 (f_Mod_blanks F  m) fun y1 m2 =>
  ll_Mod_wordHere_8 F F 0 0 m2
theorem s_Mod_wordHere {K : aK} {d bc bs : Nat} {g : aG} (s : SyM g) (F : Nat)  (m : aM) {r : Int32} {m' : aM} (e : f_Mod_wordHere F  m = some (r, m')) (hd : 2 ≤ d) : Sp K M_Mod_wordHere d bc bs [.ref 242] (g, m) (some (.int r)) (g, m') := by
  refine sp_of ok_Mod_wordHere rfl (Nat.le_of_ble_eq_true rfl) (by simp [Value.category]) (fun Q hq => ?_)
  unfold f_Mod_wordHere at e
  refine g_aload_n k_Mod_wordHere_0 rfl rfl ?_
  obtain ⟨y1, m2, e_y1, e⟩ := o_b2_ex e
  refine g_cv k_Mod_wordHere_1 lv_Mod_160 (by decide +kernel) (T := F_Mod) (N := 61) (ci := 10) rfl (sk_Mod s) (s_Mod_blanks (bc := 0) (bs := 0) s F  m e_y1 (by omega)) rfl rfl (Nat.le_of_ble_eq_true rfl) (by simp [Value.category]) (by omega) (by omega) (by omega) ?_
  refine g_iconst (v := 0) k_Mod_wordHere_4 rfl ?_
  refine g_istore_n k_Mod_wordHere_5 rfl (by decide) ?_
  refine g_iconst (v := 0) k_Mod_wordHere_6 rfl ?_
  refine g_istore_n k_Mod_wordHere_7 rfl (by decide) ?_
  exact (t_Mod_wordHere_8 s F F 0 0 m2 hq e hd)
def b_Mod_word_42 (x4 : Int32) (xt0 : Int32) (m : aM) : Option Int32 :=
  (if x4 = 0 then
  some xt0
  else
  some ((27 * xt0) + x4)
  )
theorem t_Mod_word_42 {K : aK} {d bc bs : Nat} {g : aG} (s : SyM g) {Q : aQ} {r : Int32} (m : aM) (x4 : Int32) (xt0 : Int32) (hq : Q (.inl (some (.int r))) (g, m)) (e : b_Mod_word_42 x4 xt0 m = some r) : G K M_Mod_word d bc bs 42 [.double 0, .double 0, .double 0, .double 0, .int x4, .double 0] [.int xt0] (g, m) Q := by
  unfold b_Mod_word_42 at e
  refine g_istore k_Mod_word_42 (by decide) ?_
  refine g_iload k_Mod_word_44 rfl ?_
  refine g_if_ne (tgt := 54) k_Mod_word_46 (by decide) (fun c => ?_) (fun c => ?_)
  · rw [if_pos c] at e
    refine g_iload k_Mod_word_49 rfl ?_
    refine g_goto (tgt := 62) k_Mod_word_51 (by decide) ?_
    refine g_iret k_Mod_word_62 rfl ?_
    exact (by cases e; exact hq)
  · rw [if_neg c] at e
    refine g_bipush (v := 27) k_Mod_word_54 rfl ?_
    refine g_iload k_Mod_word_56 rfl ?_
    refine g_imul k_Mod_word_58 ?_
    refine g_iload k_Mod_word_59 rfl ?_
    refine g_iadd k_Mod_word_61 ?_
    refine g_iret k_Mod_word_62 rfl ?_
    exact (by cases e; exact hq)
def b_Mod_word_24 (x3 : Int32) (x4 : Int32) (xt0 : Int32) (m : aM) : Option Int32 :=
  (if x3 = 0 then
  b_Mod_word_42 x4 xt0 m
  else
  b_Mod_word_42 x4 ((27 * xt0) + x3) m
  )
theorem t_Mod_word_24 {K : aK} {d bc bs : Nat} {g : aG} (s : SyM g) {Q : aQ} {r : Int32} (m : aM) (x3 : Int32) (x4 : Int32) (xt0 : Int32) (hq : Q (.inl (some (.int r))) (g, m)) (e : b_Mod_word_24 x3 x4 xt0 m = some r) : G K M_Mod_word d bc bs 24 [.double 0, .double 0, .double 0, .int x3, .int x4, .double 0] [.int xt0] (g, m) Q := by
  unfold b_Mod_word_24 at e
  refine g_istore k_Mod_word_24 (by decide) ?_
  refine g_iload_n k_Mod_word_26 rfl rfl ?_
  refine g_if_ne (tgt := 35) k_Mod_word_27 (by decide) (fun c => ?_) (fun c => ?_)
  · rw [if_pos c] at e
    refine g_iload k_Mod_word_30 rfl ?_
    refine g_goto (tgt := 42) k_Mod_word_32 (by decide) ?_
    exact G.wl (wls (wls (wls (wld (wls (wld wl0)))))) (t_Mod_word_42 s m x4 xt0  hq e)
  · rw [if_neg c] at e
    refine g_bipush (v := 27) k_Mod_word_35 rfl ?_
    refine g_iload k_Mod_word_37 rfl ?_
    refine g_imul k_Mod_word_39 ?_
    refine g_iload_n k_Mod_word_40 rfl rfl ?_
    refine g_iadd k_Mod_word_41 ?_
    exact G.wl (wls (wls (wls (wld (wls (wld wl0)))))) (t_Mod_word_42 s m x4 ((27 * xt0) + x3)  hq e)
def f_Mod_word (x0 : Int32) (x1 : Int32) (x2 : Int32) (x3 : Int32) (x4 : Int32) (m : aM) : Option Int32 :=
  (if x2 = 0 then
  b_Mod_word_24 x3 x4 ((27 * x0) + x1) m
  else
  o_let (((27 * ((27 * x0) + x1)) + x2)) fun y1 =>
  b_Mod_word_24 x3 x4 y1 m
  )
theorem s_Mod_word {K : aK} {d bc bs : Nat} {g : aG} (s : SyM g) (x0 : Int32) (x1 : Int32) (x2 : Int32) (x3 : Int32) (x4 : Int32) (m : aM) {r : Int32} (e : f_Mod_word x0 x1 x2 x3 x4 m = some r) : Sp K M_Mod_word d bc bs [.int x0, .int x1, .int x2, .int x3, .int x4] (g, m) (some (.int r)) (g, m) := by
  refine sp_of ok_Mod_word rfl (Nat.le_of_ble_eq_true rfl) (by simp [Value.category]) (fun Q hq => ?_)
  unfold f_Mod_word at e
  refine g_bipush (v := 27) k_Mod_word_0 rfl ?_
  refine g_iload_n k_Mod_word_2 rfl rfl ?_
  refine g_imul k_Mod_word_3 ?_
  refine g_iload_n k_Mod_word_4 rfl rfl ?_
  refine g_iadd k_Mod_word_5 ?_
  refine g_istore k_Mod_word_6 (by decide) ?_
  refine g_iload_n k_Mod_word_8 rfl rfl ?_
  refine g_if_ne (tgt := 17) k_Mod_word_9 (by decide) (fun c => ?_) (fun c => ?_)
  · rw [if_pos c] at e
    refine g_iload k_Mod_word_12 rfl ?_
    refine g_goto (tgt := 24) k_Mod_word_14 (by decide) ?_
    exact G.wl (wld (wld (wld (wls (wls (wld wl0)))))) (t_Mod_word_24 s m x3 x4 ((27 * x0) + x1)  hq e)
  · rw [if_neg c] at e
    refine g_bipush (v := 27) k_Mod_word_17 rfl ?_
    refine g_iload k_Mod_word_19 rfl ?_
    refine g_imul k_Mod_word_21 ?_
    refine g_iload_n k_Mod_word_22 rfl rfl ?_
    refine g_iadd k_Mod_word_23 ?_
    obtain ⟨y1, u_y1, e⟩ := o_let_ex e
    refine G.vy u_y1 ?_
    exact G.wl (wld (wld (wld (wls (wls (wld wl0)))))) (t_Mod_word_24 s m x3 x4 y1  hq e)
def f_Mod_wrongAt (x1 : Int32) (x2 : Int32) (m : aM) : Option (Int32 × aM) :=
  (if (m 242 15) = 0 then
  o_let (a_st m 242 15 x1) fun m1 =>
  o_let (a_st m1 242 16 x2) fun m2 =>
  some (0, m2)
  else
  some (0, m)
  )
theorem s_Mod_wrongAt {K : aK} {d bc bs : Nat} {g : aG} (s : SyM g) (x1 : Int32) (x2 : Int32) (m : aM) {r : Int32} {m' : aM} (e : f_Mod_wrongAt x1 x2 m = some (r, m')) : Sp K M_Mod_wrongAt d bc bs [.ref 242, .int x1, .int x2] (g, m) none (g, m') := by
  refine sp_of ok_Mod_wrongAt rfl (Nat.le_of_ble_eq_true rfl) (by simp [Value.category]) (fun Q hq => ?_)
  unfold f_Mod_wrongAt at e
  refine g_aload_n k_Mod_wrongAt_0 rfl rfl ?_
  refine p_geti k_Mod_wrongAt_1 fl_Mod_150 rfl (sk_Mod s) (by decide) ?_
  refine g_if_ne (tgt := 17) k_Mod_wrongAt_4 (by decide) (fun c => ?_) (fun c => ?_)
  · rw [if_pos c] at e
    refine g_aload_n k_Mod_wrongAt_7 rfl rfl ?_
    refine g_iload_n k_Mod_wrongAt_8 rfl rfl ?_
    refine p_puti k_Mod_wrongAt_9 fl_Mod_150 rfl ⟨R_Mod, F_Mod, 61, rfl, Or.inl rfl⟩ (sk_Mod s) (by decide) ?_
    obtain ⟨m1, u_m1, e⟩ := o_let_ex e
    refine G.hm u_m1 ?_
    refine g_aload_n k_Mod_wrongAt_12 rfl rfl ?_
    refine g_iload_n k_Mod_wrongAt_13 rfl rfl ?_
    refine p_puti k_Mod_wrongAt_14 fl_Mod_153 rfl ⟨R_Mod, F_Mod, 61, rfl, Or.inl rfl⟩ (sk_Mod s) (by decide) ?_
    obtain ⟨m2, u_m2, e⟩ := o_let_ex e
    refine G.hm u_m2 ?_
    refine g_vret k_Mod_wrongAt_17 rfl ?_
    exact (by cases e; exact hq)
  · rw [if_neg c] at e
    refine g_vret k_Mod_wrongAt_17 rfl ?_
    exact (by cases e; exact hq)
def lb_Mod_skipWord_0 (F : Nat) (rec_0 : aM → Option (Int32 × aM))  (m : aM) : Option (Int32 × aM) :=
  o_b (f_Mod_byteAt (m 242 13) m) fun y1 =>
  o_b (f_Mod_isSmall y1 m) fun y2 =>
  (if y2 = 0 then
  some (0, m)
  else
  o_let (a_st m 242 13 ((m 242 13) + 1)) fun m3 =>
  rec_0  m3
  )
theorem tb_Mod_skipWord_0 {K : aK} {d bc bs : Nat} {g : aG} (s : SyM g) {Q : aQ} {r : Int32} {m' : aM} (F : Nat) (rec_0 : aM → Option (Int32 × aM)) (hr_0 : ∀ (m : aM), rec_0  m = some (r, m') → G K M_Mod_skipWord d bc bs 0 [.ref 242] [] (g, m) Q)  (m : aM) (hq : Q (.inl none) (g, m')) (e : lb_Mod_skipWord_0 F rec_0  m = some (r, m')) (hd : 1 ≤ d) : G K M_Mod_skipWord d bc bs 0 [.ref 242] [] (g, m) Q := by
  unfold lb_Mod_skipWord_0 at e
  refine g_aload_n k_Mod_skipWord_0 rfl rfl ?_
  refine g_aload_n k_Mod_skipWord_1 rfl rfl ?_
  refine p_geti k_Mod_skipWord_2 fl_Mod_143 rfl (sk_Mod s) (by decide) ?_
  obtain ⟨y1, e_y1, e⟩ := o_b_ex e
  refine g_cv k_Mod_skipWord_5 lv_Mod_146 (by decide +kernel) (T := F_Mod) (N := 61) (ci := 10) rfl (sk_Mod s) (s_Mod_byteAt (bc := 0) (bs := 0) s (m 242 13) m e_y1) rfl rfl (Nat.le_of_ble_eq_true rfl) (by simp [Value.category]) (by omega) (by omega) (by omega) ?_
  obtain ⟨y2, e_y2, e⟩ := o_b_ex e
  refine g_cs k_Mod_skipWord_8 ls_Mod_156 (by decide +kernel) (s_Mod_isSmall (bc := 0) (bs := 0) s y1 m e_y2) rfl rfl (Nat.le_of_ble_eq_true rfl) (by simp [Value.category]) (by omega) (by omega) (by omega) ?_
  refine g_if_eq (tgt := 27) k_Mod_skipWord_11 (by decide) (fun c => ?_) (fun c => ?_)
  · rw [if_pos c] at e
    refine g_vret k_Mod_skipWord_27 rfl ?_
    exact (by cases e; exact hq)
  · rw [if_neg c] at e
    refine g_aload_n k_Mod_skipWord_14 rfl rfl ?_
    refine g_dup k_Mod_skipWord_15 rfl ?_
    refine p_geti k_Mod_skipWord_16 fl_Mod_143 rfl (sk_Mod s) (by decide) ?_
    refine g_iconst (v := 1) k_Mod_skipWord_19 rfl ?_
    refine g_iadd k_Mod_skipWord_20 ?_
    refine p_puti k_Mod_skipWord_21 fl_Mod_143 rfl ⟨R_Mod, F_Mod, 61, rfl, Or.inl rfl⟩ (sk_Mod s) (by decide) ?_
    obtain ⟨m3, u_m3, e⟩ := o_let_ex e
    refine G.hm u_m3 ?_
    refine g_goto (tgt := 0) k_Mod_skipWord_24 (by decide) ?_
    exact (hr_0  m3 e)
def ll_Mod_skipWord_0 (F : Nat) : Nat → aM → Option (Int32 × aM)
  | 0, _ => none
  | N + 1, m => lb_Mod_skipWord_0 F (ll_Mod_skipWord_0 F N)  m
theorem t_Mod_skipWord_0 {K : aK} {d bc bs : Nat} {g : aG} (s : SyM g) {Q : aQ} {r : Int32} {m' : aM} (F : Nat) : ∀ (N : Nat) (m : aM), Q (.inl none) (g, m') → ll_Mod_skipWord_0 F N  m = some (r, m') → 1 ≤ d → G K M_Mod_skipWord d bc bs 0 [.ref 242] [] (g, m) Q
  | 0, _ => fun _ e => nomatch e
  | N + 1, m => fun hq e hd => tb_Mod_skipWord_0 s F (ll_Mod_skipWord_0 F N) (fun m e => t_Mod_skipWord_0 s F N m hq e hd) m hq e hd
def f_Mod_skipWord (F : Nat)  (m : aM) : Option (Int32 × aM) :=
  ll_Mod_skipWord_0 F F  m
theorem s_Mod_skipWord {K : aK} {d bc bs : Nat} {g : aG} (s : SyM g) (F : Nat)  (m : aM) {r : Int32} {m' : aM} (e : f_Mod_skipWord F  m = some (r, m')) (hd : 1 ≤ d) : Sp K M_Mod_skipWord d bc bs [.ref 242] (g, m) none (g, m') := by
  refine sp_of ok_Mod_skipWord rfl (Nat.le_of_ble_eq_true rfl) (by simp [Value.category]) (fun Q hq => ?_)
  unfold f_Mod_skipWord at e
  exact (t_Mod_skipWord_0 s F F  m hq e hd)
def b_Mod_opens_18 (x1 : Int32) (m : aM) : Option (Int32 × aM) :=
  o_let (a_st m 242 14 ((m 242 14) + 1)) fun m1 =>
  o_let (a_st m1 242 13 ((m1 242 13) + x1)) fun m2 =>
  some (0, m2)
theorem t_Mod_opens_18 {K : aK} {d bc bs : Nat} {g : aG} (s : SyM g) {Q : aQ} {r : Int32} {m' : aM} (x1 : Int32) (m : aM) (hq : Q (.inl none) (g, m')) (e : b_Mod_opens_18 x1 m = some (r, m')) (hd : 1 ≤ d) : G K M_Mod_opens d bc bs 18 [.ref 242, .int x1] [] (g, m) Q := by
  unfold b_Mod_opens_18 at e
  refine g_aload_n k_Mod_opens_18 rfl rfl ?_
  refine g_dup k_Mod_opens_19 rfl ?_
  refine p_geti k_Mod_opens_20 fl_Mod_174 rfl (sk_Mod s) (by decide) ?_
  refine g_iconst (v := 1) k_Mod_opens_23 rfl ?_
  refine g_iadd k_Mod_opens_24 ?_
  refine p_puti k_Mod_opens_25 fl_Mod_174 rfl ⟨R_Mod, F_Mod, 61, rfl, Or.inl rfl⟩ (sk_Mod s) (by decide) ?_
  obtain ⟨m1, u_m1, e⟩ := o_let_ex e
  refine G.hm u_m1 ?_
  refine g_aload_n k_Mod_opens_28 rfl rfl ?_
  refine g_dup k_Mod_opens_29 rfl ?_
  refine p_geti k_Mod_opens_30 fl_Mod_143 rfl (sk_Mod s) (by decide) ?_
  refine g_iload_n k_Mod_opens_33 rfl rfl ?_
  refine g_iadd k_Mod_opens_34 ?_
  refine p_puti k_Mod_opens_35 fl_Mod_143 rfl ⟨R_Mod, F_Mod, 61, rfl, Or.inl rfl⟩ (sk_Mod s) (by decide) ?_
  obtain ⟨m2, u_m2, e⟩ := o_let_ex e
  refine G.hm u_m2 ?_
  refine g_vret k_Mod_opens_38 rfl ?_
  exact (by cases e; exact hq)
def f_Mod_opens (x1 : Int32) (m : aM) : Option (Int32 × aM) :=
  (if (m 242 14) = 6 then
  o_b2 (f_Mod_wrongAt 3 (m 242 13) m) fun y1 m2 =>
  b_Mod_opens_18 x1 m2
  else
  b_Mod_opens_18 x1 m
  )
theorem s_Mod_opens {K : aK} {d bc bs : Nat} {g : aG} (s : SyM g) (x1 : Int32) (m : aM) {r : Int32} {m' : aM} (e : f_Mod_opens x1 m = some (r, m')) (hd : 1 ≤ d) : Sp K M_Mod_opens d bc bs [.ref 242, .int x1] (g, m) none (g, m') := by
  refine sp_of ok_Mod_opens rfl (Nat.le_of_ble_eq_true rfl) (by simp [Value.category]) (fun Q hq => ?_)
  unfold f_Mod_opens at e
  refine g_aload_n k_Mod_opens_0 rfl rfl ?_
  refine p_geti k_Mod_opens_1 fl_Mod_174 rfl (sk_Mod s) (by decide) ?_
  refine g_bipush (v := 6) k_Mod_opens_4 rfl ?_
  refine g_icmp_ne (tgt := 18) k_Mod_opens_6 (by decide) (fun c => ?_) (fun c => ?_)
  · rw [if_pos c] at e
    refine g_aload_n k_Mod_opens_9 rfl rfl ?_
    refine g_iconst (v := 3) k_Mod_opens_10 rfl ?_
    refine g_aload_n k_Mod_opens_11 rfl rfl ?_
    refine p_geti k_Mod_opens_12 fl_Mod_143 rfl (sk_Mod s) (by decide) ?_
    obtain ⟨y1, m2, e_y1, e⟩ := o_b2_ex e
    refine g_cv k_Mod_opens_15 lv_Mod_166 (by decide +kernel) (T := F_Mod) (N := 61) (ci := 10) rfl (sk_Mod s) (s_Mod_wrongAt (bc := 0) (bs := 0) s 3 (m 242 13) m e_y1) rfl rfl (Nat.le_of_ble_eq_true rfl) (by simp [Value.category]) (by omega) (by omega) (by omega) ?_
    exact (t_Mod_opens_18 s x1 m2 hq e hd)
  · rw [if_neg c] at e
    exact (t_Mod_opens_18 s x1 m hq e hd)
def f_Mod_sign (F : Nat) (x1 : Int32) (m : aM) : Option (Int32 × aM) :=
  o_b2 (f_Mod_blanks F  m) fun y1 m2 =>
  o_b (f_Mod_byteAt (m2 242 13) m2) fun y3 =>
  (if y3 = x1 then
  o_let (a_st m2 242 13 ((m2 242 13) + 1)) fun m4 =>
  some (0, m4)
  else
  o_b2 (f_Mod_wrongAt 1 (m2 242 13) m2) fun y5 m6 =>
  some (0, m6)
  )
theorem s_Mod_sign {K : aK} {d bc bs : Nat} {g : aG} (s : SyM g) (F : Nat) (x1 : Int32) (m : aM) {r : Int32} {m' : aM} (e : f_Mod_sign F x1 m = some (r, m')) (hd : 2 ≤ d) : Sp K M_Mod_sign d bc bs [.ref 242, .int x1] (g, m) none (g, m') := by
  refine sp_of ok_Mod_sign rfl (Nat.le_of_ble_eq_true rfl) (by simp [Value.category]) (fun Q hq => ?_)
  unfold f_Mod_sign at e
  refine g_aload_n k_Mod_sign_0 rfl rfl ?_
  obtain ⟨y1, m2, e_y1, e⟩ := o_b2_ex e
  refine g_cv k_Mod_sign_1 lv_Mod_160 (by decide +kernel) (T := F_Mod) (N := 61) (ci := 10) rfl (sk_Mod s) (s_Mod_blanks (bc := 0) (bs := 0) s F  m e_y1 (by omega)) rfl rfl (Nat.le_of_ble_eq_true rfl) (by simp [Value.category]) (by omega) (by omega) (by omega) ?_
  refine g_aload_n k_Mod_sign_4 rfl rfl ?_
  refine g_aload_n k_Mod_sign_5 rfl rfl ?_
  refine p_geti k_Mod_sign_6 fl_Mod_143 rfl (sk_Mod s) (by decide) ?_
  obtain ⟨y3, e_y3, e⟩ := o_b_ex e
  refine g_cv k_Mod_sign_9 lv_Mod_146 (by decide +kernel) (T := F_Mod) (N := 61) (ci := 10) rfl (sk_Mod s) (s_Mod_byteAt (bc := 0) (bs := 0) s (m2 242 13) m2 e_y3) rfl rfl (Nat.le_of_ble_eq_true rfl) (by simp [Value.category]) (by omega) (by omega) (by omega) ?_
  refine g_iload_n k_Mod_sign_12 rfl rfl ?_
  refine g_icmp_ne (tgt := 29) k_Mod_sign_13 (by decide) (fun c => ?_) (fun c => ?_)
  · rw [if_pos c] at e
    refine g_aload_n k_Mod_sign_16 rfl rfl ?_
    refine g_dup k_Mod_sign_17 rfl ?_
    refine p_geti k_Mod_sign_18 fl_Mod_143 rfl (sk_Mod s) (by decide) ?_
    refine g_iconst (v := 1) k_Mod_sign_21 rfl ?_
    refine g_iadd k_Mod_sign_22 ?_
    refine p_puti k_Mod_sign_23 fl_Mod_143 rfl ⟨R_Mod, F_Mod, 61, rfl, Or.inl rfl⟩ (sk_Mod s) (by decide) ?_
    obtain ⟨m4, u_m4, e⟩ := o_let_ex e
    refine G.hm u_m4 ?_
    refine g_goto (tgt := 38) k_Mod_sign_26 (by decide) ?_
    refine g_vret k_Mod_sign_38 rfl ?_
    exact (by cases e; exact hq)
  · rw [if_neg c] at e
    refine g_aload_n k_Mod_sign_29 rfl rfl ?_
    refine g_iconst (v := 1) k_Mod_sign_30 rfl ?_
    refine g_aload_n k_Mod_sign_31 rfl rfl ?_
    refine p_geti k_Mod_sign_32 fl_Mod_143 rfl (sk_Mod s) (by decide) ?_
    obtain ⟨y5, m6, e_y5, e⟩ := o_b2_ex e
    refine g_cv k_Mod_sign_35 lv_Mod_166 (by decide +kernel) (T := F_Mod) (N := 61) (ci := 10) rfl (sk_Mod s) (s_Mod_wrongAt (bc := 0) (bs := 0) s 1 (m2 242 13) m2 e_y5) rfl rfl (Nat.le_of_ble_eq_true rfl) (by simp [Value.category]) (by omega) (by omega) (by omega) ?_
    refine g_vret k_Mod_sign_38 rfl ?_
    exact (by cases e; exact hq)
def f_Mod_isDigit (x0 : Int32) (m : aM) : Option Int32 :=
  (if x0 < 48 then
  some 0
  else
  (if 57 < x0 then
  some 0
  else
  some 1
  )
  )
theorem s_Mod_isDigit {K : aK} {d bc bs : Nat} {g : aG} (s : SyM g) (x0 : Int32) (m : aM) {r : Int32} (e : f_Mod_isDigit x0 m = some r) : Sp K M_Mod_isDigit d bc bs [.int x0] (g, m) (some (.int r)) (g, m) := by
  refine sp_of ok_Mod_isDigit rfl (Nat.le_of_ble_eq_true rfl) (by simp [Value.category]) (fun Q hq => ?_)
  unfold f_Mod_isDigit at e
  refine g_iload_n k_Mod_isDigit_0 rfl rfl ?_
  refine g_bipush (v := 48) k_Mod_isDigit_1 rfl ?_
  refine g_icmp_lt (tgt := 16) k_Mod_isDigit_3 (by decide) (fun c => ?_) (fun c => ?_)
  · rw [if_pos c] at e
    refine g_iconst (v := 0) k_Mod_isDigit_16 rfl ?_
    refine g_zret k_Mod_isDigit_17 rfl (by decide) ?_
    exact (by cases e; exact hq)
  · rw [if_neg c] at e
    refine g_iload_n k_Mod_isDigit_6 rfl rfl ?_
    refine g_bipush (v := 57) k_Mod_isDigit_7 rfl ?_
    refine g_icmp_gt (tgt := 16) k_Mod_isDigit_9 (by decide) (fun c => ?_) (fun c => ?_)
    · rw [if_pos c] at e
      refine g_iconst (v := 0) k_Mod_isDigit_16 rfl ?_
      refine g_zret k_Mod_isDigit_17 rfl (by decide) ?_
      exact (by cases e; exact hq)
    · rw [if_neg c] at e
      refine g_iconst (v := 1) k_Mod_isDigit_12 rfl ?_
      refine g_goto (tgt := 17) k_Mod_isDigit_13 (by decide) ?_
      refine g_zret k_Mod_isDigit_17 rfl (by decide) ?_
      exact (by cases e; exact hq)
def b_Mod_number_50 (F : Nat) (rec_7 : Int32 → Int32 → aM → Option (Int32 × aM)) (x1 : Int32) (xt0 : Int32) (m : aM) : Option (Int32 × aM) :=
  o_let (a_st m 242 13 ((m 242 13) + 1)) fun m1 =>
  rec_7 x1 xt0 m1
theorem t_Mod_number_50 {K : aK} {d bc bs : Nat} {g : aG} (s : SyM g) {Q : aQ} {r : Int32} {m' : aM} (F : Nat) (rec_7 : Int32 → Int32 → aM → Option (Int32 × aM)) (hr_7 : ∀ (x1 : Int32) (x2 : Int32) (m : aM), rec_7 x1 x2 m = some (r, m') → G K M_Mod_number d bc bs 7 [.ref 242, .int x1, .int x2] [] (g, m) Q) (x1 : Int32) (xt0 : Int32) (m : aM) (hq : Q (.inl (some (.int r))) (g, m')) (e : b_Mod_number_50 F rec_7 x1 xt0 m = some (r, m')) (hd : 1 ≤ d) : G K M_Mod_number d bc bs 50 [.ref 242, .int x1, .double 0] [.int xt0] (g, m) Q := by
  unfold b_Mod_number_50 at e
  refine g_istore_n k_Mod_number_50 rfl (by decide) ?_
  refine g_aload_n k_Mod_number_51 rfl rfl ?_
  refine g_dup k_Mod_number_52 rfl ?_
  refine p_geti k_Mod_number_53 fl_Mod_143 rfl (sk_Mod s) (by decide) ?_
  refine g_iconst (v := 1) k_Mod_number_56 rfl ?_
  refine g_iadd k_Mod_number_57 ?_
  refine p_puti k_Mod_number_58 fl_Mod_143 rfl ⟨R_Mod, F_Mod, 61, rfl, Or.inl rfl⟩ (sk_Mod s) (by decide) ?_
  obtain ⟨m1, u_m1, e⟩ := o_let_ex e
  refine G.hm u_m1 ?_
  refine g_goto (tgt := 7) k_Mod_number_61 (by decide) ?_
  exact (hr_7 x1 xt0 m1 e)
def lb_Mod_number_7 (F : Nat) (rec_7 : Int32 → Int32 → aM → Option (Int32 × aM)) (x1 : Int32) (x2 : Int32) (m : aM) : Option (Int32 × aM) :=
  o_b (f_Mod_byteAt (m 242 13) m) fun y1 =>
  o_b (f_Mod_isDigit y1 m) fun y2 =>
  (if y2 = 0 then
  (if x2 ≤ 9999 then
  some (x2, m)
  else
  o_b2 (f_Mod_wrongAt 2 x1 m) fun y3 m4 =>
  some (x2, m4)
  )
  else
  o_b (f_Mod_byteAt (m 242 13) m) fun y5 =>
  (if (((10 * x2) + y5) - 48) ≤ 100000 then
  b_Mod_number_50 F rec_7 x1 (((10 * x2) + y5) - 48) m
  else
  b_Mod_number_50 F rec_7 x1 100000 m
  )
  )
theorem tb_Mod_number_7 {K : aK} {d bc bs : Nat} {g : aG} (s : SyM g) {Q : aQ} {r : Int32} {m' : aM} (F : Nat) (rec_7 : Int32 → Int32 → aM → Option (Int32 × aM)) (hr_7 : ∀ (x1 : Int32) (x2 : Int32) (m : aM), rec_7 x1 x2 m = some (r, m') → G K M_Mod_number d bc bs 7 [.ref 242, .int x1, .int x2] [] (g, m) Q) (x1 : Int32) (x2 : Int32) (m : aM) (hq : Q (.inl (some (.int r))) (g, m')) (e : lb_Mod_number_7 F rec_7 x1 x2 m = some (r, m')) (hd : 1 ≤ d) : G K M_Mod_number d bc bs 7 [.ref 242, .int x1, .int x2] [] (g, m) Q := by
  unfold lb_Mod_number_7 at e
  refine g_aload_n k_Mod_number_7 rfl rfl ?_
  refine g_aload_n k_Mod_number_8 rfl rfl ?_
  refine p_geti k_Mod_number_9 fl_Mod_143 rfl (sk_Mod s) (by decide) ?_
  obtain ⟨y1, e_y1, e⟩ := o_b_ex e
  refine g_cv k_Mod_number_12 lv_Mod_146 (by decide +kernel) (T := F_Mod) (N := 61) (ci := 10) rfl (sk_Mod s) (s_Mod_byteAt (bc := 0) (bs := 0) s (m 242 13) m e_y1) rfl rfl (Nat.le_of_ble_eq_true rfl) (by simp [Value.category]) (by omega) (by omega) (by omega) ?_
  obtain ⟨y2, e_y2, e⟩ := o_b_ex e
  refine g_cs k_Mod_number_15 ls_Mod_170 (by decide +kernel) (s_Mod_isDigit (bc := 0) (bs := 0) s y1 m e_y2) rfl rfl (Nat.le_of_ble_eq_true rfl) (by simp [Value.category]) (by omega) (by omega) (by omega) ?_
  refine g_if_eq (tgt := 64) k_Mod_number_18 (by decide) (fun c => ?_) (fun c => ?_)
  · rw [if_pos c] at e
    refine g_iload_n k_Mod_number_64 rfl rfl ?_
    refine g_sipush (v := 9999) k_Mod_number_65 rfl ?_
    refine g_icmp_le (tgt := 77) k_Mod_number_68 (by decide) (fun c => ?_) (fun c => ?_)
    · rw [if_pos c] at e
      refine g_iload_n k_Mod_number_77 rfl rfl ?_
      refine g_iret k_Mod_number_78 rfl ?_
      exact (by cases e; exact hq)
    · rw [if_neg c] at e
      refine g_aload_n k_Mod_number_71 rfl rfl ?_
      refine g_iconst (v := 2) k_Mod_number_72 rfl ?_
      refine g_iload_n k_Mod_number_73 rfl rfl ?_
      obtain ⟨y3, m4, e_y3, e⟩ := o_b2_ex e
      refine g_cv k_Mod_number_74 lv_Mod_166 (by decide +kernel) (T := F_Mod) (N := 61) (ci := 10) rfl (sk_Mod s) (s_Mod_wrongAt (bc := 0) (bs := 0) s 2 x1 m e_y3) rfl rfl (Nat.le_of_ble_eq_true rfl) (by simp [Value.category]) (by omega) (by omega) (by omega) ?_
      refine g_iload_n k_Mod_number_77 rfl rfl ?_
      refine g_iret k_Mod_number_78 rfl ?_
      exact (by cases e; exact hq)
  · rw [if_neg c] at e
    refine g_bipush (v := 10) k_Mod_number_21 rfl ?_
    refine g_iload_n k_Mod_number_23 rfl rfl ?_
    refine g_imul k_Mod_number_24 ?_
    refine g_aload_n k_Mod_number_25 rfl rfl ?_
    refine g_aload_n k_Mod_number_26 rfl rfl ?_
    refine p_geti k_Mod_number_27 fl_Mod_143 rfl (sk_Mod s) (by decide) ?_
    obtain ⟨y5, e_y5, e⟩ := o_b_ex e
    refine g_cv k_Mod_number_30 lv_Mod_146 (by decide +kernel) (T := F_Mod) (N := 61) (ci := 10) rfl (sk_Mod s) (s_Mod_byteAt (bc := 0) (bs := 0) s (m 242 13) m e_y5) rfl rfl (Nat.le_of_ble_eq_true rfl) (by simp [Value.category]) (by omega) (by omega) (by omega) ?_
    refine g_iadd k_Mod_number_33 ?_
    refine g_bipush (v := 48) k_Mod_number_34 rfl ?_
    refine g_isub k_Mod_number_36 ?_
    refine g_istore_n k_Mod_number_37 rfl (by decide) ?_
    refine g_iload_n k_Mod_number_38 rfl rfl ?_
    refine g_ldc k_Mod_number_39 kc_Mod_173 ?_
    refine g_icmp_le (tgt := 49) k_Mod_number_41 (by decide) (fun c => ?_) (fun c => ?_)
    · rw [if_pos c] at e
      refine g_iload_n k_Mod_number_49 rfl rfl ?_
      exact G.wl (wls (wls (wld wl0))) (t_Mod_number_50 s F rec_7 hr_7 x1 (((10 * x2) + y5) - 48) m hq e hd)
    · rw [if_neg c] at e
      refine g_ldc k_Mod_number_44 kc_Mod_173 ?_
      refine g_goto (tgt := 50) k_Mod_number_46 (by decide) ?_
      exact G.wl (wls (wls (wld wl0))) (t_Mod_number_50 s F rec_7 hr_7 x1 100000 m hq e hd)
def ll_Mod_number_7 (F : Nat) : Nat → Int32 → Int32 → aM → Option (Int32 × aM)
  | 0, _, _, _ => none
  | N + 1, x1, x2, m => lb_Mod_number_7 F (ll_Mod_number_7 F N) x1 x2 m
theorem t_Mod_number_7 {K : aK} {d bc bs : Nat} {g : aG} (s : SyM g) {Q : aQ} {r : Int32} {m' : aM} (F : Nat) : ∀ (N : Nat) (x1 : Int32) (x2 : Int32) (m : aM), Q (.inl (some (.int r))) (g, m') → ll_Mod_number_7 F N x1 x2 m = some (r, m') → 1 ≤ d → G K M_Mod_number d bc bs 7 [.ref 242, .int x1, .int x2] [] (g, m) Q
  | 0, _, _, _ => fun _ e => nomatch e
  | N + 1, x1, x2, m => fun hq e hd => tb_Mod_number_7 s F (ll_Mod_number_7 F N) (fun x1 x2 m e => t_Mod_number_7 s F N x1 x2 m hq e hd) x1 x2 m hq e hd
def f_Mod_number (F : Nat)  (m : aM) : Option (Int32 × aM) :=
  ll_Mod_number_7 F F (m 242 13) 0 m
theorem s_Mod_number {K : aK} {d bc bs : Nat} {g : aG} (s : SyM g) (F : Nat)  (m : aM) {r : Int32} {m' : aM} (e : f_Mod_number F  m = some (r, m')) (hd : 1 ≤ d) : Sp K M_Mod_number d bc bs [.ref 242] (g, m) (some (.int r)) (g, m') := by
  refine sp_of ok_Mod_number rfl (Nat.le_of_ble_eq_true rfl) (by simp [Value.category]) (fun Q hq => ?_)
  unfold f_Mod_number at e
  refine g_aload_n k_Mod_number_0 rfl rfl ?_
  refine p_geti k_Mod_number_1 fl_Mod_143 rfl (sk_Mod s) (by decide) ?_
  refine g_istore_n k_Mod_number_4 rfl (by decide) ?_
  refine g_iconst (v := 0) k_Mod_number_5 rfl ?_
  refine g_istore_n k_Mod_number_6 rfl (by decide) ?_
  exact (t_Mod_number_7 s F F (m 242 13) 0 m hq e hd)
def b_Mod_ands_50 (F : Nat) (rc_Mod_total : aM → Option (Int32 × aM)) (rc_Mod_test : aM → Option (Int32 × aM)) (rec_5 : Int32 → aM → Option (Int32 × aM)) (xt0 : Int32) (m : aM) : Option (Int32 × aM) :=
  rec_5 xt0 m
theorem t_Mod_ands_50 {K : aK} {d bc bs : Nat} {g : aG} (s : SyM g) {Q : aQ} {r : Int32} {m' : aM} (F : Nat) (D0 : Nat) (rc_Mod_total : aM → Option (Int32 × aM)) (hc_Mod_total : ∀ (d bc bs : Nat)  (m : aM) (r : Int32) (m' : aM), rc_Mod_total  m = some (r, m') → D0 ≤ d → Sp K M_Mod_total d bc bs [.ref 242] (g, m) (some (.int r)) (g, m')) (rc_Mod_test : aM → Option (Int32 × aM)) (hc_Mod_test : ∀ (d bc bs : Nat)  (m : aM) (r : Int32) (m' : aM), rc_Mod_test  m = some (r, m') → D0 ≤ d → Sp K M_Mod_test d bc bs [.ref 242] (g, m) (some (.int r)) (g, m')) (rec_5 : Int32 → aM → Option (Int32 × aM)) (hr_5 : ∀ (x1 : Int32) (m : aM), rec_5 x1 m = some (r, m') → G K M_Mod_ands d bc bs 5 [.ref 242, .int x1, .double 0] [] (g, m) Q) (xt0 : Int32) (m : aM) (hq : Q (.inl (some (.int r))) (g, m')) (e : b_Mod_ands_50 F rc_Mod_total rc_Mod_test rec_5 xt0 m = some (r, m')) (hd : D0 + 4 ≤ d) : G K M_Mod_ands d bc bs 50 [.ref 242, .double 0, .double 0] [.int xt0] (g, m) Q := by
  unfold b_Mod_ands_50 at e
  refine g_istore_n k_Mod_ands_50 rfl (by decide) ?_
  refine g_goto (tgt := 5) k_Mod_ands_51 (by decide) ?_
  exact (hr_5 xt0 m e)
def b_Mod_ands_49 (F : Nat) (rc_Mod_total : aM → Option (Int32 × aM)) (rc_Mod_test : aM → Option (Int32 × aM)) (rec_5 : Int32 → aM → Option (Int32 × aM))  (m : aM) : Option (Int32 × aM) :=
  b_Mod_ands_50 F rc_Mod_total rc_Mod_test rec_5 0 m
theorem t_Mod_ands_49 {K : aK} {d bc bs : Nat} {g : aG} (s : SyM g) {Q : aQ} {r : Int32} {m' : aM} (F : Nat) (D0 : Nat) (rc_Mod_total : aM → Option (Int32 × aM)) (hc_Mod_total : ∀ (d bc bs : Nat)  (m : aM) (r : Int32) (m' : aM), rc_Mod_total  m = some (r, m') → D0 ≤ d → Sp K M_Mod_total d bc bs [.ref 242] (g, m) (some (.int r)) (g, m')) (rc_Mod_test : aM → Option (Int32 × aM)) (hc_Mod_test : ∀ (d bc bs : Nat)  (m : aM) (r : Int32) (m' : aM), rc_Mod_test  m = some (r, m') → D0 ≤ d → Sp K M_Mod_test d bc bs [.ref 242] (g, m) (some (.int r)) (g, m')) (rec_5 : Int32 → aM → Option (Int32 × aM)) (hr_5 : ∀ (x1 : Int32) (m : aM), rec_5 x1 m = some (r, m') → G K M_Mod_ands d bc bs 5 [.ref 242, .int x1, .double 0] [] (g, m) Q)  (m : aM) (hq : Q (.inl (some (.int r))) (g, m')) (e : b_Mod_ands_49 F rc_Mod_total rc_Mod_test rec_5  m = some (r, m')) (hd : D0 + 4 ≤ d) : G K M_Mod_ands d bc bs 49 [.ref 242, .double 0, .double 0] [] (g, m) Q := by
  unfold b_Mod_ands_49 at e
  refine g_iconst (v := 0) k_Mod_ands_49 rfl ?_
  exact (t_Mod_ands_50 s F D0 rc_Mod_total hc_Mod_total rc_Mod_test hc_Mod_test rec_5 hr_5 0 m hq e hd)
def lb_Mod_ands_5 (F : Nat) (rc_Mod_total : aM → Option (Int32 × aM)) (rc_Mod_test : aM → Option (Int32 × aM)) (rec_5 : Int32 → aM → Option (Int32 × aM)) (x1 : Int32) (m : aM) : Option (Int32 × aM) :=
  (if (m 242 15) = 0 then
  o_b2 (f_Mod_wordHere F  m) fun y1 m2 =>
  o_b (f_Mod_word 1 14 4 0 0 m2) fun y3 =>
  (if y1 = y3 then
  o_b2 (f_Mod_skipWord F  m2) fun y4 m5 =>
  o_b2 (rc_Mod_test  m5) fun y6 m7 =>
  (if x1 = 0 then
  b_Mod_ands_49 F rc_Mod_total rc_Mod_test rec_5  m7
  else
  (if y6 = 0 then
  b_Mod_ands_49 F rc_Mod_total rc_Mod_test rec_5  m7
  else
  b_Mod_ands_50 F rc_Mod_total rc_Mod_test rec_5 1 m7
  )
  )
  else
  o_gd (isb x1) <|
  some (x1, m2)
  )
  else
  o_gd (isb x1) <|
  some (x1, m)
  )
theorem tb_Mod_ands_5 {K : aK} {d bc bs : Nat} {g : aG} (s : SyM g) {Q : aQ} {r : Int32} {m' : aM} (F : Nat) (D0 : Nat) (rc_Mod_total : aM → Option (Int32 × aM)) (hc_Mod_total : ∀ (d bc bs : Nat)  (m : aM) (r : Int32) (m' : aM), rc_Mod_total  m = some (r, m') → D0 ≤ d → Sp K M_Mod_total d bc bs [.ref 242] (g, m) (some (.int r)) (g, m')) (rc_Mod_test : aM → Option (Int32 × aM)) (hc_Mod_test : ∀ (d bc bs : Nat)  (m : aM) (r : Int32) (m' : aM), rc_Mod_test  m = some (r, m') → D0 ≤ d → Sp K M_Mod_test d bc bs [.ref 242] (g, m) (some (.int r)) (g, m')) (rec_5 : Int32 → aM → Option (Int32 × aM)) (hr_5 : ∀ (x1 : Int32) (m : aM), rec_5 x1 m = some (r, m') → G K M_Mod_ands d bc bs 5 [.ref 242, .int x1, .double 0] [] (g, m) Q) (x1 : Int32) (m : aM) (hq : Q (.inl (some (.int r))) (g, m')) (e : lb_Mod_ands_5 F rc_Mod_total rc_Mod_test rec_5 x1 m = some (r, m')) (hd : D0 + 4 ≤ d) : G K M_Mod_ands d bc bs 5 [.ref 242, .int x1, .double 0] [] (g, m) Q := by
  unfold lb_Mod_ands_5 at e
  refine g_aload_n k_Mod_ands_5 rfl rfl ?_
  refine p_geti k_Mod_ands_6 fl_Mod_150 rfl (sk_Mod s) (by decide) ?_
  refine g_if_ne (tgt := 54) k_Mod_ands_9 (by decide) (fun c => ?_) (fun c => ?_)
  · rw [if_pos c] at e
    refine g_aload_n k_Mod_ands_12 rfl rfl ?_
    obtain ⟨y1, m2, e_y1, e⟩ := o_b2_ex e
    refine g_cv k_Mod_ands_13 lv_Mod_188 (by decide +kernel) (T := F_Mod) (N := 61) (ci := 10) rfl (sk_Mod s) (s_Mod_wordHere (bc := 0) (bs := 0) s F  m e_y1 (by omega)) rfl rfl (Nat.le_of_ble_eq_true rfl) (by simp [Value.category]) (by omega) (by omega) (by omega) ?_
    refine g_iconst (v := 1) k_Mod_ands_16 rfl ?_
    refine g_bipush (v := 14) k_Mod_ands_17 rfl ?_
    refine g_iconst (v := 4) k_Mod_ands_19 rfl ?_
    refine g_iconst (v := 0) k_Mod_ands_20 rfl ?_
    refine g_iconst (v := 0) k_Mod_ands_21 rfl ?_
    obtain ⟨y3, e_y3, e⟩ := o_b_ex e
    refine g_cs k_Mod_ands_22 ls_Mod_191 (by decide +kernel) (s_Mod_word (bc := 0) (bs := 0) s 1 14 4 0 0 m2 e_y3) rfl rfl (Nat.le_of_ble_eq_true rfl) (by simp [Value.category]) (by omega) (by omega) (by omega) ?_
    refine g_icmp_ne (tgt := 54) k_Mod_ands_25 (by decide) (fun c => ?_) (fun c => ?_)
    · rw [if_pos c] at e
      refine g_aload_n k_Mod_ands_28 rfl rfl ?_
      obtain ⟨y4, m5, e_y4, e⟩ := o_b2_ex e
      refine g_cv k_Mod_ands_29 lv_Mod_195 (by decide +kernel) (T := F_Mod) (N := 61) (ci := 10) rfl (sk_Mod s) (s_Mod_skipWord (bc := 0) (bs := 0) s F  m2 e_y4 (by omega)) rfl rfl (Nat.le_of_ble_eq_true rfl) (by simp [Value.category]) (by omega) (by omega) (by omega) ?_
      refine g_aload_n k_Mod_ands_32 rfl rfl ?_
      obtain ⟨y6, m7, e_y6, e⟩ := o_b2_ex e
      refine g_cv k_Mod_ands_33 lv_Mod_218 (by decide +kernel) (T := F_Mod) (N := 61) (ci := 10) rfl (sk_Mod s) (hc_Mod_test _ 0 0  m5 _ _ e_y6 (by omega)) rfl rfl (Nat.le_of_ble_eq_true rfl) (by simp [Value.category]) (by omega) (by omega) (by omega) ?_
      refine g_istore_n k_Mod_ands_36 rfl (by decide) ?_
      refine g_iload_n k_Mod_ands_37 rfl rfl ?_
      refine g_if_eq (tgt := 49) k_Mod_ands_38 (by decide) (fun c => ?_) (fun c => ?_)
      · rw [if_pos c] at e
        exact G.wl (wls (wld (wld wl0))) (t_Mod_ands_49 s F D0 rc_Mod_total hc_Mod_total rc_Mod_test hc_Mod_test rec_5 hr_5  m7 hq e hd)
      · rw [if_neg c] at e
        refine g_iload_n k_Mod_ands_41 rfl rfl ?_
        refine g_if_eq (tgt := 49) k_Mod_ands_42 (by decide) (fun c => ?_) (fun c => ?_)
        · rw [if_pos c] at e
          exact G.wl (wls (wld (wld wl0))) (t_Mod_ands_49 s F D0 rc_Mod_total hc_Mod_total rc_Mod_test hc_Mod_test rec_5 hr_5  m7 hq e hd)
        · rw [if_neg c] at e
          refine g_iconst (v := 1) k_Mod_ands_45 rfl ?_
          refine g_goto (tgt := 50) k_Mod_ands_46 (by decide) ?_
          exact G.wl (wls (wld (wld wl0))) (t_Mod_ands_50 s F D0 rc_Mod_total hc_Mod_total rc_Mod_test hc_Mod_test rec_5 hr_5 1 m7 hq e hd)
    · rw [if_neg c] at e
      refine g_iload_n k_Mod_ands_54 rfl rfl ?_
      obtain ⟨q8, e⟩ := o_gd_ex e
      refine g_zret k_Mod_ands_55 rfl (isb_or q8) ?_
      exact (by cases e; exact hq)
  · rw [if_neg c] at e
    refine g_iload_n k_Mod_ands_54 rfl rfl ?_
    obtain ⟨q9, e⟩ := o_gd_ex e
    refine g_zret k_Mod_ands_55 rfl (isb_or q9) ?_
    exact (by cases e; exact hq)
def ll_Mod_ands_5 (F : Nat) (rc_Mod_total : aM → Option (Int32 × aM)) (rc_Mod_test : aM → Option (Int32 × aM)) : Nat → Int32 → aM → Option (Int32 × aM)
  | 0, _, _ => none
  | N + 1, x1, m => lb_Mod_ands_5 F rc_Mod_total rc_Mod_test (ll_Mod_ands_5 F rc_Mod_total rc_Mod_test N) x1 m
theorem t_Mod_ands_5 {K : aK} {d bc bs : Nat} {g : aG} (s : SyM g) {Q : aQ} {r : Int32} {m' : aM} (F : Nat) (D0 : Nat) (rc_Mod_total : aM → Option (Int32 × aM)) (hc_Mod_total : ∀ (d bc bs : Nat)  (m : aM) (r : Int32) (m' : aM), rc_Mod_total  m = some (r, m') → D0 ≤ d → Sp K M_Mod_total d bc bs [.ref 242] (g, m) (some (.int r)) (g, m')) (rc_Mod_test : aM → Option (Int32 × aM)) (hc_Mod_test : ∀ (d bc bs : Nat)  (m : aM) (r : Int32) (m' : aM), rc_Mod_test  m = some (r, m') → D0 ≤ d → Sp K M_Mod_test d bc bs [.ref 242] (g, m) (some (.int r)) (g, m')) : ∀ (N : Nat) (x1 : Int32) (m : aM), Q (.inl (some (.int r))) (g, m') → ll_Mod_ands_5 F rc_Mod_total rc_Mod_test N x1 m = some (r, m') → D0 + 4 ≤ d → G K M_Mod_ands d bc bs 5 [.ref 242, .int x1, .double 0] [] (g, m) Q
  | 0, _, _ => fun _ e => nomatch e
  | N + 1, x1, m => fun hq e hd => tb_Mod_ands_5 s F D0 rc_Mod_total hc_Mod_total rc_Mod_test hc_Mod_test (ll_Mod_ands_5 F rc_Mod_total rc_Mod_test N) (fun x1 m e => t_Mod_ands_5 s F D0 rc_Mod_total hc_Mod_total rc_Mod_test hc_Mod_test N x1 m hq e hd) x1 m hq e hd
def g_Mod_ands (F : Nat) (rc_Mod_total : aM → Option (Int32 × aM)) (rc_Mod_test : aM → Option (Int32 × aM))  (m : aM) : Option (Int32 × aM) :=
  o_b2 (rc_Mod_test  m) fun y1 m2 =>
  ll_Mod_ands_5 F rc_Mod_total rc_Mod_test F y1 m2
theorem sg_Mod_ands {K : aK} {d bc bs : Nat} {g : aG} (s : SyM g) (F : Nat) (D0 : Nat) (rc_Mod_total : aM → Option (Int32 × aM)) (hc_Mod_total : ∀ (d bc bs : Nat)  (m : aM) (r : Int32) (m' : aM), rc_Mod_total  m = some (r, m') → D0 ≤ d → Sp K M_Mod_total d bc bs [.ref 242] (g, m) (some (.int r)) (g, m')) (rc_Mod_test : aM → Option (Int32 × aM)) (hc_Mod_test : ∀ (d bc bs : Nat)  (m : aM) (r : Int32) (m' : aM), rc_Mod_test  m = some (r, m') → D0 ≤ d → Sp K M_Mod_test d bc bs [.ref 242] (g, m) (some (.int r)) (g, m'))  (m : aM) {r : Int32} {m' : aM} (e : g_Mod_ands F rc_Mod_total rc_Mod_test  m = some (r, m')) (hd : D0 + 4 ≤ d) : Sp K M_Mod_ands d bc bs [.ref 242] (g, m) (some (.int r)) (g, m') := by
  refine sp_of ok_Mod_ands rfl (Nat.le_of_ble_eq_true rfl) (by simp [Value.category]) (fun Q hq => ?_)
  unfold g_Mod_ands at e
  refine g_aload_n k_Mod_ands_0 rfl rfl ?_
  obtain ⟨y1, m2, e_y1, e⟩ := o_b2_ex e
  refine g_cv k_Mod_ands_1 lv_Mod_218 (by decide +kernel) (T := F_Mod) (N := 61) (ci := 10) rfl (sk_Mod s) (hc_Mod_test _ 0 0  m _ _ e_y1 (by omega)) rfl rfl (Nat.le_of_ble_eq_true rfl) (by simp [Value.category]) (by omega) (by omega) (by omega) ?_
  refine g_istore_n k_Mod_ands_4 rfl (by decide) ?_
  exact (t_Mod_ands_5 s F D0 rc_Mod_total hc_Mod_total rc_Mod_test hc_Mod_test F y1 m2 hq e hd)
def b_Mod_ors_51 (F : Nat) (rc_Mod_total : aM → Option (Int32 × aM)) (rc_Mod_test : aM → Option (Int32 × aM)) (rec_5 : Int32 → aM → Option (Int32 × aM)) (xt0 : Int32) (m : aM) : Option (Int32 × aM) :=
  rec_5 xt0 m
theorem t_Mod_ors_51 {K : aK} {d bc bs : Nat} {g : aG} (s : SyM g) {Q : aQ} {r : Int32} {m' : aM} (F : Nat) (D0 : Nat) (rc_Mod_total : aM → Option (Int32 × aM)) (hc_Mod_total : ∀ (d bc bs : Nat)  (m : aM) (r : Int32) (m' : aM), rc_Mod_total  m = some (r, m') → D0 ≤ d → Sp K M_Mod_total d bc bs [.ref 242] (g, m) (some (.int r)) (g, m')) (rc_Mod_test : aM → Option (Int32 × aM)) (hc_Mod_test : ∀ (d bc bs : Nat)  (m : aM) (r : Int32) (m' : aM), rc_Mod_test  m = some (r, m') → D0 ≤ d → Sp K M_Mod_test d bc bs [.ref 242] (g, m) (some (.int r)) (g, m')) (rec_5 : Int32 → aM → Option (Int32 × aM)) (hr_5 : ∀ (x1 : Int32) (m : aM), rec_5 x1 m = some (r, m') → G K M_Mod_ors d bc bs 5 [.ref 242, .int x1, .double 0] [] (g, m) Q) (xt0 : Int32) (m : aM) (hq : Q (.inl (some (.int r))) (g, m')) (e : b_Mod_ors_51 F rc_Mod_total rc_Mod_test rec_5 xt0 m = some (r, m')) (hd : D0 + 6 ≤ d) : G K M_Mod_ors d bc bs 51 [.ref 242, .double 0, .double 0] [.int xt0] (g, m) Q := by
  unfold b_Mod_ors_51 at e
  refine g_istore_n k_Mod_ors_51 rfl (by decide) ?_
  refine g_goto (tgt := 5) k_Mod_ors_52 (by decide) ?_
  exact (hr_5 xt0 m e)
def b_Mod_ors_46 (F : Nat) (rc_Mod_total : aM → Option (Int32 × aM)) (rc_Mod_test : aM → Option (Int32 × aM)) (rec_5 : Int32 → aM → Option (Int32 × aM))  (m : aM) : Option (Int32 × aM) :=
  b_Mod_ors_51 F rc_Mod_total rc_Mod_test rec_5 1 m
theorem t_Mod_ors_46 {K : aK} {d bc bs : Nat} {g : aG} (s : SyM g) {Q : aQ} {r : Int32} {m' : aM} (F : Nat) (D0 : Nat) (rc_Mod_total : aM → Option (Int32 × aM)) (hc_Mod_total : ∀ (d bc bs : Nat)  (m : aM) (r : Int32) (m' : aM), rc_Mod_total  m = some (r, m') → D0 ≤ d → Sp K M_Mod_total d bc bs [.ref 242] (g, m) (some (.int r)) (g, m')) (rc_Mod_test : aM → Option (Int32 × aM)) (hc_Mod_test : ∀ (d bc bs : Nat)  (m : aM) (r : Int32) (m' : aM), rc_Mod_test  m = some (r, m') → D0 ≤ d → Sp K M_Mod_test d bc bs [.ref 242] (g, m) (some (.int r)) (g, m')) (rec_5 : Int32 → aM → Option (Int32 × aM)) (hr_5 : ∀ (x1 : Int32) (m : aM), rec_5 x1 m = some (r, m') → G K M_Mod_ors d bc bs 5 [.ref 242, .int x1, .double 0] [] (g, m) Q)  (m : aM) (hq : Q (.inl (some (.int r))) (g, m')) (e : b_Mod_ors_46 F rc_Mod_total rc_Mod_test rec_5  m = some (r, m')) (hd : D0 + 6 ≤ d) : G K M_Mod_ors d bc bs 46 [.ref 242, .double 0, .double 0] [] (g, m) Q := by
  unfold b_Mod_ors_46 at e
  refine g_iconst (v := 1) k_Mod_ors_46 rfl ?_
  refine g_goto (tgt := 51) k_Mod_ors_47 (by decide) ?_
  exact (t_Mod_ors_51 s F D0 rc_Mod_total hc_Mod_total rc_Mod_test hc_Mod_test rec_5 hr_5 1 m hq e hd)
def lb_Mod_ors_5 (F : Nat) (rc_Mod_total : aM → Option (Int32 × aM)) (rc_Mod_test : aM → Option (Int32 × aM)) (rec_5 : Int32 → aM → Option (Int32 × aM)) (x1 : Int32) (m : aM) : Option (Int32 × aM) :=
  (if (m 242 15) = 0 then
  o_b2 (f_Mod_wordHere F  m) fun y1 m2 =>
  o_b (f_Mod_word 15 18 0 0 0 m2) fun y3 =>
  (if y1 = y3 then
  o_b2 (f_Mod_skipWord F  m2) fun y4 m5 =>
  o_b2 (g_Mod_ands F rc_Mod_total rc_Mod_test  m5) fun y6 m7 =>
  (if x1 = 0 then
  (if y6 = 0 then
  b_Mod_ors_51 F rc_Mod_total rc_Mod_test rec_5 0 m7
  else
  b_Mod_ors_46 F rc_Mod_total rc_Mod_test rec_5  m7
  )
  else
  b_Mod_ors_46 F rc_Mod_total rc_Mod_test rec_5  m7
  )
  else
  o_gd (isb x1) <|
  some (x1, m2)
  )
  else
  o_gd (isb x1) <|
  some (x1, m)
  )
theorem tb_Mod_ors_5 {K : aK} {d bc bs : Nat} {g : aG} (s : SyM g) {Q : aQ} {r : Int32} {m' : aM} (F : Nat) (D0 : Nat) (rc_Mod_total : aM → Option (Int32 × aM)) (hc_Mod_total : ∀ (d bc bs : Nat)  (m : aM) (r : Int32) (m' : aM), rc_Mod_total  m = some (r, m') → D0 ≤ d → Sp K M_Mod_total d bc bs [.ref 242] (g, m) (some (.int r)) (g, m')) (rc_Mod_test : aM → Option (Int32 × aM)) (hc_Mod_test : ∀ (d bc bs : Nat)  (m : aM) (r : Int32) (m' : aM), rc_Mod_test  m = some (r, m') → D0 ≤ d → Sp K M_Mod_test d bc bs [.ref 242] (g, m) (some (.int r)) (g, m')) (rec_5 : Int32 → aM → Option (Int32 × aM)) (hr_5 : ∀ (x1 : Int32) (m : aM), rec_5 x1 m = some (r, m') → G K M_Mod_ors d bc bs 5 [.ref 242, .int x1, .double 0] [] (g, m) Q) (x1 : Int32) (m : aM) (hq : Q (.inl (some (.int r))) (g, m')) (e : lb_Mod_ors_5 F rc_Mod_total rc_Mod_test rec_5 x1 m = some (r, m')) (hd : D0 + 6 ≤ d) : G K M_Mod_ors d bc bs 5 [.ref 242, .int x1, .double 0] [] (g, m) Q := by
  unfold lb_Mod_ors_5 at e
  refine g_aload_n k_Mod_ors_5 rfl rfl ?_
  refine p_geti k_Mod_ors_6 fl_Mod_150 rfl (sk_Mod s) (by decide) ?_
  refine g_if_ne (tgt := 55) k_Mod_ors_9 (by decide) (fun c => ?_) (fun c => ?_)
  · rw [if_pos c] at e
    refine g_aload_n k_Mod_ors_12 rfl rfl ?_
    obtain ⟨y1, m2, e_y1, e⟩ := o_b2_ex e
    refine g_cv k_Mod_ors_13 lv_Mod_188 (by decide +kernel) (T := F_Mod) (N := 61) (ci := 10) rfl (sk_Mod s) (s_Mod_wordHere (bc := 0) (bs := 0) s F  m e_y1 (by omega)) rfl rfl (Nat.le_of_ble_eq_true rfl) (by simp [Value.category]) (by omega) (by omega) (by omega) ?_
    refine g_bipush (v := 15) k_Mod_ors_16 rfl ?_
    refine g_bipush (v := 18) k_Mod_ors_18 rfl ?_
    refine g_iconst (v := 0) k_Mod_ors_20 rfl ?_
    refine g_iconst (v := 0) k_Mod_ors_21 rfl ?_
    refine g_iconst (v := 0) k_Mod_ors_22 rfl ?_
    obtain ⟨y3, e_y3, e⟩ := o_b_ex e
    refine g_cs k_Mod_ors_23 ls_Mod_191 (by decide +kernel) (s_Mod_word (bc := 0) (bs := 0) s 15 18 0 0 0 m2 e_y3) rfl rfl (Nat.le_of_ble_eq_true rfl) (by simp [Value.category]) (by omega) (by omega) (by omega) ?_
    refine g_icmp_ne (tgt := 55) k_Mod_ors_26 (by decide) (fun c => ?_) (fun c => ?_)
    · rw [if_pos c] at e
      refine g_aload_n k_Mod_ors_29 rfl rfl ?_
      obtain ⟨y4, m5, e_y4, e⟩ := o_b2_ex e
      refine g_cv k_Mod_ors_30 lv_Mod_195 (by decide +kernel) (T := F_Mod) (N := 61) (ci := 10) rfl (sk_Mod s) (s_Mod_skipWord (bc := 0) (bs := 0) s F  m2 e_y4 (by omega)) rfl rfl (Nat.le_of_ble_eq_true rfl) (by simp [Value.category]) (by omega) (by omega) (by omega) ?_
      refine g_aload_n k_Mod_ors_33 rfl rfl ?_
      obtain ⟨y6, m7, e_y6, e⟩ := o_b2_ex e
      refine g_cv k_Mod_ors_34 lv_Mod_221 (by decide +kernel) (T := F_Mod) (N := 61) (ci := 10) rfl (sk_Mod s) (sg_Mod_ands (bc := 0) (bs := 0) s F D0 rc_Mod_total hc_Mod_total rc_Mod_test hc_Mod_test  m5 e_y6 (by omega)) rfl rfl (Nat.le_of_ble_eq_true rfl) (by simp [Value.category]) (by omega) (by omega) (by omega) ?_
      refine g_istore_n k_Mod_ors_37 rfl (by decide) ?_
      refine g_iload_n k_Mod_ors_38 rfl rfl ?_
      refine g_if_ne (tgt := 46) k_Mod_ors_39 (by decide) (fun c => ?_) (fun c => ?_)
      · rw [if_pos c] at e
        refine g_iload_n k_Mod_ors_42 rfl rfl ?_
        refine g_if_eq (tgt := 50) k_Mod_ors_43 (by decide) (fun c => ?_) (fun c => ?_)
        · rw [if_pos c] at e
          refine g_iconst (v := 0) k_Mod_ors_50 rfl ?_
          exact G.wl (wls (wld (wld wl0))) (t_Mod_ors_51 s F D0 rc_Mod_total hc_Mod_total rc_Mod_test hc_Mod_test rec_5 hr_5 0 m7 hq e hd)
        · rw [if_neg c] at e
          exact G.wl (wls (wld (wld wl0))) (t_Mod_ors_46 s F D0 rc_Mod_total hc_Mod_total rc_Mod_test hc_Mod_test rec_5 hr_5  m7 hq e hd)
      · rw [if_neg c] at e
        exact G.wl (wls (wld (wld wl0))) (t_Mod_ors_46 s F D0 rc_Mod_total hc_Mod_total rc_Mod_test hc_Mod_test rec_5 hr_5  m7 hq e hd)
    · rw [if_neg c] at e
      refine g_iload_n k_Mod_ors_55 rfl rfl ?_
      obtain ⟨q8, e⟩ := o_gd_ex e
      refine g_zret k_Mod_ors_56 rfl (isb_or q8) ?_
      exact (by cases e; exact hq)
  · rw [if_neg c] at e
    refine g_iload_n k_Mod_ors_55 rfl rfl ?_
    obtain ⟨q9, e⟩ := o_gd_ex e
    refine g_zret k_Mod_ors_56 rfl (isb_or q9) ?_
    exact (by cases e; exact hq)
def ll_Mod_ors_5 (F : Nat) (rc_Mod_total : aM → Option (Int32 × aM)) (rc_Mod_test : aM → Option (Int32 × aM)) : Nat → Int32 → aM → Option (Int32 × aM)
  | 0, _, _ => none
  | N + 1, x1, m => lb_Mod_ors_5 F rc_Mod_total rc_Mod_test (ll_Mod_ors_5 F rc_Mod_total rc_Mod_test N) x1 m
theorem t_Mod_ors_5 {K : aK} {d bc bs : Nat} {g : aG} (s : SyM g) {Q : aQ} {r : Int32} {m' : aM} (F : Nat) (D0 : Nat) (rc_Mod_total : aM → Option (Int32 × aM)) (hc_Mod_total : ∀ (d bc bs : Nat)  (m : aM) (r : Int32) (m' : aM), rc_Mod_total  m = some (r, m') → D0 ≤ d → Sp K M_Mod_total d bc bs [.ref 242] (g, m) (some (.int r)) (g, m')) (rc_Mod_test : aM → Option (Int32 × aM)) (hc_Mod_test : ∀ (d bc bs : Nat)  (m : aM) (r : Int32) (m' : aM), rc_Mod_test  m = some (r, m') → D0 ≤ d → Sp K M_Mod_test d bc bs [.ref 242] (g, m) (some (.int r)) (g, m')) : ∀ (N : Nat) (x1 : Int32) (m : aM), Q (.inl (some (.int r))) (g, m') → ll_Mod_ors_5 F rc_Mod_total rc_Mod_test N x1 m = some (r, m') → D0 + 6 ≤ d → G K M_Mod_ors d bc bs 5 [.ref 242, .int x1, .double 0] [] (g, m) Q
  | 0, _, _ => fun _ e => nomatch e
  | N + 1, x1, m => fun hq e hd => tb_Mod_ors_5 s F D0 rc_Mod_total hc_Mod_total rc_Mod_test hc_Mod_test (ll_Mod_ors_5 F rc_Mod_total rc_Mod_test N) (fun x1 m e => t_Mod_ors_5 s F D0 rc_Mod_total hc_Mod_total rc_Mod_test hc_Mod_test N x1 m hq e hd) x1 m hq e hd
def g_Mod_ors (F : Nat) (rc_Mod_total : aM → Option (Int32 × aM)) (rc_Mod_test : aM → Option (Int32 × aM))  (m : aM) : Option (Int32 × aM) :=
  o_b2 (g_Mod_ands F rc_Mod_total rc_Mod_test  m) fun y1 m2 =>
  ll_Mod_ors_5 F rc_Mod_total rc_Mod_test F y1 m2
theorem sg_Mod_ors {K : aK} {d bc bs : Nat} {g : aG} (s : SyM g) (F : Nat) (D0 : Nat) (rc_Mod_total : aM → Option (Int32 × aM)) (hc_Mod_total : ∀ (d bc bs : Nat)  (m : aM) (r : Int32) (m' : aM), rc_Mod_total  m = some (r, m') → D0 ≤ d → Sp K M_Mod_total d bc bs [.ref 242] (g, m) (some (.int r)) (g, m')) (rc_Mod_test : aM → Option (Int32 × aM)) (hc_Mod_test : ∀ (d bc bs : Nat)  (m : aM) (r : Int32) (m' : aM), rc_Mod_test  m = some (r, m') → D0 ≤ d → Sp K M_Mod_test d bc bs [.ref 242] (g, m) (some (.int r)) (g, m'))  (m : aM) {r : Int32} {m' : aM} (e : g_Mod_ors F rc_Mod_total rc_Mod_test  m = some (r, m')) (hd : D0 + 6 ≤ d) : Sp K M_Mod_ors d bc bs [.ref 242] (g, m) (some (.int r)) (g, m') := by
  refine sp_of ok_Mod_ors rfl (Nat.le_of_ble_eq_true rfl) (by simp [Value.category]) (fun Q hq => ?_)
  unfold g_Mod_ors at e
  refine g_aload_n k_Mod_ors_0 rfl rfl ?_
  obtain ⟨y1, m2, e_y1, e⟩ := o_b2_ex e
  refine g_cv k_Mod_ors_1 lv_Mod_221 (by decide +kernel) (T := F_Mod) (N := 61) (ci := 10) rfl (sk_Mod s) (sg_Mod_ands (bc := 0) (bs := 0) s F D0 rc_Mod_total hc_Mod_total rc_Mod_test hc_Mod_test  m e_y1 (by omega)) rfl rfl (Nat.le_of_ble_eq_true rfl) (by simp [Value.category]) (by omega) (by omega) (by omega) ?_
  refine g_istore_n k_Mod_ors_4 rfl (by decide) ?_
  exact (t_Mod_ors_5 s F D0 rc_Mod_total hc_Mod_total rc_Mod_test hc_Mod_test F y1 m2 hq e hd)
def b_Mod_unit_324 (F : Nat) (rc_Mod_total : aM → Option (Int32 × aM)) (rc_Mod_test : aM → Option (Int32 × aM)) (x7 : Int32) (m : aM) : Option (Int32 × aM) :=
  o_b2 (f_Mod_sign F 41 m) fun y1 m2 =>
  o_let (a_st m2 242 14 ((m2 242 14) - 1)) fun m3 =>
  some (x7, m3)
theorem t_Mod_unit_324 {K : aK} {d bc bs : Nat} {g : aG} (s : SyM g) {Q : aQ} {r : Int32} {m' : aM} (F : Nat) (D0 : Nat) (rc_Mod_total : aM → Option (Int32 × aM)) (hc_Mod_total : ∀ (d bc bs : Nat)  (m : aM) (r : Int32) (m' : aM), rc_Mod_total  m = some (r, m') → D0 ≤ d → Sp K M_Mod_total d bc bs [.ref 242] (g, m) (some (.int r)) (g, m')) (rc_Mod_test : aM → Option (Int32 × aM)) (hc_Mod_test : ∀ (d bc bs : Nat)  (m : aM) (r : Int32) (m' : aM), rc_Mod_test  m = some (r, m') → D0 ≤ d → Sp K M_Mod_test d bc bs [.ref 242] (g, m) (some (.int r)) (g, m')) (x7 : Int32) (m : aM) (hq : Q (.inl (some (.int r))) (g, m')) (e : b_Mod_unit_324 F rc_Mod_total rc_Mod_test x7 m = some (r, m')) (hd : D0 + 8 ≤ d) : G K M_Mod_unit d bc bs 324 [.ref 242, .double 0, .double 0, .double 0, .double 0, .double 0, .double 0, .int x7, .double 0] [] (g, m) Q := by
  unfold b_Mod_unit_324 at e
  refine g_aload_n k_Mod_unit_324 rfl rfl ?_
  refine g_bipush (v := 41) k_Mod_unit_325 rfl ?_
  obtain ⟨y1, m2, e_y1, e⟩ := o_b2_ex e
  refine g_cv k_Mod_unit_327 lv_Mod_206 (by decide +kernel) (T := F_Mod) (N := 61) (ci := 10) rfl (sk_Mod s) (s_Mod_sign (bc := 0) (bs := 0) s F 41 m e_y1 (by omega)) rfl rfl (Nat.le_of_ble_eq_true rfl) (by simp [Value.category]) (by omega) (by omega) (by omega) ?_
  refine g_aload_n k_Mod_unit_330 rfl rfl ?_
  refine g_dup k_Mod_unit_331 rfl ?_
  refine p_geti k_Mod_unit_332 fl_Mod_174 rfl (sk_Mod s) (by decide) ?_
  refine g_iconst (v := 1) k_Mod_unit_335 rfl ?_
  refine g_isub k_Mod_unit_336 ?_
  refine p_puti k_Mod_unit_337 fl_Mod_174 rfl ⟨R_Mod, F_Mod, 61, rfl, Or.inl rfl⟩ (sk_Mod s) (by decide) ?_
  obtain ⟨m3, u_m3, e⟩ := o_let_ex e
  refine G.hm u_m3 ?_
  refine g_iload k_Mod_unit_340 rfl ?_
  refine g_iret k_Mod_unit_342 rfl ?_
  exact (by cases e; exact hq)
def b_Mod_unit_322 (F : Nat) (rc_Mod_total : aM → Option (Int32 × aM)) (rc_Mod_test : aM → Option (Int32 × aM)) (xt0 : Int32) (m : aM) : Option (Int32 × aM) :=
  b_Mod_unit_324 F rc_Mod_total rc_Mod_test xt0 m
theorem t_Mod_unit_322 {K : aK} {d bc bs : Nat} {g : aG} (s : SyM g) {Q : aQ} {r : Int32} {m' : aM} (F : Nat) (D0 : Nat) (rc_Mod_total : aM → Option (Int32 × aM)) (hc_Mod_total : ∀ (d bc bs : Nat)  (m : aM) (r : Int32) (m' : aM), rc_Mod_total  m = some (r, m') → D0 ≤ d → Sp K M_Mod_total d bc bs [.ref 242] (g, m) (some (.int r)) (g, m')) (rc_Mod_test : aM → Option (Int32 × aM)) (hc_Mod_test : ∀ (d bc bs : Nat)  (m : aM) (r : Int32) (m' : aM), rc_Mod_test  m = some (r, m') → D0 ≤ d → Sp K M_Mod_test d bc bs [.ref 242] (g, m) (some (.int r)) (g, m')) (xt0 : Int32) (m : aM) (hq : Q (.inl (some (.int r))) (g, m')) (e : b_Mod_unit_322 F rc_Mod_total rc_Mod_test xt0 m = some (r, m')) (hd : D0 + 8 ≤ d) : G K M_Mod_unit d bc bs 322 [.ref 242, .double 0, .double 0, .double 0, .double 0, .double 0, .double 0, .double 0, .double 0] [.int xt0] (g, m) Q := by
  unfold b_Mod_unit_322 at e
  refine g_istore k_Mod_unit_322 (by decide) ?_
  exact (t_Mod_unit_324 s F D0 rc_Mod_total hc_Mod_total rc_Mod_test hc_Mod_test xt0 m hq e hd)
def b_Mod_unit_312 (F : Nat) (rc_Mod_total : aM → Option (Int32 × aM)) (rc_Mod_test : aM → Option (Int32 × aM)) (x7 : Int32) (x8 : Int32) (xt0 : Int32) (xt1 : Int32) (m : aM) : Option (Int32 × aM) :=
  (if xt1 = xt0 then
  b_Mod_unit_322 F rc_Mod_total rc_Mod_test x8 m
  else
  b_Mod_unit_322 F rc_Mod_total rc_Mod_test x7 m
  )
theorem t_Mod_unit_312 {K : aK} {d bc bs : Nat} {g : aG} (s : SyM g) {Q : aQ} {r : Int32} {m' : aM} (F : Nat) (D0 : Nat) (rc_Mod_total : aM → Option (Int32 × aM)) (hc_Mod_total : ∀ (d bc bs : Nat)  (m : aM) (r : Int32) (m' : aM), rc_Mod_total  m = some (r, m') → D0 ≤ d → Sp K M_Mod_total d bc bs [.ref 242] (g, m) (some (.int r)) (g, m')) (rc_Mod_test : aM → Option (Int32 × aM)) (hc_Mod_test : ∀ (d bc bs : Nat)  (m : aM) (r : Int32) (m' : aM), rc_Mod_test  m = some (r, m') → D0 ≤ d → Sp K M_Mod_test d bc bs [.ref 242] (g, m) (some (.int r)) (g, m')) (x7 : Int32) (x8 : Int32) (xt0 : Int32) (xt1 : Int32) (m : aM) (hq : Q (.inl (some (.int r))) (g, m')) (e : b_Mod_unit_312 F rc_Mod_total rc_Mod_test x7 x8 xt0 xt1 m = some (r, m')) (hd : D0 + 8 ≤ d) : G K M_Mod_unit d bc bs 312 [.ref 242, .double 0, .double 0, .double 0, .double 0, .double 0, .double 0, .int x7, .int x8] [.int xt0, .int xt1] (g, m) Q := by
  unfold b_Mod_unit_312 at e
  refine g_icmp_ne (tgt := 320) k_Mod_unit_312 (by decide) (fun c => ?_) (fun c => ?_)
  · rw [if_pos c] at e
    refine g_iload k_Mod_unit_315 rfl ?_
    refine g_goto (tgt := 322) k_Mod_unit_317 (by decide) ?_
    exact G.wl (wls (wls (wls (wls (wls (wls (wls (wld (wld wl0))))))))) (t_Mod_unit_322 s F D0 rc_Mod_total hc_Mod_total rc_Mod_test hc_Mod_test x8 m hq e hd)
  · rw [if_neg c] at e
    refine g_iload k_Mod_unit_320 rfl ?_
    exact G.wl (wls (wls (wls (wls (wls (wls (wls (wld (wld wl0))))))))) (t_Mod_unit_322 s F D0 rc_Mod_total hc_Mod_total rc_Mod_test hc_Mod_test x7 m hq e hd)
def b_Mod_unit_267 (F : Nat) (rc_Mod_total : aM → Option (Int32 × aM)) (rc_Mod_test : aM → Option (Int32 × aM)) (x3 : Int32) (x5 : Int32) (x6 : Int32) (x7 : Int32) (m : aM) : Option (Int32 × aM) :=
  o_b2 (f_Mod_sign F 44 m) fun y1 m2 =>
  o_b2 (rc_Mod_total  m2) fun y3 m4 =>
  (if x5 = 0 then
  (if x7 ≤ y3 then
  b_Mod_unit_312 F rc_Mod_total rc_Mod_test x7 y3 0 x3 m4
  else
  b_Mod_unit_312 F rc_Mod_total rc_Mod_test x7 y3 1 x3 m4
  )
  else
  (if x6 = 0 then
  b_Mod_unit_322 F rc_Mod_total rc_Mod_test y3 m4
  else
  b_Mod_unit_322 F rc_Mod_total rc_Mod_test x7 m4
  )
  )
theorem t_Mod_unit_267 {K : aK} {d bc bs : Nat} {g : aG} (s : SyM g) {Q : aQ} {r : Int32} {m' : aM} (F : Nat) (D0 : Nat) (rc_Mod_total : aM → Option (Int32 × aM)) (hc_Mod_total : ∀ (d bc bs : Nat)  (m : aM) (r : Int32) (m' : aM), rc_Mod_total  m = some (r, m') → D0 ≤ d → Sp K M_Mod_total d bc bs [.ref 242] (g, m) (some (.int r)) (g, m')) (rc_Mod_test : aM → Option (Int32 × aM)) (hc_Mod_test : ∀ (d bc bs : Nat)  (m : aM) (r : Int32) (m' : aM), rc_Mod_test  m = some (r, m') → D0 ≤ d → Sp K M_Mod_test d bc bs [.ref 242] (g, m) (some (.int r)) (g, m')) (x3 : Int32) (x5 : Int32) (x6 : Int32) (x7 : Int32) (m : aM) (hq : Q (.inl (some (.int r))) (g, m')) (e : b_Mod_unit_267 F rc_Mod_total rc_Mod_test x3 x5 x6 x7 m = some (r, m')) (hd : D0 + 8 ≤ d) : G K M_Mod_unit d bc bs 267 [.ref 242, .double 0, .double 0, .int x3, .double 0, .int x5, .int x6, .int x7, .double 0] [] (g, m) Q := by
  unfold b_Mod_unit_267 at e
  refine g_aload_n k_Mod_unit_267 rfl rfl ?_
  refine g_bipush (v := 44) k_Mod_unit_268 rfl ?_
  obtain ⟨y1, m2, e_y1, e⟩ := o_b2_ex e
  refine g_cv k_Mod_unit_270 lv_Mod_206 (by decide +kernel) (T := F_Mod) (N := 61) (ci := 10) rfl (sk_Mod s) (s_Mod_sign (bc := 0) (bs := 0) s F 44 m e_y1 (by omega)) rfl rfl (Nat.le_of_ble_eq_true rfl) (by simp [Value.category]) (by omega) (by omega) (by omega) ?_
  refine g_aload_n k_Mod_unit_273 rfl rfl ?_
  obtain ⟨y3, m4, e_y3, e⟩ := o_b2_ex e
  refine g_cv k_Mod_unit_274 lv_Mod_209 (by decide +kernel) (T := F_Mod) (N := 61) (ci := 10) rfl (sk_Mod s) (hc_Mod_total _ 0 0  m2 _ _ e_y3 (by omega)) rfl rfl (Nat.le_of_ble_eq_true rfl) (by simp [Value.category]) (by omega) (by omega) (by omega) ?_
  refine g_istore k_Mod_unit_277 (by decide) ?_
  refine g_iload k_Mod_unit_279 rfl ?_
  refine g_if_eq (tgt := 299) k_Mod_unit_281 (by decide) (fun c => ?_) (fun c => ?_)
  · rw [if_pos c] at e
    refine g_iload_n k_Mod_unit_299 rfl rfl ?_
    refine g_iload k_Mod_unit_300 rfl ?_
    refine g_iload k_Mod_unit_302 rfl ?_
    refine g_icmp_ge (tgt := 311) k_Mod_unit_304 (by decide) (fun c => ?_) (fun c => ?_)
    · rw [if_pos c] at e
      refine g_iconst (v := 0) k_Mod_unit_311 rfl ?_
      exact G.wl (wls (wls (wls (wld (wls (wld (wld (wls (wls wl0))))))))) (t_Mod_unit_312 s F D0 rc_Mod_total hc_Mod_total rc_Mod_test hc_Mod_test x7 y3 0 x3 m4 hq e hd)
    · rw [if_neg c] at e
      refine g_iconst (v := 1) k_Mod_unit_307 rfl ?_
      refine g_goto (tgt := 312) k_Mod_unit_308 (by decide) ?_
      exact G.wl (wls (wls (wls (wld (wls (wld (wld (wls (wls wl0))))))))) (t_Mod_unit_312 s F D0 rc_Mod_total hc_Mod_total rc_Mod_test hc_Mod_test x7 y3 1 x3 m4 hq e hd)
  · rw [if_neg c] at e
    refine g_iload k_Mod_unit_284 rfl ?_
    refine g_if_eq (tgt := 294) k_Mod_unit_286 (by decide) (fun c => ?_) (fun c => ?_)
    · rw [if_pos c] at e
      refine g_iload k_Mod_unit_294 rfl ?_
      refine g_goto (tgt := 322) k_Mod_unit_296 (by decide) ?_
      exact G.wl (wls (wls (wls (wld (wls (wld (wld (wld (wld wl0))))))))) (t_Mod_unit_322 s F D0 rc_Mod_total hc_Mod_total rc_Mod_test hc_Mod_test y3 m4 hq e hd)
    · rw [if_neg c] at e
      refine g_iload k_Mod_unit_289 rfl ?_
      refine g_goto (tgt := 322) k_Mod_unit_291 (by decide) ?_
      exact G.wl (wls (wls (wls (wld (wls (wld (wld (wld (wld wl0))))))))) (t_Mod_unit_322 s F D0 rc_Mod_total hc_Mod_total rc_Mod_test hc_Mod_test x7 m4 hq e hd)
def b_Mod_unit_247 (F : Nat) (rc_Mod_total : aM → Option (Int32 × aM)) (rc_Mod_test : aM → Option (Int32 × aM)) (x3 : Int32) (x4 : Int32) (x5 : Int32) (x6 : Int32) (m : aM) : Option (Int32 × aM) :=
  o_b2 (rc_Mod_total  m) fun y1 m2 =>
  (if x3 = 0 then
  (if x4 = 0 then
  (if x5 = 0 then
  b_Mod_unit_324 F rc_Mod_total rc_Mod_test y1 m2
  else
  b_Mod_unit_267 F rc_Mod_total rc_Mod_test x3 x5 x6 y1 m2
  )
  else
  b_Mod_unit_267 F rc_Mod_total rc_Mod_test x3 x5 x6 y1 m2
  )
  else
  b_Mod_unit_267 F rc_Mod_total rc_Mod_test x3 x5 x6 y1 m2
  )
theorem t_Mod_unit_247 {K : aK} {d bc bs : Nat} {g : aG} (s : SyM g) {Q : aQ} {r : Int32} {m' : aM} (F : Nat) (D0 : Nat) (rc_Mod_total : aM → Option (Int32 × aM)) (hc_Mod_total : ∀ (d bc bs : Nat)  (m : aM) (r : Int32) (m' : aM), rc_Mod_total  m = some (r, m') → D0 ≤ d → Sp K M_Mod_total d bc bs [.ref 242] (g, m) (some (.int r)) (g, m')) (rc_Mod_test : aM → Option (Int32 × aM)) (hc_Mod_test : ∀ (d bc bs : Nat)  (m : aM) (r : Int32) (m' : aM), rc_Mod_test  m = some (r, m') → D0 ≤ d → Sp K M_Mod_test d bc bs [.ref 242] (g, m) (some (.int r)) (g, m')) (x3 : Int32) (x4 : Int32) (x5 : Int32) (x6 : Int32) (m : aM) (hq : Q (.inl (some (.int r))) (g, m')) (e : b_Mod_unit_247 F rc_Mod_total rc_Mod_test x3 x4 x5 x6 m = some (r, m')) (hd : D0 + 8 ≤ d) : G K M_Mod_unit d bc bs 247 [.ref 242, .double 0, .double 0, .int x3, .int x4, .int x5, .int x6, .double 0, .double 0] [] (g, m) Q := by
  unfold b_Mod_unit_247 at e
  refine g_aload_n k_Mod_unit_247 rfl rfl ?_
  obtain ⟨y1, m2, e_y1, e⟩ := o_b2_ex e
  refine g_cv k_Mod_unit_248 lv_Mod_209 (by decide +kernel) (T := F_Mod) (N := 61) (ci := 10) rfl (sk_Mod s) (hc_Mod_total _ 0 0  m _ _ e_y1 (by omega)) rfl rfl (Nat.le_of_ble_eq_true rfl) (by simp [Value.category]) (by omega) (by omega) (by omega) ?_
  refine g_istore k_Mod_unit_251 (by decide) ?_
  refine g_iload_n k_Mod_unit_253 rfl rfl ?_
  refine g_if_ne (tgt := 267) k_Mod_unit_254 (by decide) (fun c => ?_) (fun c => ?_)
  · rw [if_pos c] at e
    refine g_iload k_Mod_unit_257 rfl ?_
    refine g_if_ne (tgt := 267) k_Mod_unit_259 (by decide) (fun c => ?_) (fun c => ?_)
    · rw [if_pos c] at e
      refine g_iload k_Mod_unit_262 rfl ?_
      refine g_if_eq (tgt := 324) k_Mod_unit_264 (by decide) (fun c => ?_) (fun c => ?_)
      · rw [if_pos c] at e
        exact G.wl (wls (wls (wls (wld (wld (wld (wld (wls (wls wl0))))))))) (t_Mod_unit_324 s F D0 rc_Mod_total hc_Mod_total rc_Mod_test hc_Mod_test y1 m2 hq e hd)
      · rw [if_neg c] at e
        exact G.wl (wls (wls (wls (wls (wld (wls (wls (wls (wls wl0))))))))) (t_Mod_unit_267 s F D0 rc_Mod_total hc_Mod_total rc_Mod_test hc_Mod_test x3 x5 x6 y1 m2 hq e hd)
    · rw [if_neg c] at e
      exact G.wl (wls (wls (wls (wls (wld (wls (wls (wls (wls wl0))))))))) (t_Mod_unit_267 s F D0 rc_Mod_total hc_Mod_total rc_Mod_test hc_Mod_test x3 x5 x6 y1 m2 hq e hd)
  · rw [if_neg c] at e
    exact G.wl (wls (wls (wls (wls (wld (wls (wls (wls (wls wl0))))))))) (t_Mod_unit_267 s F D0 rc_Mod_total hc_Mod_total rc_Mod_test hc_Mod_test x3 x5 x6 y1 m2 hq e hd)
def b_Mod_unit_234 (F : Nat) (rc_Mod_total : aM → Option (Int32 × aM)) (rc_Mod_test : aM → Option (Int32 × aM)) (x3 : Int32) (x4 : Int32) (x5 : Int32) (xt0 : Int32) (m : aM) : Option (Int32 × aM) :=
  (if x5 = 0 then
  b_Mod_unit_247 F rc_Mod_total rc_Mod_test x3 x4 x5 xt0 m
  else
  o_b2 (f_Mod_sign F 44 m) fun y1 m2 =>
  b_Mod_unit_247 F rc_Mod_total rc_Mod_test x3 x4 x5 xt0 m2
  )
theorem t_Mod_unit_234 {K : aK} {d bc bs : Nat} {g : aG} (s : SyM g) {Q : aQ} {r : Int32} {m' : aM} (F : Nat) (D0 : Nat) (rc_Mod_total : aM → Option (Int32 × aM)) (hc_Mod_total : ∀ (d bc bs : Nat)  (m : aM) (r : Int32) (m' : aM), rc_Mod_total  m = some (r, m') → D0 ≤ d → Sp K M_Mod_total d bc bs [.ref 242] (g, m) (some (.int r)) (g, m')) (rc_Mod_test : aM → Option (Int32 × aM)) (hc_Mod_test : ∀ (d bc bs : Nat)  (m : aM) (r : Int32) (m' : aM), rc_Mod_test  m = some (r, m') → D0 ≤ d → Sp K M_Mod_test d bc bs [.ref 242] (g, m) (some (.int r)) (g, m')) (x3 : Int32) (x4 : Int32) (x5 : Int32) (xt0 : Int32) (m : aM) (hq : Q (.inl (some (.int r))) (g, m')) (e : b_Mod_unit_234 F rc_Mod_total rc_Mod_test x3 x4 x5 xt0 m = some (r, m')) (hd : D0 + 8 ≤ d) : G K M_Mod_unit d bc bs 234 [.ref 242, .double 0, .double 0, .int x3, .int x4, .int x5, .double 0, .double 0, .double 0] [.int xt0] (g, m) Q := by
  unfold b_Mod_unit_234 at e
  refine g_istore k_Mod_unit_234 (by decide) ?_
  refine g_iload k_Mod_unit_236 rfl ?_
  refine g_if_eq (tgt := 247) k_Mod_unit_238 (by decide) (fun c => ?_) (fun c => ?_)
  · rw [if_pos c] at e
    exact (t_Mod_unit_247 s F D0 rc_Mod_total hc_Mod_total rc_Mod_test hc_Mod_test x3 x4 x5 xt0 m hq e hd)
  · rw [if_neg c] at e
    refine g_aload_n k_Mod_unit_241 rfl rfl ?_
    refine g_bipush (v := 44) k_Mod_unit_242 rfl ?_
    obtain ⟨y1, m2, e_y1, e⟩ := o_b2_ex e
    refine g_cv k_Mod_unit_244 lv_Mod_206 (by decide +kernel) (T := F_Mod) (N := 61) (ci := 10) rfl (sk_Mod s) (s_Mod_sign (bc := 0) (bs := 0) s F 44 m e_y1 (by omega)) rfl rfl (Nat.le_of_ble_eq_true rfl) (by simp [Value.category]) (by omega) (by omega) (by omega) ?_
    exact (t_Mod_unit_247 s F D0 rc_Mod_total hc_Mod_total rc_Mod_test hc_Mod_test x3 x4 x5 xt0 m2 hq e hd)
def b_Mod_unit_233 (F : Nat) (rc_Mod_total : aM → Option (Int32 × aM)) (rc_Mod_test : aM → Option (Int32 × aM)) (x3 : Int32) (x4 : Int32) (x5 : Int32) (m : aM) : Option (Int32 × aM) :=
  b_Mod_unit_234 F rc_Mod_total rc_Mod_test x3 x4 x5 0 m
theorem t_Mod_unit_233 {K : aK} {d bc bs : Nat} {g : aG} (s : SyM g) {Q : aQ} {r : Int32} {m' : aM} (F : Nat) (D0 : Nat) (rc_Mod_total : aM → Option (Int32 × aM)) (hc_Mod_total : ∀ (d bc bs : Nat)  (m : aM) (r : Int32) (m' : aM), rc_Mod_total  m = some (r, m') → D0 ≤ d → Sp K M_Mod_total d bc bs [.ref 242] (g, m) (some (.int r)) (g, m')) (rc_Mod_test : aM → Option (Int32 × aM)) (hc_Mod_test : ∀ (d bc bs : Nat)  (m : aM) (r : Int32) (m' : aM), rc_Mod_test  m = some (r, m') → D0 ≤ d → Sp K M_Mod_test d bc bs [.ref 242] (g, m) (some (.int r)) (g, m')) (x3 : Int32) (x4 : Int32) (x5 : Int32) (m : aM) (hq : Q (.inl (some (.int r))) (g, m')) (e : b_Mod_unit_233 F rc_Mod_total rc_Mod_test x3 x4 x5 m = some (r, m')) (hd : D0 + 8 ≤ d) : G K M_Mod_unit d bc bs 233 [.ref 242, .double 0, .double 0, .int x3, .int x4, .int x5, .double 0, .double 0, .double 0] [] (g, m) Q := by
  unfold b_Mod_unit_233 at e
  refine g_iconst (v := 0) k_Mod_unit_233 rfl ?_
  exact (t_Mod_unit_234 s F D0 rc_Mod_total hc_Mod_total rc_Mod_test hc_Mod_test x3 x4 x5 0 m hq e hd)
def b_Mod_unit_184 (F : Nat) (rc_Mod_total : aM → Option (Int32 × aM)) (rc_Mod_test : aM → Option (Int32 × aM)) (x3 : Int32) (x4 : Int32) (x5 : Int32) (m : aM) : Option (Int32 × aM) :=
  o_b2 (f_Mod_blanks F  m) fun y1 m2 =>
  o_b (f_Mod_byteAt (m2 242 13) m2) fun y3 =>
  (if y3 = 40 then
  o_b2 (f_Mod_opens 1 m2) fun y4 m5 =>
  (if x5 = 0 then
  b_Mod_unit_233 F rc_Mod_total rc_Mod_test x3 x4 x5 m5
  else
  o_b2 (g_Mod_ors F rc_Mod_total rc_Mod_test  m5) fun y6 m7 =>
  (if y6 = 0 then
  b_Mod_unit_233 F rc_Mod_total rc_Mod_test x3 x4 x5 m7
  else
  b_Mod_unit_234 F rc_Mod_total rc_Mod_test x3 x4 x5 1 m7
  )
  )
  else
  o_b2 (f_Mod_wrongAt 1 (m2 242 13) m2) fun y8 m9 =>
  some (0, m9)
  )
theorem t_Mod_unit_184 {K : aK} {d bc bs : Nat} {g : aG} (s : SyM g) {Q : aQ} {r : Int32} {m' : aM} (F : Nat) (D0 : Nat) (rc_Mod_total : aM → Option (Int32 × aM)) (hc_Mod_total : ∀ (d bc bs : Nat)  (m : aM) (r : Int32) (m' : aM), rc_Mod_total  m = some (r, m') → D0 ≤ d → Sp K M_Mod_total d bc bs [.ref 242] (g, m) (some (.int r)) (g, m')) (rc_Mod_test : aM → Option (Int32 × aM)) (hc_Mod_test : ∀ (d bc bs : Nat)  (m : aM) (r : Int32) (m' : aM), rc_Mod_test  m = some (r, m') → D0 ≤ d → Sp K M_Mod_test d bc bs [.ref 242] (g, m) (some (.int r)) (g, m')) (x3 : Int32) (x4 : Int32) (x5 : Int32) (m : aM) (hq : Q (.inl (some (.int r))) (g, m')) (e : b_Mod_unit_184 F rc_Mod_total rc_Mod_test x3 x4 x5 m = some (r, m')) (hd : D0 + 8 ≤ d) : G K M_Mod_unit d bc bs 184 [.ref 242, .double 0, .double 0, .int x3, .int x4, .int x5, .double 0, .double 0, .double 0] [] (g, m) Q := by
  unfold b_Mod_unit_184 at e
  refine g_aload_n k_Mod_unit_184 rfl rfl ?_
  obtain ⟨y1, m2, e_y1, e⟩ := o_b2_ex e
  refine g_cv k_Mod_unit_185 lv_Mod_160 (by decide +kernel) (T := F_Mod) (N := 61) (ci := 10) rfl (sk_Mod s) (s_Mod_blanks (bc := 0) (bs := 0) s F  m e_y1 (by omega)) rfl rfl (Nat.le_of_ble_eq_true rfl) (by simp [Value.category]) (by omega) (by omega) (by omega) ?_
  refine g_aload_n k_Mod_unit_188 rfl rfl ?_
  refine g_aload_n k_Mod_unit_189 rfl rfl ?_
  refine p_geti k_Mod_unit_190 fl_Mod_143 rfl (sk_Mod s) (by decide) ?_
  obtain ⟨y3, e_y3, e⟩ := o_b_ex e
  refine g_cv k_Mod_unit_193 lv_Mod_146 (by decide +kernel) (T := F_Mod) (N := 61) (ci := 10) rfl (sk_Mod s) (s_Mod_byteAt (bc := 0) (bs := 0) s (m2 242 13) m2 e_y3) rfl rfl (Nat.le_of_ble_eq_true rfl) (by simp [Value.category]) (by omega) (by omega) (by omega) ?_
  refine g_bipush (v := 40) k_Mod_unit_196 rfl ?_
  refine g_icmp_eq (tgt := 212) k_Mod_unit_198 (by decide) (fun c => ?_) (fun c => ?_)
  · rw [if_pos c] at e
    refine g_aload_n k_Mod_unit_212 rfl rfl ?_
    refine g_iconst (v := 1) k_Mod_unit_213 rfl ?_
    obtain ⟨y4, m5, e_y4, e⟩ := o_b2_ex e
    refine g_cv k_Mod_unit_214 lv_Mod_198 (by decide +kernel) (T := F_Mod) (N := 61) (ci := 10) rfl (sk_Mod s) (s_Mod_opens (bc := 0) (bs := 0) s 1 m2 e_y4 (by omega)) rfl rfl (Nat.le_of_ble_eq_true rfl) (by simp [Value.category]) (by omega) (by omega) (by omega) ?_
    refine g_iload k_Mod_unit_217 rfl ?_
    refine g_if_eq (tgt := 233) k_Mod_unit_219 (by decide) (fun c => ?_) (fun c => ?_)
    · rw [if_pos c] at e
      exact (t_Mod_unit_233 s F D0 rc_Mod_total hc_Mod_total rc_Mod_test hc_Mod_test x3 x4 x5 m5 hq e hd)
    · rw [if_neg c] at e
      refine g_aload_n k_Mod_unit_222 rfl rfl ?_
      obtain ⟨y6, m7, e_y6, e⟩ := o_b2_ex e
      refine g_cv k_Mod_unit_223 lv_Mod_202 (by decide +kernel) (T := F_Mod) (N := 61) (ci := 10) rfl (sk_Mod s) (sg_Mod_ors (bc := 0) (bs := 0) s F D0 rc_Mod_total hc_Mod_total rc_Mod_test hc_Mod_test  m5 e_y6 (by omega)) rfl rfl (Nat.le_of_ble_eq_true rfl) (by simp [Value.category]) (by omega) (by omega) (by omega) ?_
      refine g_if_eq (tgt := 233) k_Mod_unit_226 (by decide) (fun c => ?_) (fun c => ?_)
      · rw [if_pos c] at e
        exact (t_Mod_unit_233 s F D0 rc_Mod_total hc_Mod_total rc_Mod_test hc_Mod_test x3 x4 x5 m7 hq e hd)
      · rw [if_neg c] at e
        refine g_iconst (v := 1) k_Mod_unit_229 rfl ?_
        refine g_goto (tgt := 234) k_Mod_unit_230 (by decide) ?_
        exact (t_Mod_unit_234 s F D0 rc_Mod_total hc_Mod_total rc_Mod_test hc_Mod_test x3 x4 x5 1 m7 hq e hd)
  · rw [if_neg c] at e
    refine g_aload_n k_Mod_unit_201 rfl rfl ?_
    refine g_iconst (v := 1) k_Mod_unit_202 rfl ?_
    refine g_aload_n k_Mod_unit_203 rfl rfl ?_
    refine p_geti k_Mod_unit_204 fl_Mod_143 rfl (sk_Mod s) (by decide) ?_
    obtain ⟨y8, m9, e_y8, e⟩ := o_b2_ex e
    refine g_cv k_Mod_unit_207 lv_Mod_166 (by decide +kernel) (T := F_Mod) (N := 61) (ci := 10) rfl (sk_Mod s) (s_Mod_wrongAt (bc := 0) (bs := 0) s 1 (m2 242 13) m2 e_y8) rfl rfl (Nat.le_of_ble_eq_true rfl) (by simp [Value.category]) (by omega) (by omega) (by omega) ?_
    refine g_iconst (v := 0) k_Mod_unit_210 rfl ?_
    refine g_iret k_Mod_unit_211 rfl ?_
    exact (by cases e; exact hq)
def b_Mod_unit_180 (F : Nat) (rc_Mod_total : aM → Option (Int32 × aM)) (rc_Mod_test : aM → Option (Int32 × aM)) (x3 : Int32) (x4 : Int32) (x5 : Int32) (m : aM) : Option (Int32 × aM) :=
  o_b2 (f_Mod_skipWord F  m) fun y1 m2 =>
  b_Mod_unit_184 F rc_Mod_total rc_Mod_test x3 x4 x5 m2
theorem t_Mod_unit_180 {K : aK} {d bc bs : Nat} {g : aG} (s : SyM g) {Q : aQ} {r : Int32} {m' : aM} (F : Nat) (D0 : Nat) (rc_Mod_total : aM → Option (Int32 × aM)) (hc_Mod_total : ∀ (d bc bs : Nat)  (m : aM) (r : Int32) (m' : aM), rc_Mod_total  m = some (r, m') → D0 ≤ d → Sp K M_Mod_total d bc bs [.ref 242] (g, m) (some (.int r)) (g, m')) (rc_Mod_test : aM → Option (Int32 × aM)) (hc_Mod_test : ∀ (d bc bs : Nat)  (m : aM) (r : Int32) (m' : aM), rc_Mod_test  m = some (r, m') → D0 ≤ d → Sp K M_Mod_test d bc bs [.ref 242] (g, m) (some (.int r)) (g, m')) (x3 : Int32) (x4 : Int32) (x5 : Int32) (m : aM) (hq : Q (.inl (some (.int r))) (g, m')) (e : b_Mod_unit_180 F rc_Mod_total rc_Mod_test x3 x4 x5 m = some (r, m')) (hd : D0 + 8 ≤ d) : G K M_Mod_unit d bc bs 180 [.ref 242, .double 0, .double 0, .int x3, .int x4, .int x5, .double 0, .double 0, .double 0] [] (g, m) Q := by
  unfold b_Mod_unit_180 at e
  refine g_aload_n k_Mod_unit_180 rfl rfl ?_
  obtain ⟨y1, m2, e_y1, e⟩ := o_b2_ex e
  refine g_cv k_Mod_unit_181 lv_Mod_195 (by decide +kernel) (T := F_Mod) (N := 61) (ci := 10) rfl (sk_Mod s) (s_Mod_skipWord (bc := 0) (bs := 0) s F  m e_y1 (by omega)) rfl rfl (Nat.le_of_ble_eq_true rfl) (by simp [Value.category]) (by omega) (by omega) (by omega) ?_
  exact (t_Mod_unit_184 s F D0 rc_Mod_total hc_Mod_total rc_Mod_test hc_Mod_test x3 x4 x5 m2 hq e hd)
def b_Mod_unit_164 (F : Nat) (rc_Mod_total : aM → Option (Int32 × aM)) (rc_Mod_test : aM → Option (Int32 × aM)) (x3 : Int32) (x4 : Int32) (xt0 : Int32) (m : aM) : Option (Int32 × aM) :=
  (if x3 = 0 then
  (if x4 = 0 then
  (if xt0 = 0 then
  b_Mod_unit_184 F rc_Mod_total rc_Mod_test x3 x4 xt0 m
  else
  b_Mod_unit_180 F rc_Mod_total rc_Mod_test x3 x4 xt0 m
  )
  else
  b_Mod_unit_180 F rc_Mod_total rc_Mod_test x3 x4 xt0 m
  )
  else
  b_Mod_unit_180 F rc_Mod_total rc_Mod_test x3 x4 xt0 m
  )
theorem t_Mod_unit_164 {K : aK} {d bc bs : Nat} {g : aG} (s : SyM g) {Q : aQ} {r : Int32} {m' : aM} (F : Nat) (D0 : Nat) (rc_Mod_total : aM → Option (Int32 × aM)) (hc_Mod_total : ∀ (d bc bs : Nat)  (m : aM) (r : Int32) (m' : aM), rc_Mod_total  m = some (r, m') → D0 ≤ d → Sp K M_Mod_total d bc bs [.ref 242] (g, m) (some (.int r)) (g, m')) (rc_Mod_test : aM → Option (Int32 × aM)) (hc_Mod_test : ∀ (d bc bs : Nat)  (m : aM) (r : Int32) (m' : aM), rc_Mod_test  m = some (r, m') → D0 ≤ d → Sp K M_Mod_test d bc bs [.ref 242] (g, m) (some (.int r)) (g, m')) (x3 : Int32) (x4 : Int32) (xt0 : Int32) (m : aM) (hq : Q (.inl (some (.int r))) (g, m')) (e : b_Mod_unit_164 F rc_Mod_total rc_Mod_test x3 x4 xt0 m = some (r, m')) (hd : D0 + 8 ≤ d) : G K M_Mod_unit d bc bs 164 [.ref 242, .double 0, .double 0, .int x3, .int x4, .double 0, .double 0, .double 0, .double 0] [.int xt0] (g, m) Q := by
  unfold b_Mod_unit_164 at e
  refine g_istore k_Mod_unit_164 (by decide) ?_
  refine g_iload_n k_Mod_unit_166 rfl rfl ?_
  refine g_if_ne (tgt := 180) k_Mod_unit_167 (by decide) (fun c => ?_) (fun c => ?_)
  · rw [if_pos c] at e
    refine g_iload k_Mod_unit_170 rfl ?_
    refine g_if_ne (tgt := 180) k_Mod_unit_172 (by decide) (fun c => ?_) (fun c => ?_)
    · rw [if_pos c] at e
      refine g_iload k_Mod_unit_175 rfl ?_
      refine g_if_eq (tgt := 184) k_Mod_unit_177 (by decide) (fun c => ?_) (fun c => ?_)
      · rw [if_pos c] at e
        exact (t_Mod_unit_184 s F D0 rc_Mod_total hc_Mod_total rc_Mod_test hc_Mod_test x3 x4 xt0 m hq e hd)
      · rw [if_neg c] at e
        exact (t_Mod_unit_180 s F D0 rc_Mod_total hc_Mod_total rc_Mod_test hc_Mod_test x3 x4 xt0 m hq e hd)
    · rw [if_neg c] at e
      exact (t_Mod_unit_180 s F D0 rc_Mod_total hc_Mod_total rc_Mod_test hc_Mod_test x3 x4 xt0 m hq e hd)
  · rw [if_neg c] at e
    exact (t_Mod_unit_180 s F D0 rc_Mod_total hc_Mod_total rc_Mod_test hc_Mod_test x3 x4 xt0 m hq e hd)
def b_Mod_unit_143 (F : Nat) (rc_Mod_total : aM → Option (Int32 × aM)) (rc_Mod_test : aM → Option (Int32 × aM)) (x2 : Int32) (x3 : Int32) (xt0 : Int32) (m : aM) : Option (Int32 × aM) :=
  o_b (f_Mod_word 9 6 0 0 0 m) fun y1 =>
  (if x2 = y1 then
  b_Mod_unit_164 F rc_Mod_total rc_Mod_test x3 xt0 1 m
  else
  b_Mod_unit_164 F rc_Mod_total rc_Mod_test x3 xt0 0 m
  )
theorem t_Mod_unit_143 {K : aK} {d bc bs : Nat} {g : aG} (s : SyM g) {Q : aQ} {r : Int32} {m' : aM} (F : Nat) (D0 : Nat) (rc_Mod_total : aM → Option (Int32 × aM)) (hc_Mod_total : ∀ (d bc bs : Nat)  (m : aM) (r : Int32) (m' : aM), rc_Mod_total  m = some (r, m') → D0 ≤ d → Sp K M_Mod_total d bc bs [.ref 242] (g, m) (some (.int r)) (g, m')) (rc_Mod_test : aM → Option (Int32 × aM)) (hc_Mod_test : ∀ (d bc bs : Nat)  (m : aM) (r : Int32) (m' : aM), rc_Mod_test  m = some (r, m') → D0 ≤ d → Sp K M_Mod_test d bc bs [.ref 242] (g, m) (some (.int r)) (g, m')) (x2 : Int32) (x3 : Int32) (xt0 : Int32) (m : aM) (hq : Q (.inl (some (.int r))) (g, m')) (e : b_Mod_unit_143 F rc_Mod_total rc_Mod_test x2 x3 xt0 m = some (r, m')) (hd : D0 + 8 ≤ d) : G K M_Mod_unit d bc bs 143 [.ref 242, .double 0, .int x2, .int x3, .double 0, .double 0, .double 0, .double 0, .double 0] [.int xt0] (g, m) Q := by
  unfold b_Mod_unit_143 at e
  refine g_istore k_Mod_unit_143 (by decide) ?_
  refine g_iload_n k_Mod_unit_145 rfl rfl ?_
  refine g_bipush (v := 9) k_Mod_unit_146 rfl ?_
  refine g_bipush (v := 6) k_Mod_unit_148 rfl ?_
  refine g_iconst (v := 0) k_Mod_unit_150 rfl ?_
  refine g_iconst (v := 0) k_Mod_unit_151 rfl ?_
  refine g_iconst (v := 0) k_Mod_unit_152 rfl ?_
  obtain ⟨y1, e_y1, e⟩ := o_b_ex e
  refine g_cs k_Mod_unit_153 ls_Mod_191 (by decide +kernel) (s_Mod_word (bc := 0) (bs := 0) s 9 6 0 0 0 m e_y1) rfl rfl (Nat.le_of_ble_eq_true rfl) (by simp [Value.category]) (by omega) (by omega) (by omega) ?_
  refine g_icmp_ne (tgt := 163) k_Mod_unit_156 (by decide) (fun c => ?_) (fun c => ?_)
  · rw [if_pos c] at e
    refine g_iconst (v := 1) k_Mod_unit_159 rfl ?_
    refine g_goto (tgt := 164) k_Mod_unit_160 (by decide) ?_
    exact G.wl (wls (wls (wld (wls (wls (wls (wls (wls (wls wl0))))))))) (t_Mod_unit_164 s F D0 rc_Mod_total hc_Mod_total rc_Mod_test hc_Mod_test x3 xt0 1 m hq e hd)
  · rw [if_neg c] at e
    refine g_iconst (v := 0) k_Mod_unit_163 rfl ?_
    exact G.wl (wls (wls (wld (wls (wls (wls (wls (wls (wls wl0))))))))) (t_Mod_unit_164 s F D0 rc_Mod_total hc_Mod_total rc_Mod_test hc_Mod_test x3 xt0 0 m hq e hd)
def b_Mod_unit_121 (F : Nat) (rc_Mod_total : aM → Option (Int32 × aM)) (rc_Mod_test : aM → Option (Int32 × aM)) (x2 : Int32) (xt0 : Int32) (m : aM) : Option (Int32 × aM) :=
  o_b (f_Mod_word 13 15 19 20 0 m) fun y1 =>
  (if x2 = y1 then
  b_Mod_unit_143 F rc_Mod_total rc_Mod_test x2 xt0 1 m
  else
  b_Mod_unit_143 F rc_Mod_total rc_Mod_test x2 xt0 0 m
  )
theorem t_Mod_unit_121 {K : aK} {d bc bs : Nat} {g : aG} (s : SyM g) {Q : aQ} {r : Int32} {m' : aM} (F : Nat) (D0 : Nat) (rc_Mod_total : aM → Option (Int32 × aM)) (hc_Mod_total : ∀ (d bc bs : Nat)  (m : aM) (r : Int32) (m' : aM), rc_Mod_total  m = some (r, m') → D0 ≤ d → Sp K M_Mod_total d bc bs [.ref 242] (g, m) (some (.int r)) (g, m')) (rc_Mod_test : aM → Option (Int32 × aM)) (hc_Mod_test : ∀ (d bc bs : Nat)  (m : aM) (r : Int32) (m' : aM), rc_Mod_test  m = some (r, m') → D0 ≤ d → Sp K M_Mod_test d bc bs [.ref 242] (g, m) (some (.int r)) (g, m')) (x2 : Int32) (xt0 : Int32) (m : aM) (hq : Q (.inl (some (.int r))) (g, m')) (e : b_Mod_unit_121 F rc_Mod_total rc_Mod_test x2 xt0 m = some (r, m')) (hd : D0 + 8 ≤ d) : G K M_Mod_unit d bc bs 121 [.ref 242, .double 0, .int x2, .double 0, .double 0, .double 0, .double 0, .double 0, .double 0] [.int xt0] (g, m) Q := by
  unfold b_Mod_unit_121 at e
  refine g_istore_n k_Mod_unit_121 rfl (by decide) ?_
  refine g_iload_n k_Mod_unit_122 rfl rfl ?_
  refine g_bipush (v := 13) k_Mod_unit_123 rfl ?_
  refine g_bipush (v := 15) k_Mod_unit_125 rfl ?_
  refine g_bipush (v := 19) k_Mod_unit_127 rfl ?_
  refine g_bipush (v := 20) k_Mod_unit_129 rfl ?_
  refine g_iconst (v := 0) k_Mod_unit_131 rfl ?_
  obtain ⟨y1, e_y1, e⟩ := o_b_ex e
  refine g_cs k_Mod_unit_132 ls_Mod_191 (by decide +kernel) (s_Mod_word (bc := 0) (bs := 0) s 13 15 19 20 0 m e_y1) rfl rfl (Nat.le_of_ble_eq_true rfl) (by simp [Value.category]) (by omega) (by omega) (by omega) ?_
  refine g_icmp_ne (tgt := 142) k_Mod_unit_135 (by decide) (fun c => ?_) (fun c => ?_)
  · rw [if_pos c] at e
    refine g_iconst (v := 1) k_Mod_unit_138 rfl ?_
    refine g_goto (tgt := 143) k_Mod_unit_139 (by decide) ?_
    exact (t_Mod_unit_143 s F D0 rc_Mod_total hc_Mod_total rc_Mod_test hc_Mod_test x2 xt0 1 m hq e hd)
  · rw [if_neg c] at e
    refine g_iconst (v := 0) k_Mod_unit_142 rfl ?_
    exact (t_Mod_unit_143 s F D0 rc_Mod_total hc_Mod_total rc_Mod_test hc_Mod_test x2 xt0 0 m hq e hd)
def b_Mod_unit_63 (F : Nat) (rc_Mod_total : aM → Option (Int32 × aM)) (rc_Mod_test : aM → Option (Int32 × aM)) (x1 : Int32) (m : aM) : Option (Int32 × aM) :=
  o_let (a_st m 242 13 ((m 242 13) + 1)) fun m1 =>
  (if x1 ≤ 3 then
  o_gd (inb x1 4) <|
  some ((m1 249 x1.toNatClampNeg), m1)
  else
  o_gd (inb (x1 - 4) 4) <|
  o_let ((m1 250 ((x1 - 4).toNatClampNeg))) fun y4 =>
  some (y4, m1)
  )
theorem t_Mod_unit_63 {K : aK} {d bc bs : Nat} {g : aG} (s : SyM g) {Q : aQ} {r : Int32} {m' : aM} (F : Nat) (D0 : Nat) (rc_Mod_total : aM → Option (Int32 × aM)) (hc_Mod_total : ∀ (d bc bs : Nat)  (m : aM) (r : Int32) (m' : aM), rc_Mod_total  m = some (r, m') → D0 ≤ d → Sp K M_Mod_total d bc bs [.ref 242] (g, m) (some (.int r)) (g, m')) (rc_Mod_test : aM → Option (Int32 × aM)) (hc_Mod_test : ∀ (d bc bs : Nat)  (m : aM) (r : Int32) (m' : aM), rc_Mod_test  m = some (r, m') → D0 ≤ d → Sp K M_Mod_test d bc bs [.ref 242] (g, m) (some (.int r)) (g, m')) (x1 : Int32) (m : aM) (hq : Q (.inl (some (.int r))) (g, m')) (e : b_Mod_unit_63 F rc_Mod_total rc_Mod_test x1 m = some (r, m')) (hd : D0 + 8 ≤ d) : G K M_Mod_unit d bc bs 63 [.ref 242, .int x1, .double 0, .double 0, .double 0, .double 0, .double 0, .double 0, .double 0] [] (g, m) Q := by
  unfold b_Mod_unit_63 at e
  refine g_aload_n k_Mod_unit_63 rfl rfl ?_
  refine g_dup k_Mod_unit_64 rfl ?_
  refine p_geti k_Mod_unit_65 fl_Mod_143 rfl (sk_Mod s) (by decide) ?_
  refine g_iconst (v := 1) k_Mod_unit_68 rfl ?_
  refine g_iadd k_Mod_unit_69 ?_
  refine p_puti k_Mod_unit_70 fl_Mod_143 rfl ⟨R_Mod, F_Mod, 61, rfl, Or.inl rfl⟩ (sk_Mod s) (by decide) ?_
  obtain ⟨m1, u_m1, e⟩ := o_let_ex e
  refine G.hm u_m1 ?_
  refine g_iload_n k_Mod_unit_73 rfl rfl ?_
  refine g_iconst (v := 3) k_Mod_unit_74 rfl ?_
  refine g_icmp_le (tgt := 89) k_Mod_unit_75 (by decide) (fun c => ?_) (fun c => ?_)
  · rw [if_pos c] at e
    refine g_aload_n k_Mod_unit_89 rfl rfl ?_
    refine p_getr k_Mod_unit_90 fl_Mod_34 rfl (sk_Mod s) (by decide) (sr_Mod_24 s) ?_
    refine g_iload_n k_Mod_unit_93 rfl rfl ?_
    obtain ⟨q2, e⟩ := o_gd_ex e
    refine p_iald k_Mod_unit_94 (sa_Mod_24 s) (inb_in q2) (j := x1.toNatClampNeg) rfl ?_
    refine g_iret k_Mod_unit_95 rfl ?_
    exact (by cases e; exact hq)
  · rw [if_neg c] at e
    refine g_aload_n k_Mod_unit_78 rfl rfl ?_
    refine p_getr k_Mod_unit_79 fl_Mod_37 rfl (sk_Mod s) (by decide) (sr_Mod_25 s) ?_
    refine g_iload_n k_Mod_unit_82 rfl rfl ?_
    refine g_iconst (v := 4) k_Mod_unit_83 rfl ?_
    refine g_isub k_Mod_unit_84 ?_
    obtain ⟨q3, e⟩ := o_gd_ex e
    refine p_iald k_Mod_unit_85 (sa_Mod_25 s) (inb_in q3) (j := (x1 - 4).toNatClampNeg) rfl ?_
    obtain ⟨y4, u_y4, e⟩ := o_let_ex e
    refine G.vy u_y4 ?_
    refine g_goto (tgt := 95) k_Mod_unit_86 (by decide) ?_
    refine g_iret k_Mod_unit_95 rfl ?_
    exact (by cases e; exact hq)
def g_Mod_unit (F : Nat) (rc_Mod_total : aM → Option (Int32 × aM)) (rc_Mod_test : aM → Option (Int32 × aM))  (m : aM) : Option (Int32 × aM) :=
  (if (m 242 15) = 0 then
  o_b2 (f_Mod_blanks F  m) fun y1 m2 =>
  o_b (f_Mod_byteAt (m2 242 13) m2) fun y3 =>
  o_b (f_Mod_isDigit y3 m2) fun y4 =>
  (if y4 = 0 then
  o_b2 (f_Mod_letterHere F  m2) fun y5 m6 =>
  (if y5 = (-1) then
  o_b2 (f_Mod_wordHere F  m6) fun y7 m8 =>
  o_b (f_Mod_word 12 5 1 19 20 m8) fun y9 =>
  (if y7 = y9 then
  b_Mod_unit_121 F rc_Mod_total rc_Mod_test y7 1 m8
  else
  b_Mod_unit_121 F rc_Mod_total rc_Mod_test y7 0 m8
  )
  else
  (if y5 ≤ 3 then
  b_Mod_unit_63 F rc_Mod_total rc_Mod_test y5 m6
  else
  (if (m6 242 18) = 0 then
  b_Mod_unit_63 F rc_Mod_total rc_Mod_test y5 m6
  else
  o_b2 (f_Mod_wrongAt 1 (m6 242 13) m6) fun y10 m11 =>
  b_Mod_unit_63 F rc_Mod_total rc_Mod_test y5 m11
  )
  )
  )
  else
  o_b2 (f_Mod_number F  m2) fun y12 m13 =>
  some (y12, m13)
  )
  else
  some (0, m)
  )
theorem sg_Mod_unit {K : aK} {d bc bs : Nat} {g : aG} (s : SyM g) (F : Nat) (D0 : Nat) (rc_Mod_total : aM → Option (Int32 × aM)) (hc_Mod_total : ∀ (d bc bs : Nat)  (m : aM) (r : Int32) (m' : aM), rc_Mod_total  m = some (r, m') → D0 ≤ d → Sp K M_Mod_total d bc bs [.ref 242] (g, m) (some (.int r)) (g, m')) (rc_Mod_test : aM → Option (Int32 × aM)) (hc_Mod_test : ∀ (d bc bs : Nat)  (m : aM) (r : Int32) (m' : aM), rc_Mod_test  m = some (r, m') → D0 ≤ d → Sp K M_Mod_test d bc bs [.ref 242] (g, m) (some (.int r)) (g, m'))  (m : aM) {r : Int32} {m' : aM} (e : g_Mod_unit F rc_Mod_total rc_Mod_test  m = some (r, m')) (hd : D0 + 8 ≤ d) : Sp K M_Mod_unit d bc bs [.ref 242] (g, m) (some (.int r)) (g, m') := by
  refine sp_of ok_Mod_unit rfl (Nat.le_of_ble_eq_true rfl) (by simp [Value.category]) (fun Q hq => ?_)
  unfold g_Mod_unit at e
  refine g_aload_n k_Mod_unit_0 rfl rfl ?_
  refine p_geti k_Mod_unit_1 fl_Mod_150 rfl (sk_Mod s) (by decide) ?_
  refine g_if_eq (tgt := 9) k_Mod_unit_4 (by decide) (fun c => ?_) (fun c => ?_)
  · rw [if_pos c] at e
    refine g_aload_n k_Mod_unit_9 rfl rfl ?_
    obtain ⟨y1, m2, e_y1, e⟩ := o_b2_ex e
    refine g_cv k_Mod_unit_10 lv_Mod_160 (by decide +kernel) (T := F_Mod) (N := 61) (ci := 10) rfl (sk_Mod s) (s_Mod_blanks (bc := 0) (bs := 0) s F  m e_y1 (by omega)) rfl rfl (Nat.le_of_ble_eq_true rfl) (by simp [Value.category]) (by omega) (by omega) (by omega) ?_
    refine g_aload_n k_Mod_unit_13 rfl rfl ?_
    refine g_aload_n k_Mod_unit_14 rfl rfl ?_
    refine p_geti k_Mod_unit_15 fl_Mod_143 rfl (sk_Mod s) (by decide) ?_
    obtain ⟨y3, e_y3, e⟩ := o_b_ex e
    refine g_cv k_Mod_unit_18 lv_Mod_146 (by decide +kernel) (T := F_Mod) (N := 61) (ci := 10) rfl (sk_Mod s) (s_Mod_byteAt (bc := 0) (bs := 0) s (m2 242 13) m2 e_y3) rfl rfl (Nat.le_of_ble_eq_true rfl) (by simp [Value.category]) (by omega) (by omega) (by omega) ?_
    obtain ⟨y4, e_y4, e⟩ := o_b_ex e
    refine g_cs k_Mod_unit_21 ls_Mod_170 (by decide +kernel) (s_Mod_isDigit (bc := 0) (bs := 0) s y3 m2 e_y4) rfl rfl (Nat.le_of_ble_eq_true rfl) (by simp [Value.category]) (by omega) (by omega) (by omega) ?_
    refine g_if_eq (tgt := 32) k_Mod_unit_24 (by decide) (fun c => ?_) (fun c => ?_)
    · rw [if_pos c] at e
      refine g_aload_n k_Mod_unit_32 rfl rfl ?_
      obtain ⟨y5, m6, e_y5, e⟩ := o_b2_ex e
      refine g_cv k_Mod_unit_33 lv_Mod_181 (by decide +kernel) (T := F_Mod) (N := 61) (ci := 10) rfl (sk_Mod s) (s_Mod_letterHere (bc := 0) (bs := 0) s F  m2 e_y5 (by omega)) rfl rfl (Nat.le_of_ble_eq_true rfl) (by simp [Value.category]) (by omega) (by omega) (by omega) ?_
      refine g_istore_n k_Mod_unit_36 rfl (by decide) ?_
      refine g_iload_n k_Mod_unit_37 rfl rfl ?_
      refine g_iconst (v := (-1)) k_Mod_unit_38 rfl ?_
      refine g_icmp_eq (tgt := 96) k_Mod_unit_39 (by decide) (fun c => ?_) (fun c => ?_)
      · rw [if_pos c] at e
        refine g_aload_n k_Mod_unit_96 rfl rfl ?_
        obtain ⟨y7, m8, e_y7, e⟩ := o_b2_ex e
        refine g_cv k_Mod_unit_97 lv_Mod_188 (by decide +kernel) (T := F_Mod) (N := 61) (ci := 10) rfl (sk_Mod s) (s_Mod_wordHere (bc := 0) (bs := 0) s F  m6 e_y7 (by omega)) rfl rfl (Nat.le_of_ble_eq_true rfl) (by simp [Value.category]) (by omega) (by omega) (by omega) ?_
        refine g_istore_n k_Mod_unit_100 rfl (by decide) ?_
        refine g_iload_n k_Mod_unit_101 rfl rfl ?_
        refine g_bipush (v := 12) k_Mod_unit_102 rfl ?_
        refine g_iconst (v := 5) k_Mod_unit_104 rfl ?_
        refine g_iconst (v := 1) k_Mod_unit_105 rfl ?_
        refine g_bipush (v := 19) k_Mod_unit_106 rfl ?_
        refine g_bipush (v := 20) k_Mod_unit_108 rfl ?_
        obtain ⟨y9, e_y9, e⟩ := o_b_ex e
        refine g_cs k_Mod_unit_110 ls_Mod_191 (by decide +kernel) (s_Mod_word (bc := 0) (bs := 0) s 12 5 1 19 20 m8 e_y9) rfl rfl (Nat.le_of_ble_eq_true rfl) (by simp [Value.category]) (by omega) (by omega) (by omega) ?_
        refine g_icmp_ne (tgt := 120) k_Mod_unit_113 (by decide) (fun c => ?_) (fun c => ?_)
        · rw [if_pos c] at e
          refine g_iconst (v := 1) k_Mod_unit_116 rfl ?_
          refine g_goto (tgt := 121) k_Mod_unit_117 (by decide) ?_
          exact G.wl (wls (wld (wls (wls (wls (wls (wls (wls (wls wl0))))))))) (t_Mod_unit_121 s F D0 rc_Mod_total hc_Mod_total rc_Mod_test hc_Mod_test y7 1 m8 hq e hd)
        · rw [if_neg c] at e
          refine g_iconst (v := 0) k_Mod_unit_120 rfl ?_
          exact G.wl (wls (wld (wls (wls (wls (wls (wls (wls (wls wl0))))))))) (t_Mod_unit_121 s F D0 rc_Mod_total hc_Mod_total rc_Mod_test hc_Mod_test y7 0 m8 hq e hd)
      · rw [if_neg c] at e
        refine g_iload_n k_Mod_unit_42 rfl rfl ?_
        refine g_iconst (v := 3) k_Mod_unit_43 rfl ?_
        refine g_icmp_le (tgt := 63) k_Mod_unit_44 (by decide) (fun c => ?_) (fun c => ?_)
        · rw [if_pos c] at e
          exact (t_Mod_unit_63 s F D0 rc_Mod_total hc_Mod_total rc_Mod_test hc_Mod_test y5 m6 hq e hd)
        · rw [if_neg c] at e
          refine g_aload_n k_Mod_unit_47 rfl rfl ?_
          refine p_geti k_Mod_unit_48 fl_Mod_184 rfl (sk_Mod s) (by decide) ?_
          refine g_if_eq (tgt := 63) k_Mod_unit_51 (by decide) (fun c => ?_) (fun c => ?_)
          · rw [if_pos c] at e
            exact (t_Mod_unit_63 s F D0 rc_Mod_total hc_Mod_total rc_Mod_test hc_Mod_test y5 m6 hq e hd)
          · rw [if_neg c] at e
            refine g_aload_n k_Mod_unit_54 rfl rfl ?_
            refine g_iconst (v := 1) k_Mod_unit_55 rfl ?_
            refine g_aload_n k_Mod_unit_56 rfl rfl ?_
            refine p_geti k_Mod_unit_57 fl_Mod_143 rfl (sk_Mod s) (by decide) ?_
            obtain ⟨y10, m11, e_y10, e⟩ := o_b2_ex e
            refine g_cv k_Mod_unit_60 lv_Mod_166 (by decide +kernel) (T := F_Mod) (N := 61) (ci := 10) rfl (sk_Mod s) (s_Mod_wrongAt (bc := 0) (bs := 0) s 1 (m6 242 13) m6 e_y10) rfl rfl (Nat.le_of_ble_eq_true rfl) (by simp [Value.category]) (by omega) (by omega) (by omega) ?_
            exact (t_Mod_unit_63 s F D0 rc_Mod_total hc_Mod_total rc_Mod_test hc_Mod_test y5 m11 hq e hd)
    · rw [if_neg c] at e
      refine g_aload_n k_Mod_unit_27 rfl rfl ?_
      obtain ⟨y12, m13, e_y12, e⟩ := o_b2_ex e
      refine g_cv k_Mod_unit_28 lv_Mod_177 (by decide +kernel) (T := F_Mod) (N := 61) (ci := 10) rfl (sk_Mod s) (s_Mod_number (bc := 0) (bs := 0) s F  m2 e_y12 (by omega)) rfl rfl (Nat.le_of_ble_eq_true rfl) (by simp [Value.category]) (by omega) (by omega) (by omega) ?_
      refine g_iret k_Mod_unit_31 rfl ?_
      exact (by cases e; exact hq)
  · rw [if_neg c] at e
    refine g_iconst (v := 0) k_Mod_unit_7 rfl ?_
    refine g_iret k_Mod_unit_8 rfl ?_
    exact (by cases e; exact hq)
def b_Mod_product_89 (F : Nat) (rc_Mod_total : aM → Option (Int32 × aM)) (rc_Mod_test : aM → Option (Int32 × aM)) (rec_9 : Int32 → aM → Option (Int32 × aM)) (xt0 : Int32) (m : aM) : Option (Int32 × aM) :=
  o_b2 (f_Mod_blanks F  m) fun y1 m2 =>
  rec_9 xt0 m2
theorem t_Mod_product_89 {K : aK} {d bc bs : Nat} {g : aG} (s : SyM g) {Q : aQ} {r : Int32} {m' : aM} (F : Nat) (D0 : Nat) (rc_Mod_total : aM → Option (Int32 × aM)) (hc_Mod_total : ∀ (d bc bs : Nat)  (m : aM) (r : Int32) (m' : aM), rc_Mod_total  m = some (r, m') → D0 ≤ d → Sp K M_Mod_total d bc bs [.ref 242] (g, m) (some (.int r)) (g, m')) (rc_Mod_test : aM → Option (Int32 × aM)) (hc_Mod_test : ∀ (d bc bs : Nat)  (m : aM) (r : Int32) (m' : aM), rc_Mod_test  m = some (r, m') → D0 ≤ d → Sp K M_Mod_test d bc bs [.ref 242] (g, m) (some (.int r)) (g, m')) (rec_9 : Int32 → aM → Option (Int32 × aM)) (hr_9 : ∀ (x1 : Int32) (m : aM), rec_9 x1 m = some (r, m') → G K M_Mod_product d bc bs 9 [.ref 242, .int x1, .double 0, .double 0] [] (g, m) Q) (xt0 : Int32) (m : aM) (hq : Q (.inl (some (.int r))) (g, m')) (e : b_Mod_product_89 F rc_Mod_total rc_Mod_test rec_9 xt0 m = some (r, m')) (hd : D0 + 10 ≤ d) : G K M_Mod_product d bc bs 89 [.ref 242, .double 0, .double 0, .double 0] [.int xt0] (g, m) Q := by
  unfold b_Mod_product_89 at e
  refine g_istore_n k_Mod_product_89 rfl (by decide) ?_
  refine g_aload_n k_Mod_product_90 rfl rfl ?_
  obtain ⟨y1, m2, e_y1, e⟩ := o_b2_ex e
  refine g_cv k_Mod_product_91 lv_Mod_160 (by decide +kernel) (T := F_Mod) (N := 61) (ci := 10) rfl (sk_Mod s) (s_Mod_blanks (bc := 0) (bs := 0) s F  m e_y1 (by omega)) rfl rfl (Nat.le_of_ble_eq_true rfl) (by simp [Value.category]) (by omega) (by omega) (by omega) ?_
  refine g_goto (tgt := 9) k_Mod_product_94 (by decide) ?_
  exact (hr_9 xt0 m2 e)
def b_Mod_product_42 (F : Nat) (rc_Mod_total : aM → Option (Int32 × aM)) (rc_Mod_test : aM → Option (Int32 × aM)) (rec_9 : Int32 → aM → Option (Int32 × aM)) (x1 : Int32) (m : aM) : Option (Int32 × aM) :=
  o_b (f_Mod_byteAt (m 242 13) m) fun y1 =>
  o_let (a_st m 242 13 ((m 242 13) + 1)) fun m2 =>
  o_b2 (g_Mod_unit F rc_Mod_total rc_Mod_test  m2) fun y3 m4 =>
  (if y1 = 42 then
  b_Mod_product_89 F rc_Mod_total rc_Mod_test rec_9 (x1 * y3) m4
  else
  (if y3 = 0 then
  b_Mod_product_89 F rc_Mod_total rc_Mod_test rec_9 0 m4
  else
  o_gd (nz y3) <|
  b_Mod_product_89 F rc_Mod_total rc_Mod_test rec_9 (x1 / y3) m4
  )
  )
theorem t_Mod_product_42 {K : aK} {d bc bs : Nat} {g : aG} (s : SyM g) {Q : aQ} {r : Int32} {m' : aM} (F : Nat) (D0 : Nat) (rc_Mod_total : aM → Option (Int32 × aM)) (hc_Mod_total : ∀ (d bc bs : Nat)  (m : aM) (r : Int32) (m' : aM), rc_Mod_total  m = some (r, m') → D0 ≤ d → Sp K M_Mod_total d bc bs [.ref 242] (g, m) (some (.int r)) (g, m')) (rc_Mod_test : aM → Option (Int32 × aM)) (hc_Mod_test : ∀ (d bc bs : Nat)  (m : aM) (r : Int32) (m' : aM), rc_Mod_test  m = some (r, m') → D0 ≤ d → Sp K M_Mod_test d bc bs [.ref 242] (g, m) (some (.int r)) (g, m')) (rec_9 : Int32 → aM → Option (Int32 × aM)) (hr_9 : ∀ (x1 : Int32) (m : aM), rec_9 x1 m = some (r, m') → G K M_Mod_product d bc bs 9 [.ref 242, .int x1, .double 0, .double 0] [] (g, m) Q) (x1 : Int32) (m : aM) (hq : Q (.inl (some (.int r))) (g, m')) (e : b_Mod_product_42 F rc_Mod_total rc_Mod_test rec_9 x1 m = some (r, m')) (hd : D0 + 10 ≤ d) : G K M_Mod_product d bc bs 42 [.ref 242, .int x1, .double 0, .double 0] [] (g, m) Q := by
  unfold b_Mod_product_42 at e
  refine g_aload_n k_Mod_product_42 rfl rfl ?_
  refine g_aload_n k_Mod_product_43 rfl rfl ?_
  refine p_geti k_Mod_product_44 fl_Mod_143 rfl (sk_Mod s) (by decide) ?_
  obtain ⟨y1, e_y1, e⟩ := o_b_ex e
  refine g_cv k_Mod_product_47 lv_Mod_146 (by decide +kernel) (T := F_Mod) (N := 61) (ci := 10) rfl (sk_Mod s) (s_Mod_byteAt (bc := 0) (bs := 0) s (m 242 13) m e_y1) rfl rfl (Nat.le_of_ble_eq_true rfl) (by simp [Value.category]) (by omega) (by omega) (by omega) ?_
  refine g_istore_n k_Mod_product_50 rfl (by decide) ?_
  refine g_aload_n k_Mod_product_51 rfl rfl ?_
  refine g_dup k_Mod_product_52 rfl ?_
  refine p_geti k_Mod_product_53 fl_Mod_143 rfl (sk_Mod s) (by decide) ?_
  refine g_iconst (v := 1) k_Mod_product_56 rfl ?_
  refine g_iadd k_Mod_product_57 ?_
  refine p_puti k_Mod_product_58 fl_Mod_143 rfl ⟨R_Mod, F_Mod, 61, rfl, Or.inl rfl⟩ (sk_Mod s) (by decide) ?_
  obtain ⟨m2, u_m2, e⟩ := o_let_ex e
  refine G.hm u_m2 ?_
  refine g_aload_n k_Mod_product_61 rfl rfl ?_
  obtain ⟨y3, m4, e_y3, e⟩ := o_b2_ex e
  refine g_cv k_Mod_product_62 lv_Mod_212 (by decide +kernel) (T := F_Mod) (N := 61) (ci := 10) rfl (sk_Mod s) (sg_Mod_unit (bc := 0) (bs := 0) s F D0 rc_Mod_total hc_Mod_total rc_Mod_test hc_Mod_test  m2 e_y3 (by omega)) rfl rfl (Nat.le_of_ble_eq_true rfl) (by simp [Value.category]) (by omega) (by omega) (by omega) ?_
  refine g_istore_n k_Mod_product_65 rfl (by decide) ?_
  refine g_iload_n k_Mod_product_66 rfl rfl ?_
  refine g_bipush (v := 42) k_Mod_product_67 rfl ?_
  refine g_icmp_ne (tgt := 78) k_Mod_product_69 (by decide) (fun c => ?_) (fun c => ?_)
  · rw [if_pos c] at e
    refine g_iload_n k_Mod_product_72 rfl rfl ?_
    refine g_iload_n k_Mod_product_73 rfl rfl ?_
    refine g_imul k_Mod_product_74 ?_
    refine g_goto (tgt := 89) k_Mod_product_75 (by decide) ?_
    exact G.wl (wls (wld (wld (wld wl0)))) (t_Mod_product_89 s F D0 rc_Mod_total hc_Mod_total rc_Mod_test hc_Mod_test rec_9 hr_9 (x1 * y3) m4 hq e hd)
  · rw [if_neg c] at e
    refine g_iload_n k_Mod_product_78 rfl rfl ?_
    refine g_if_ne (tgt := 86) k_Mod_product_79 (by decide) (fun c => ?_) (fun c => ?_)
    · rw [if_pos c] at e
      refine g_iconst (v := 0) k_Mod_product_82 rfl ?_
      refine g_goto (tgt := 89) k_Mod_product_83 (by decide) ?_
      exact G.wl (wls (wld (wld (wld wl0)))) (t_Mod_product_89 s F D0 rc_Mod_total hc_Mod_total rc_Mod_test hc_Mod_test rec_9 hr_9 0 m4 hq e hd)
    · rw [if_neg c] at e
      refine g_iload_n k_Mod_product_86 rfl rfl ?_
      refine g_iload_n k_Mod_product_87 rfl rfl ?_
      obtain ⟨q5, e⟩ := o_gd_ex e
      refine g_idiv k_Mod_product_88 (nz_ne q5) ?_
      exact G.wl (wls (wld (wld (wld wl0)))) (t_Mod_product_89 s F D0 rc_Mod_total hc_Mod_total rc_Mod_test hc_Mod_test rec_9 hr_9 (x1 / y3) m4 hq e hd)
def lb_Mod_product_9 (F : Nat) (rc_Mod_total : aM → Option (Int32 × aM)) (rc_Mod_test : aM → Option (Int32 × aM)) (rec_9 : Int32 → aM → Option (Int32 × aM)) (x1 : Int32) (m : aM) : Option (Int32 × aM) :=
  (if (m 242 15) = 0 then
  o_b (f_Mod_byteAt (m 242 13) m) fun y1 =>
  (if y1 = 42 then
  b_Mod_product_42 F rc_Mod_total rc_Mod_test rec_9 x1 m
  else
  o_b (f_Mod_byteAt (m 242 13) m) fun y2 =>
  (if y2 = 47 then
  b_Mod_product_42 F rc_Mod_total rc_Mod_test rec_9 x1 m
  else
  some (x1, m)
  )
  )
  else
  some (x1, m)
  )
theorem tb_Mod_product_9 {K : aK} {d bc bs : Nat} {g : aG} (s : SyM g) {Q : aQ} {r : Int32} {m' : aM} (F : Nat) (D0 : Nat) (rc_Mod_total : aM → Option (Int32 × aM)) (hc_Mod_total : ∀ (d bc bs : Nat)  (m : aM) (r : Int32) (m' : aM), rc_Mod_total  m = some (r, m') → D0 ≤ d → Sp K M_Mod_total d bc bs [.ref 242] (g, m) (some (.int r)) (g, m')) (rc_Mod_test : aM → Option (Int32 × aM)) (hc_Mod_test : ∀ (d bc bs : Nat)  (m : aM) (r : Int32) (m' : aM), rc_Mod_test  m = some (r, m') → D0 ≤ d → Sp K M_Mod_test d bc bs [.ref 242] (g, m) (some (.int r)) (g, m')) (rec_9 : Int32 → aM → Option (Int32 × aM)) (hr_9 : ∀ (x1 : Int32) (m : aM), rec_9 x1 m = some (r, m') → G K M_Mod_product d bc bs 9 [.ref 242, .int x1, .double 0, .double 0] [] (g, m) Q) (x1 : Int32) (m : aM) (hq : Q (.inl (some (.int r))) (g, m')) (e : lb_Mod_product_9 F rc_Mod_total rc_Mod_test rec_9 x1 m = some (r, m')) (hd : D0 + 10 ≤ d) : G K M_Mod_product d bc bs 9 [.ref 242, .int x1, .double 0, .double 0] [] (g, m) Q := by
  unfold lb_Mod_product_9 at e
  refine g_aload_n k_Mod_product_9 rfl rfl ?_
  refine p_geti k_Mod_product_10 fl_Mod_150 rfl (sk_Mod s) (by decide) ?_
  refine g_if_ne (tgt := 97) k_Mod_product_13 (by decide) (fun c => ?_) (fun c => ?_)
  · rw [if_pos c] at e
    refine g_aload_n k_Mod_product_16 rfl rfl ?_
    refine g_aload_n k_Mod_product_17 rfl rfl ?_
    refine p_geti k_Mod_product_18 fl_Mod_143 rfl (sk_Mod s) (by decide) ?_
    obtain ⟨y1, e_y1, e⟩ := o_b_ex e
    refine g_cv k_Mod_product_21 lv_Mod_146 (by decide +kernel) (T := F_Mod) (N := 61) (ci := 10) rfl (sk_Mod s) (s_Mod_byteAt (bc := 0) (bs := 0) s (m 242 13) m e_y1) rfl rfl (Nat.le_of_ble_eq_true rfl) (by simp [Value.category]) (by omega) (by omega) (by omega) ?_
    refine g_bipush (v := 42) k_Mod_product_24 rfl ?_
    refine g_icmp_eq (tgt := 42) k_Mod_product_26 (by decide) (fun c => ?_) (fun c => ?_)
    · rw [if_pos c] at e
      exact (t_Mod_product_42 s F D0 rc_Mod_total hc_Mod_total rc_Mod_test hc_Mod_test rec_9 hr_9 x1 m hq e hd)
    · rw [if_neg c] at e
      refine g_aload_n k_Mod_product_29 rfl rfl ?_
      refine g_aload_n k_Mod_product_30 rfl rfl ?_
      refine p_geti k_Mod_product_31 fl_Mod_143 rfl (sk_Mod s) (by decide) ?_
      obtain ⟨y2, e_y2, e⟩ := o_b_ex e
      refine g_cv k_Mod_product_34 lv_Mod_146 (by decide +kernel) (T := F_Mod) (N := 61) (ci := 10) rfl (sk_Mod s) (s_Mod_byteAt (bc := 0) (bs := 0) s (m 242 13) m e_y2) rfl rfl (Nat.le_of_ble_eq_true rfl) (by simp [Value.category]) (by omega) (by omega) (by omega) ?_
      refine g_bipush (v := 47) k_Mod_product_37 rfl ?_
      refine g_icmp_ne (tgt := 97) k_Mod_product_39 (by decide) (fun c => ?_) (fun c => ?_)
      · rw [if_pos c] at e
        exact (t_Mod_product_42 s F D0 rc_Mod_total hc_Mod_total rc_Mod_test hc_Mod_test rec_9 hr_9 x1 m hq e hd)
      · rw [if_neg c] at e
        refine g_iload_n k_Mod_product_97 rfl rfl ?_
        refine g_iret k_Mod_product_98 rfl ?_
        exact (by cases e; exact hq)
  · rw [if_neg c] at e
    refine g_iload_n k_Mod_product_97 rfl rfl ?_
    refine g_iret k_Mod_product_98 rfl ?_
    exact (by cases e; exact hq)
def ll_Mod_product_9 (F : Nat) (rc_Mod_total : aM → Option (Int32 × aM)) (rc_Mod_test : aM → Option (Int32 × aM)) : Nat → Int32 → aM → Option (Int32 × aM)
  | 0, _, _ => none
  | N + 1, x1, m => lb_Mod_product_9 F rc_Mod_total rc_Mod_test (ll_Mod_product_9 F rc_Mod_total rc_Mod_test N) x1 m
theorem t_Mod_product_9 {K : aK} {d bc bs : Nat} {g : aG} (s : SyM g) {Q : aQ} {r : Int32} {m' : aM} (F : Nat) (D0 : Nat) (rc_Mod_total : aM → Option (Int32 × aM)) (hc_Mod_total : ∀ (d bc bs : Nat)  (m : aM) (r : Int32) (m' : aM), rc_Mod_total  m = some (r, m') → D0 ≤ d → Sp K M_Mod_total d bc bs [.ref 242] (g, m) (some (.int r)) (g, m')) (rc_Mod_test : aM → Option (Int32 × aM)) (hc_Mod_test : ∀ (d bc bs : Nat)  (m : aM) (r : Int32) (m' : aM), rc_Mod_test  m = some (r, m') → D0 ≤ d → Sp K M_Mod_test d bc bs [.ref 242] (g, m) (some (.int r)) (g, m')) : ∀ (N : Nat) (x1 : Int32) (m : aM), Q (.inl (some (.int r))) (g, m') → ll_Mod_product_9 F rc_Mod_total rc_Mod_test N x1 m = some (r, m') → D0 + 10 ≤ d → G K M_Mod_product d bc bs 9 [.ref 242, .int x1, .double 0, .double 0] [] (g, m) Q
  | 0, _, _ => fun _ e => nomatch e
  | N + 1, x1, m => fun hq e hd => tb_Mod_product_9 s F D0 rc_Mod_total hc_Mod_total rc_Mod_test hc_Mod_test (ll_Mod_product_9 F rc_Mod_total rc_Mod_test N) (fun x1 m e => t_Mod_product_9 s F D0 rc_Mod_total hc_Mod_total rc_Mod_test hc_Mod_test N x1 m hq e hd) x1 m hq e hd
def g_Mod_product (F : Nat) (rc_Mod_total : aM → Option (Int32 × aM)) (rc_Mod_test : aM → Option (Int32 × aM))  (m : aM) : Option (Int32 × aM) :=
  o_b2 (g_Mod_unit F rc_Mod_total rc_Mod_test  m) fun y1 m2 =>
  o_b2 (f_Mod_blanks F  m2) fun y3 m4 =>
  ll_Mod_product_9 F rc_Mod_total rc_Mod_test F y1 m4
theorem sg_Mod_product {K : aK} {d bc bs : Nat} {g : aG} (s : SyM g) (F : Nat) (D0 : Nat) (rc_Mod_total : aM → Option (Int32 × aM)) (hc_Mod_total : ∀ (d bc bs : Nat)  (m : aM) (r : Int32) (m' : aM), rc_Mod_total  m = some (r, m') → D0 ≤ d → Sp K M_Mod_total d bc bs [.ref 242] (g, m) (some (.int r)) (g, m')) (rc_Mod_test : aM → Option (Int32 × aM)) (hc_Mod_test : ∀ (d bc bs : Nat)  (m : aM) (r : Int32) (m' : aM), rc_Mod_test  m = some (r, m') → D0 ≤ d → Sp K M_Mod_test d bc bs [.ref 242] (g, m) (some (.int r)) (g, m'))  (m : aM) {r : Int32} {m' : aM} (e : g_Mod_product F rc_Mod_total rc_Mod_test  m = some (r, m')) (hd : D0 + 10 ≤ d) : Sp K M_Mod_product d bc bs [.ref 242] (g, m) (some (.int r)) (g, m') := by
  refine sp_of ok_Mod_product rfl (Nat.le_of_ble_eq_true rfl) (by simp [Value.category]) (fun Q hq => ?_)
  unfold g_Mod_product at e
  refine g_aload_n k_Mod_product_0 rfl rfl ?_
  obtain ⟨y1, m2, e_y1, e⟩ := o_b2_ex e
  refine g_cv k_Mod_product_1 lv_Mod_212 (by decide +kernel) (T := F_Mod) (N := 61) (ci := 10) rfl (sk_Mod s) (sg_Mod_unit (bc := 0) (bs := 0) s F D0 rc_Mod_total hc_Mod_total rc_Mod_test hc_Mod_test  m e_y1 (by omega)) rfl rfl (Nat.le_of_ble_eq_true rfl) (by simp [Value.category]) (by omega) (by omega) (by omega) ?_
  refine g_istore_n k_Mod_product_4 rfl (by decide) ?_
  refine g_aload_n k_Mod_product_5 rfl rfl ?_
  obtain ⟨y3, m4, e_y3, e⟩ := o_b2_ex e
  refine g_cv k_Mod_product_6 lv_Mod_160 (by decide +kernel) (T := F_Mod) (N := 61) (ci := 10) rfl (sk_Mod s) (s_Mod_blanks (bc := 0) (bs := 0) s F  m2 e_y3 (by omega)) rfl rfl (Nat.le_of_ble_eq_true rfl) (by simp [Value.category]) (by omega) (by omega) (by omega) ?_
  exact (t_Mod_product_9 s F D0 rc_Mod_total hc_Mod_total rc_Mod_test hc_Mod_test F y1 m4 hq e hd)
def b_Mod_total_81 (F : Nat) (rc_Mod_total : aM → Option (Int32 × aM)) (rc_Mod_test : aM → Option (Int32 × aM)) (rec_9 : Int32 → aM → Option (Int32 × aM)) (xt0 : Int32) (m : aM) : Option (Int32 × aM) :=
  o_b2 (f_Mod_blanks F  m) fun y1 m2 =>
  rec_9 xt0 m2
theorem t_Mod_total_81 {K : aK} {d bc bs : Nat} {g : aG} (s : SyM g) {Q : aQ} {r : Int32} {m' : aM} (F : Nat) (D0 : Nat) (rc_Mod_total : aM → Option (Int32 × aM)) (hc_Mod_total : ∀ (d bc bs : Nat)  (m : aM) (r : Int32) (m' : aM), rc_Mod_total  m = some (r, m') → D0 ≤ d → Sp K M_Mod_total d bc bs [.ref 242] (g, m) (some (.int r)) (g, m')) (rc_Mod_test : aM → Option (Int32 × aM)) (hc_Mod_test : ∀ (d bc bs : Nat)  (m : aM) (r : Int32) (m' : aM), rc_Mod_test  m = some (r, m') → D0 ≤ d → Sp K M_Mod_test d bc bs [.ref 242] (g, m) (some (.int r)) (g, m')) (rec_9 : Int32 → aM → Option (Int32 × aM)) (hr_9 : ∀ (x1 : Int32) (m : aM), rec_9 x1 m = some (r, m') → G K M_Mod_total d bc bs 9 [.ref 242, .int x1, .double 0, .double 0] [] (g, m) Q) (xt0 : Int32) (m : aM) (hq : Q (.inl (some (.int r))) (g, m')) (e : b_Mod_total_81 F rc_Mod_total rc_Mod_test rec_9 xt0 m = some (r, m')) (hd : D0 + 12 ≤ d) : G K M_Mod_total d bc bs 81 [.ref 242, .double 0, .double 0, .double 0] [.int xt0] (g, m) Q := by
  unfold b_Mod_total_81 at e
  refine g_istore_n k_Mod_total_81 rfl (by decide) ?_
  refine g_aload_n k_Mod_total_82 rfl rfl ?_
  obtain ⟨y1, m2, e_y1, e⟩ := o_b2_ex e
  refine g_cv k_Mod_total_83 lv_Mod_160 (by decide +kernel) (T := F_Mod) (N := 61) (ci := 10) rfl (sk_Mod s) (s_Mod_blanks (bc := 0) (bs := 0) s F  m e_y1 (by omega)) rfl rfl (Nat.le_of_ble_eq_true rfl) (by simp [Value.category]) (by omega) (by omega) (by omega) ?_
  refine g_goto (tgt := 9) k_Mod_total_86 (by decide) ?_
  exact (hr_9 xt0 m2 e)
def b_Mod_total_42 (F : Nat) (rc_Mod_total : aM → Option (Int32 × aM)) (rc_Mod_test : aM → Option (Int32 × aM)) (rec_9 : Int32 → aM → Option (Int32 × aM)) (x1 : Int32) (m : aM) : Option (Int32 × aM) :=
  o_b (f_Mod_byteAt (m 242 13) m) fun y1 =>
  o_let (a_st m 242 13 ((m 242 13) + 1)) fun m2 =>
  o_b2 (g_Mod_product F rc_Mod_total rc_Mod_test  m2) fun y3 m4 =>
  (if y1 = 43 then
  b_Mod_total_81 F rc_Mod_total rc_Mod_test rec_9 (x1 + y3) m4
  else
  b_Mod_total_81 F rc_Mod_total rc_Mod_test rec_9 (x1 - y3) m4
  )
theorem t_Mod_total_42 {K : aK} {d bc bs : Nat} {g : aG} (s : SyM g) {Q : aQ} {r : Int32} {m' : aM} (F : Nat) (D0 : Nat) (rc_Mod_total : aM → Option (Int32 × aM)) (hc_Mod_total : ∀ (d bc bs : Nat)  (m : aM) (r : Int32) (m' : aM), rc_Mod_total  m = some (r, m') → D0 ≤ d → Sp K M_Mod_total d bc bs [.ref 242] (g, m) (some (.int r)) (g, m')) (rc_Mod_test : aM → Option (Int32 × aM)) (hc_Mod_test : ∀ (d bc bs : Nat)  (m : aM) (r : Int32) (m' : aM), rc_Mod_test  m = some (r, m') → D0 ≤ d → Sp K M_Mod_test d bc bs [.ref 242] (g, m) (some (.int r)) (g, m')) (rec_9 : Int32 → aM → Option (Int32 × aM)) (hr_9 : ∀ (x1 : Int32) (m : aM), rec_9 x1 m = some (r, m') → G K M_Mod_total d bc bs 9 [.ref 242, .int x1, .double 0, .double 0] [] (g, m) Q) (x1 : Int32) (m : aM) (hq : Q (.inl (some (.int r))) (g, m')) (e : b_Mod_total_42 F rc_Mod_total rc_Mod_test rec_9 x1 m = some (r, m')) (hd : D0 + 12 ≤ d) : G K M_Mod_total d bc bs 42 [.ref 242, .int x1, .double 0, .double 0] [] (g, m) Q := by
  unfold b_Mod_total_42 at e
  refine g_aload_n k_Mod_total_42 rfl rfl ?_
  refine g_aload_n k_Mod_total_43 rfl rfl ?_
  refine p_geti k_Mod_total_44 fl_Mod_143 rfl (sk_Mod s) (by decide) ?_
  obtain ⟨y1, e_y1, e⟩ := o_b_ex e
  refine g_cv k_Mod_total_47 lv_Mod_146 (by decide +kernel) (T := F_Mod) (N := 61) (ci := 10) rfl (sk_Mod s) (s_Mod_byteAt (bc := 0) (bs := 0) s (m 242 13) m e_y1) rfl rfl (Nat.le_of_ble_eq_true rfl) (by simp [Value.category]) (by omega) (by omega) (by omega) ?_
  refine g_istore_n k_Mod_total_50 rfl (by decide) ?_
  refine g_aload_n k_Mod_total_51 rfl rfl ?_
  refine g_dup k_Mod_total_52 rfl ?_
  refine p_geti k_Mod_total_53 fl_Mod_143 rfl (sk_Mod s) (by decide) ?_
  refine g_iconst (v := 1) k_Mod_total_56 rfl ?_
  refine g_iadd k_Mod_total_57 ?_
  refine p_puti k_Mod_total_58 fl_Mod_143 rfl ⟨R_Mod, F_Mod, 61, rfl, Or.inl rfl⟩ (sk_Mod s) (by decide) ?_
  obtain ⟨m2, u_m2, e⟩ := o_let_ex e
  refine G.hm u_m2 ?_
  refine g_aload_n k_Mod_total_61 rfl rfl ?_
  obtain ⟨y3, m4, e_y3, e⟩ := o_b2_ex e
  refine g_cv k_Mod_total_62 lv_Mod_215 (by decide +kernel) (T := F_Mod) (N := 61) (ci := 10) rfl (sk_Mod s) (sg_Mod_product (bc := 0) (bs := 0) s F D0 rc_Mod_total hc_Mod_total rc_Mod_test hc_Mod_test  m2 e_y3 (by omega)) rfl rfl (Nat.le_of_ble_eq_true rfl) (by simp [Value.category]) (by omega) (by omega) (by omega) ?_
  refine g_istore_n k_Mod_total_65 rfl (by decide) ?_
  refine g_iload_n k_Mod_total_66 rfl rfl ?_
  refine g_bipush (v := 43) k_Mod_total_67 rfl ?_
  refine g_icmp_ne (tgt := 78) k_Mod_total_69 (by decide) (fun c => ?_) (fun c => ?_)
  · rw [if_pos c] at e
    refine g_iload_n k_Mod_total_72 rfl rfl ?_
    refine g_iload_n k_Mod_total_73 rfl rfl ?_
    refine g_iadd k_Mod_total_74 ?_
    refine g_goto (tgt := 81) k_Mod_total_75 (by decide) ?_
    exact G.wl (wls (wld (wld (wld wl0)))) (t_Mod_total_81 s F D0 rc_Mod_total hc_Mod_total rc_Mod_test hc_Mod_test rec_9 hr_9 (x1 + y3) m4 hq e hd)
  · rw [if_neg c] at e
    refine g_iload_n k_Mod_total_78 rfl rfl ?_
    refine g_iload_n k_Mod_total_79 rfl rfl ?_
    refine g_isub k_Mod_total_80 ?_
    exact G.wl (wls (wld (wld (wld wl0)))) (t_Mod_total_81 s F D0 rc_Mod_total hc_Mod_total rc_Mod_test hc_Mod_test rec_9 hr_9 (x1 - y3) m4 hq e hd)
def lb_Mod_total_9 (F : Nat) (rc_Mod_total : aM → Option (Int32 × aM)) (rc_Mod_test : aM → Option (Int32 × aM)) (rec_9 : Int32 → aM → Option (Int32 × aM)) (x1 : Int32) (m : aM) : Option (Int32 × aM) :=
  (if (m 242 15) = 0 then
  o_b (f_Mod_byteAt (m 242 13) m) fun y1 =>
  (if y1 = 43 then
  b_Mod_total_42 F rc_Mod_total rc_Mod_test rec_9 x1 m
  else
  o_b (f_Mod_byteAt (m 242 13) m) fun y2 =>
  (if y2 = 45 then
  b_Mod_total_42 F rc_Mod_total rc_Mod_test rec_9 x1 m
  else
  some (x1, m)
  )
  )
  else
  some (x1, m)
  )
theorem tb_Mod_total_9 {K : aK} {d bc bs : Nat} {g : aG} (s : SyM g) {Q : aQ} {r : Int32} {m' : aM} (F : Nat) (D0 : Nat) (rc_Mod_total : aM → Option (Int32 × aM)) (hc_Mod_total : ∀ (d bc bs : Nat)  (m : aM) (r : Int32) (m' : aM), rc_Mod_total  m = some (r, m') → D0 ≤ d → Sp K M_Mod_total d bc bs [.ref 242] (g, m) (some (.int r)) (g, m')) (rc_Mod_test : aM → Option (Int32 × aM)) (hc_Mod_test : ∀ (d bc bs : Nat)  (m : aM) (r : Int32) (m' : aM), rc_Mod_test  m = some (r, m') → D0 ≤ d → Sp K M_Mod_test d bc bs [.ref 242] (g, m) (some (.int r)) (g, m')) (rec_9 : Int32 → aM → Option (Int32 × aM)) (hr_9 : ∀ (x1 : Int32) (m : aM), rec_9 x1 m = some (r, m') → G K M_Mod_total d bc bs 9 [.ref 242, .int x1, .double 0, .double 0] [] (g, m) Q) (x1 : Int32) (m : aM) (hq : Q (.inl (some (.int r))) (g, m')) (e : lb_Mod_total_9 F rc_Mod_total rc_Mod_test rec_9 x1 m = some (r, m')) (hd : D0 + 12 ≤ d) : G K M_Mod_total d bc bs 9 [.ref 242, .int x1, .double 0, .double 0] [] (g, m) Q := by
  unfold lb_Mod_total_9 at e
  refine g_aload_n k_Mod_total_9 rfl rfl ?_
  refine p_geti k_Mod_total_10 fl_Mod_150 rfl (sk_Mod s) (by decide) ?_
  refine g_if_ne (tgt := 89) k_Mod_total_13 (by decide) (fun c => ?_) (fun c => ?_)
  · rw [if_pos c] at e
    refine g_aload_n k_Mod_total_16 rfl rfl ?_
    refine g_aload_n k_Mod_total_17 rfl rfl ?_
    refine p_geti k_Mod_total_18 fl_Mod_143 rfl (sk_Mod s) (by decide) ?_
    obtain ⟨y1, e_y1, e⟩ := o_b_ex e
    refine g_cv k_Mod_total_21 lv_Mod_146 (by decide +kernel) (T := F_Mod) (N := 61) (ci := 10) rfl (sk_Mod s) (s_Mod_byteAt (bc := 0) (bs := 0) s (m 242 13) m e_y1) rfl rfl (Nat.le_of_ble_eq_true rfl) (by simp [Value.category]) (by omega) (by omega) (by omega) ?_
    refine g_bipush (v := 43) k_Mod_total_24 rfl ?_
    refine g_icmp_eq (tgt := 42) k_Mod_total_26 (by decide) (fun c => ?_) (fun c => ?_)
    · rw [if_pos c] at e
      exact (t_Mod_total_42 s F D0 rc_Mod_total hc_Mod_total rc_Mod_test hc_Mod_test rec_9 hr_9 x1 m hq e hd)
    · rw [if_neg c] at e
      refine g_aload_n k_Mod_total_29 rfl rfl ?_
      refine g_aload_n k_Mod_total_30 rfl rfl ?_
      refine p_geti k_Mod_total_31 fl_Mod_143 rfl (sk_Mod s) (by decide) ?_
      obtain ⟨y2, e_y2, e⟩ := o_b_ex e
      refine g_cv k_Mod_total_34 lv_Mod_146 (by decide +kernel) (T := F_Mod) (N := 61) (ci := 10) rfl (sk_Mod s) (s_Mod_byteAt (bc := 0) (bs := 0) s (m 242 13) m e_y2) rfl rfl (Nat.le_of_ble_eq_true rfl) (by simp [Value.category]) (by omega) (by omega) (by omega) ?_
      refine g_bipush (v := 45) k_Mod_total_37 rfl ?_
      refine g_icmp_ne (tgt := 89) k_Mod_total_39 (by decide) (fun c => ?_) (fun c => ?_)
      · rw [if_pos c] at e
        exact (t_Mod_total_42 s F D0 rc_Mod_total hc_Mod_total rc_Mod_test hc_Mod_test rec_9 hr_9 x1 m hq e hd)
      · rw [if_neg c] at e
        refine g_iload_n k_Mod_total_89 rfl rfl ?_
        refine g_iret k_Mod_total_90 rfl ?_
        exact (by cases e; exact hq)
  · rw [if_neg c] at e
    refine g_iload_n k_Mod_total_89 rfl rfl ?_
    refine g_iret k_Mod_total_90 rfl ?_
    exact (by cases e; exact hq)
def ll_Mod_total_9 (F : Nat) (rc_Mod_total : aM → Option (Int32 × aM)) (rc_Mod_test : aM → Option (Int32 × aM)) : Nat → Int32 → aM → Option (Int32 × aM)
  | 0, _, _ => none
  | N + 1, x1, m => lb_Mod_total_9 F rc_Mod_total rc_Mod_test (ll_Mod_total_9 F rc_Mod_total rc_Mod_test N) x1 m
theorem t_Mod_total_9 {K : aK} {d bc bs : Nat} {g : aG} (s : SyM g) {Q : aQ} {r : Int32} {m' : aM} (F : Nat) (D0 : Nat) (rc_Mod_total : aM → Option (Int32 × aM)) (hc_Mod_total : ∀ (d bc bs : Nat)  (m : aM) (r : Int32) (m' : aM), rc_Mod_total  m = some (r, m') → D0 ≤ d → Sp K M_Mod_total d bc bs [.ref 242] (g, m) (some (.int r)) (g, m')) (rc_Mod_test : aM → Option (Int32 × aM)) (hc_Mod_test : ∀ (d bc bs : Nat)  (m : aM) (r : Int32) (m' : aM), rc_Mod_test  m = some (r, m') → D0 ≤ d → Sp K M_Mod_test d bc bs [.ref 242] (g, m) (some (.int r)) (g, m')) : ∀ (N : Nat) (x1 : Int32) (m : aM), Q (.inl (some (.int r))) (g, m') → ll_Mod_total_9 F rc_Mod_total rc_Mod_test N x1 m = some (r, m') → D0 + 12 ≤ d → G K M_Mod_total d bc bs 9 [.ref 242, .int x1, .double 0, .double 0] [] (g, m) Q
  | 0, _, _ => fun _ e => nomatch e
  | N + 1, x1, m => fun hq e hd => tb_Mod_total_9 s F D0 rc_Mod_total hc_Mod_total rc_Mod_test hc_Mod_test (ll_Mod_total_9 F rc_Mod_total rc_Mod_test N) (fun x1 m e => t_Mod_total_9 s F D0 rc_Mod_total hc_Mod_total rc_Mod_test hc_Mod_test N x1 m hq e hd) x1 m hq e hd
def g_Mod_total (F : Nat) (rc_Mod_total : aM → Option (Int32 × aM)) (rc_Mod_test : aM → Option (Int32 × aM))  (m : aM) : Option (Int32 × aM) :=
  o_b2 (g_Mod_product F rc_Mod_total rc_Mod_test  m) fun y1 m2 =>
  o_b2 (f_Mod_blanks F  m2) fun y3 m4 =>
  ll_Mod_total_9 F rc_Mod_total rc_Mod_test F y1 m4
theorem sg_Mod_total {K : aK} {d bc bs : Nat} {g : aG} (s : SyM g) (F : Nat) (D0 : Nat) (rc_Mod_total : aM → Option (Int32 × aM)) (hc_Mod_total : ∀ (d bc bs : Nat)  (m : aM) (r : Int32) (m' : aM), rc_Mod_total  m = some (r, m') → D0 ≤ d → Sp K M_Mod_total d bc bs [.ref 242] (g, m) (some (.int r)) (g, m')) (rc_Mod_test : aM → Option (Int32 × aM)) (hc_Mod_test : ∀ (d bc bs : Nat)  (m : aM) (r : Int32) (m' : aM), rc_Mod_test  m = some (r, m') → D0 ≤ d → Sp K M_Mod_test d bc bs [.ref 242] (g, m) (some (.int r)) (g, m'))  (m : aM) {r : Int32} {m' : aM} (e : g_Mod_total F rc_Mod_total rc_Mod_test  m = some (r, m')) (hd : D0 + 12 ≤ d) : Sp K M_Mod_total d bc bs [.ref 242] (g, m) (some (.int r)) (g, m') := by
  refine sp_of ok_Mod_total rfl (Nat.le_of_ble_eq_true rfl) (by simp [Value.category]) (fun Q hq => ?_)
  unfold g_Mod_total at e
  refine g_aload_n k_Mod_total_0 rfl rfl ?_
  obtain ⟨y1, m2, e_y1, e⟩ := o_b2_ex e
  refine g_cv k_Mod_total_1 lv_Mod_215 (by decide +kernel) (T := F_Mod) (N := 61) (ci := 10) rfl (sk_Mod s) (sg_Mod_product (bc := 0) (bs := 0) s F D0 rc_Mod_total hc_Mod_total rc_Mod_test hc_Mod_test  m e_y1 (by omega)) rfl rfl (Nat.le_of_ble_eq_true rfl) (by simp [Value.category]) (by omega) (by omega) (by omega) ?_
  refine g_istore_n k_Mod_total_4 rfl (by decide) ?_
  refine g_aload_n k_Mod_total_5 rfl rfl ?_
  obtain ⟨y3, m4, e_y3, e⟩ := o_b2_ex e
  refine g_cv k_Mod_total_6 lv_Mod_160 (by decide +kernel) (T := F_Mod) (N := 61) (ci := 10) rfl (sk_Mod s) (s_Mod_blanks (bc := 0) (bs := 0) s F  m2 e_y3 (by omega)) rfl rfl (Nat.le_of_ble_eq_true rfl) (by simp [Value.category]) (by omega) (by omega) (by omega) ?_
  exact (t_Mod_total_9 s F D0 rc_Mod_total hc_Mod_total rc_Mod_test hc_Mod_test F y1 m4 hq e hd)
def b_Mod_test_143 (F : Nat) (rc_Mod_total : aM → Option (Int32 × aM)) (rc_Mod_test : aM → Option (Int32 × aM)) (x1 : Int32) (x2 : Int32) (m : aM) : Option (Int32 × aM) :=
  o_let (a_st m 242 13 ((m 242 13) + 1)) fun m1 =>
  o_b2 (rc_Mod_total  m1) fun y2 m3 =>
  (if x2 = 60 then
  (if y2 ≤ x1 then
  some (0, m3)
  else
  some (1, m3)
  )
  else
  (if x2 = 62 then
  (if x1 ≤ y2 then
  some (0, m3)
  else
  some (1, m3)
  )
  else
  (if x1 = y2 then
  some (1, m3)
  else
  some (0, m3)
  )
  )
  )
theorem t_Mod_test_143 {K : aK} {d bc bs : Nat} {g : aG} (s : SyM g) {Q : aQ} {r : Int32} {m' : aM} (F : Nat) (D0 : Nat) (rc_Mod_total : aM → Option (Int32 × aM)) (hc_Mod_total : ∀ (d bc bs : Nat)  (m : aM) (r : Int32) (m' : aM), rc_Mod_total  m = some (r, m') → D0 ≤ d → Sp K M_Mod_total d bc bs [.ref 242] (g, m) (some (.int r)) (g, m')) (rc_Mod_test : aM → Option (Int32 × aM)) (hc_Mod_test : ∀ (d bc bs : Nat)  (m : aM) (r : Int32) (m' : aM), rc_Mod_test  m = some (r, m') → D0 ≤ d → Sp K M_Mod_test d bc bs [.ref 242] (g, m) (some (.int r)) (g, m')) (x1 : Int32) (x2 : Int32) (m : aM) (hq : Q (.inl (some (.int r))) (g, m')) (e : b_Mod_test_143 F rc_Mod_total rc_Mod_test x1 x2 m = some (r, m')) (hd : D0 + 8 ≤ d) : G K M_Mod_test d bc bs 143 [.ref 242, .int x1, .int x2, .double 0] [] (g, m) Q := by
  unfold b_Mod_test_143 at e
  refine g_aload_n k_Mod_test_143 rfl rfl ?_
  refine g_dup k_Mod_test_144 rfl ?_
  refine p_geti k_Mod_test_145 fl_Mod_143 rfl (sk_Mod s) (by decide) ?_
  refine g_iconst (v := 1) k_Mod_test_148 rfl ?_
  refine g_iadd k_Mod_test_149 ?_
  refine p_puti k_Mod_test_150 fl_Mod_143 rfl ⟨R_Mod, F_Mod, 61, rfl, Or.inl rfl⟩ (sk_Mod s) (by decide) ?_
  obtain ⟨m1, u_m1, e⟩ := o_let_ex e
  refine G.hm u_m1 ?_
  refine g_aload_n k_Mod_test_153 rfl rfl ?_
  obtain ⟨y2, m3, e_y2, e⟩ := o_b2_ex e
  refine g_cv k_Mod_test_154 lv_Mod_209 (by decide +kernel) (T := F_Mod) (N := 61) (ci := 10) rfl (sk_Mod s) (hc_Mod_total _ 0 0  m1 _ _ e_y2 (by omega)) rfl rfl (Nat.le_of_ble_eq_true rfl) (by simp [Value.category]) (by omega) (by omega) (by omega) ?_
  refine g_istore_n k_Mod_test_157 rfl (by decide) ?_
  refine g_iload_n k_Mod_test_158 rfl rfl ?_
  refine g_bipush (v := 60) k_Mod_test_159 rfl ?_
  refine g_icmp_ne (tgt := 177) k_Mod_test_161 (by decide) (fun c => ?_) (fun c => ?_)
  · rw [if_pos c] at e
    refine g_iload_n k_Mod_test_164 rfl rfl ?_
    refine g_iload_n k_Mod_test_165 rfl rfl ?_
    refine g_icmp_ge (tgt := 173) k_Mod_test_166 (by decide) (fun c => ?_) (fun c => ?_)
    · rw [if_pos c] at e
      refine g_iconst (v := 0) k_Mod_test_173 rfl ?_
      refine g_goto (tgt := 206) k_Mod_test_174 (by decide) ?_
      refine g_zret k_Mod_test_206 rfl (by decide) ?_
      exact (by cases e; exact hq)
    · rw [if_neg c] at e
      refine g_iconst (v := 1) k_Mod_test_169 rfl ?_
      refine g_goto (tgt := 206) k_Mod_test_170 (by decide) ?_
      refine g_zret k_Mod_test_206 rfl (by decide) ?_
      exact (by cases e; exact hq)
  · rw [if_neg c] at e
    refine g_iload_n k_Mod_test_177 rfl rfl ?_
    refine g_bipush (v := 62) k_Mod_test_178 rfl ?_
    refine g_icmp_ne (tgt := 196) k_Mod_test_180 (by decide) (fun c => ?_) (fun c => ?_)
    · rw [if_pos c] at e
      refine g_iload_n k_Mod_test_183 rfl rfl ?_
      refine g_iload_n k_Mod_test_184 rfl rfl ?_
      refine g_icmp_le (tgt := 192) k_Mod_test_185 (by decide) (fun c => ?_) (fun c => ?_)
      · rw [if_pos c] at e
        refine g_iconst (v := 0) k_Mod_test_192 rfl ?_
        refine g_goto (tgt := 206) k_Mod_test_193 (by decide) ?_
        refine g_zret k_Mod_test_206 rfl (by decide) ?_
        exact (by cases e; exact hq)
      · rw [if_neg c] at e
        refine g_iconst (v := 1) k_Mod_test_188 rfl ?_
        refine g_goto (tgt := 206) k_Mod_test_189 (by decide) ?_
        refine g_zret k_Mod_test_206 rfl (by decide) ?_
        exact (by cases e; exact hq)
    · rw [if_neg c] at e
      refine g_iload_n k_Mod_test_196 rfl rfl ?_
      refine g_iload_n k_Mod_test_197 rfl rfl ?_
      refine g_icmp_ne (tgt := 205) k_Mod_test_198 (by decide) (fun c => ?_) (fun c => ?_)
      · rw [if_pos c] at e
        refine g_iconst (v := 1) k_Mod_test_201 rfl ?_
        refine g_goto (tgt := 206) k_Mod_test_202 (by decide) ?_
        refine g_zret k_Mod_test_206 rfl (by decide) ?_
        exact (by cases e; exact hq)
      · rw [if_neg c] at e
        refine g_iconst (v := 0) k_Mod_test_205 rfl ?_
        refine g_zret k_Mod_test_206 rfl (by decide) ?_
        exact (by cases e; exact hq)
def b_Mod_test_44 (F : Nat) (rc_Mod_total : aM → Option (Int32 × aM)) (rc_Mod_test : aM → Option (Int32 × aM)) (xt0 : Int32) (m : aM) : Option (Int32 × aM) :=
  o_let (a_st m 242 14 ((m 242 14) - 1)) fun m1 =>
  o_gd (isb xt0) <|
  some (xt0, m1)
theorem t_Mod_test_44 {K : aK} {d bc bs : Nat} {g : aG} (s : SyM g) {Q : aQ} {r : Int32} {m' : aM} (F : Nat) (D0 : Nat) (rc_Mod_total : aM → Option (Int32 × aM)) (hc_Mod_total : ∀ (d bc bs : Nat)  (m : aM) (r : Int32) (m' : aM), rc_Mod_total  m = some (r, m') → D0 ≤ d → Sp K M_Mod_total d bc bs [.ref 242] (g, m) (some (.int r)) (g, m')) (rc_Mod_test : aM → Option (Int32 × aM)) (hc_Mod_test : ∀ (d bc bs : Nat)  (m : aM) (r : Int32) (m' : aM), rc_Mod_test  m = some (r, m') → D0 ≤ d → Sp K M_Mod_test d bc bs [.ref 242] (g, m) (some (.int r)) (g, m')) (xt0 : Int32) (m : aM) (hq : Q (.inl (some (.int r))) (g, m')) (e : b_Mod_test_44 F rc_Mod_total rc_Mod_test xt0 m = some (r, m')) (hd : D0 + 8 ≤ d) : G K M_Mod_test d bc bs 44 [.ref 242, .double 0, .double 0, .double 0] [.int xt0] (g, m) Q := by
  unfold b_Mod_test_44 at e
  refine g_istore_n k_Mod_test_44 rfl (by decide) ?_
  refine g_aload_n k_Mod_test_45 rfl rfl ?_
  refine g_dup k_Mod_test_46 rfl ?_
  refine p_geti k_Mod_test_47 fl_Mod_174 rfl (sk_Mod s) (by decide) ?_
  refine g_iconst (v := 1) k_Mod_test_50 rfl ?_
  refine g_isub k_Mod_test_51 ?_
  refine p_puti k_Mod_test_52 fl_Mod_174 rfl ⟨R_Mod, F_Mod, 61, rfl, Or.inl rfl⟩ (sk_Mod s) (by decide) ?_
  obtain ⟨m1, u_m1, e⟩ := o_let_ex e
  refine G.hm u_m1 ?_
  refine g_iload_n k_Mod_test_55 rfl rfl ?_
  obtain ⟨q2, e⟩ := o_gd_ex e
  refine g_zret k_Mod_test_56 rfl (isb_or q2) ?_
  exact (by cases e; exact hq)
def g_Mod_test (F : Nat) (rc_Mod_total : aM → Option (Int32 × aM)) (rc_Mod_test : aM → Option (Int32 × aM))  (m : aM) : Option (Int32 × aM) :=
  (if (m 242 15) = 0 then
  o_b2 (f_Mod_wordHere F  m) fun y1 m2 =>
  o_b (f_Mod_word 14 15 20 0 0 m2) fun y3 =>
  (if y1 = y3 then
  o_b2 (f_Mod_opens 3 m2) fun y4 m5 =>
  o_b2 (rc_Mod_test  m5) fun y6 m7 =>
  (if y6 = 0 then
  b_Mod_test_44 F rc_Mod_total rc_Mod_test 1 m7
  else
  b_Mod_test_44 F rc_Mod_total rc_Mod_test 0 m7
  )
  else
  o_b (f_Mod_byteAt (m2 242 13) m2) fun y8 =>
  (if y8 = 91 then
  o_b2 (f_Mod_opens 1 m2) fun y9 m10 =>
  o_b2 (g_Mod_ors F rc_Mod_total rc_Mod_test  m10) fun y11 m12 =>
  o_b2 (f_Mod_sign F 93 m12) fun y13 m14 =>
  o_let (a_st m14 242 14 ((m14 242 14) - 1)) fun m15 =>
  o_gd (isb y11) <|
  some (y11, m15)
  else
  o_b2 (rc_Mod_total  m2) fun y17 m18 =>
  o_b2 (f_Mod_blanks F  m18) fun y19 m20 =>
  o_b (f_Mod_byteAt (m20 242 13) m20) fun y21 =>
  (if y21 = 60 then
  b_Mod_test_143 F rc_Mod_total rc_Mod_test y17 y21 m20
  else
  (if y21 = 62 then
  b_Mod_test_143 F rc_Mod_total rc_Mod_test y17 y21 m20
  else
  (if y21 = 61 then
  b_Mod_test_143 F rc_Mod_total rc_Mod_test y17 y21 m20
  else
  o_b2 (f_Mod_wrongAt 1 (m20 242 13) m20) fun y22 m23 =>
  b_Mod_test_143 F rc_Mod_total rc_Mod_test y17 y21 m23
  )
  )
  )
  )
  )
  else
  some (0, m)
  )
theorem sg_Mod_test {K : aK} {d bc bs : Nat} {g : aG} (s : SyM g) (F : Nat) (D0 : Nat) (rc_Mod_total : aM → Option (Int32 × aM)) (hc_Mod_total : ∀ (d bc bs : Nat)  (m : aM) (r : Int32) (m' : aM), rc_Mod_total  m = some (r, m') → D0 ≤ d → Sp K M_Mod_total d bc bs [.ref 242] (g, m) (some (.int r)) (g, m')) (rc_Mod_test : aM → Option (Int32 × aM)) (hc_Mod_test : ∀ (d bc bs : Nat)  (m : aM) (r : Int32) (m' : aM), rc_Mod_test  m = some (r, m') → D0 ≤ d → Sp K M_Mod_test d bc bs [.ref 242] (g, m) (some (.int r)) (g, m'))  (m : aM) {r : Int32} {m' : aM} (e : g_Mod_test F rc_Mod_total rc_Mod_test  m = some (r, m')) (hd : D0 + 8 ≤ d) : Sp K M_Mod_test d bc bs [.ref 242] (g, m) (some (.int r)) (g, m') := by
  refine sp_of ok_Mod_test rfl (Nat.le_of_ble_eq_true rfl) (by simp [Value.category]) (fun Q hq => ?_)
  unfold g_Mod_test at e
  refine g_aload_n k_Mod_test_0 rfl rfl ?_
  refine p_geti k_Mod_test_1 fl_Mod_150 rfl (sk_Mod s) (by decide) ?_
  refine g_if_eq (tgt := 9) k_Mod_test_4 (by decide) (fun c => ?_) (fun c => ?_)
  · rw [if_pos c] at e
    refine g_aload_n k_Mod_test_9 rfl rfl ?_
    obtain ⟨y1, m2, e_y1, e⟩ := o_b2_ex e
    refine g_cv k_Mod_test_10 lv_Mod_188 (by decide +kernel) (T := F_Mod) (N := 61) (ci := 10) rfl (sk_Mod s) (s_Mod_wordHere (bc := 0) (bs := 0) s F  m e_y1 (by omega)) rfl rfl (Nat.le_of_ble_eq_true rfl) (by simp [Value.category]) (by omega) (by omega) (by omega) ?_
    refine g_bipush (v := 14) k_Mod_test_13 rfl ?_
    refine g_bipush (v := 15) k_Mod_test_15 rfl ?_
    refine g_bipush (v := 20) k_Mod_test_17 rfl ?_
    refine g_iconst (v := 0) k_Mod_test_19 rfl ?_
    refine g_iconst (v := 0) k_Mod_test_20 rfl ?_
    obtain ⟨y3, e_y3, e⟩ := o_b_ex e
    refine g_cs k_Mod_test_21 ls_Mod_191 (by decide +kernel) (s_Mod_word (bc := 0) (bs := 0) s 14 15 20 0 0 m2 e_y3) rfl rfl (Nat.le_of_ble_eq_true rfl) (by simp [Value.category]) (by omega) (by omega) (by omega) ?_
    refine g_icmp_ne (tgt := 57) k_Mod_test_24 (by decide) (fun c => ?_) (fun c => ?_)
    · rw [if_pos c] at e
      refine g_aload_n k_Mod_test_27 rfl rfl ?_
      refine g_iconst (v := 3) k_Mod_test_28 rfl ?_
      obtain ⟨y4, m5, e_y4, e⟩ := o_b2_ex e
      refine g_cv k_Mod_test_29 lv_Mod_198 (by decide +kernel) (T := F_Mod) (N := 61) (ci := 10) rfl (sk_Mod s) (s_Mod_opens (bc := 0) (bs := 0) s 3 m2 e_y4 (by omega)) rfl rfl (Nat.le_of_ble_eq_true rfl) (by simp [Value.category]) (by omega) (by omega) (by omega) ?_
      refine g_aload_n k_Mod_test_32 rfl rfl ?_
      obtain ⟨y6, m7, e_y6, e⟩ := o_b2_ex e
      refine g_cv k_Mod_test_33 lv_Mod_218 (by decide +kernel) (T := F_Mod) (N := 61) (ci := 10) rfl (sk_Mod s) (hc_Mod_test _ 0 0  m5 _ _ e_y6 (by omega)) rfl rfl (Nat.le_of_ble_eq_true rfl) (by simp [Value.category]) (by omega) (by omega) (by omega) ?_
      refine g_if_ne (tgt := 43) k_Mod_test_36 (by decide) (fun c => ?_) (fun c => ?_)
      · rw [if_pos c] at e
        refine g_iconst (v := 1) k_Mod_test_39 rfl ?_
        refine g_goto (tgt := 44) k_Mod_test_40 (by decide) ?_
        exact (t_Mod_test_44 s F D0 rc_Mod_total hc_Mod_total rc_Mod_test hc_Mod_test 1 m7 hq e hd)
      · rw [if_neg c] at e
        refine g_iconst (v := 0) k_Mod_test_43 rfl ?_
        exact (t_Mod_test_44 s F D0 rc_Mod_total hc_Mod_total rc_Mod_test hc_Mod_test 0 m7 hq e hd)
    · rw [if_neg c] at e
      refine g_aload_n k_Mod_test_57 rfl rfl ?_
      refine g_aload_n k_Mod_test_58 rfl rfl ?_
      refine p_geti k_Mod_test_59 fl_Mod_143 rfl (sk_Mod s) (by decide) ?_
      obtain ⟨y8, e_y8, e⟩ := o_b_ex e
      refine g_cv k_Mod_test_62 lv_Mod_146 (by decide +kernel) (T := F_Mod) (N := 61) (ci := 10) rfl (sk_Mod s) (s_Mod_byteAt (bc := 0) (bs := 0) s (m2 242 13) m2 e_y8) rfl rfl (Nat.le_of_ble_eq_true rfl) (by simp [Value.category]) (by omega) (by omega) (by omega) ?_
      refine g_bipush (v := 91) k_Mod_test_65 rfl ?_
      refine g_icmp_ne (tgt := 98) k_Mod_test_67 (by decide) (fun c => ?_) (fun c => ?_)
      · rw [if_pos c] at e
        refine g_aload_n k_Mod_test_70 rfl rfl ?_
        refine g_iconst (v := 1) k_Mod_test_71 rfl ?_
        obtain ⟨y9, m10, e_y9, e⟩ := o_b2_ex e
        refine g_cv k_Mod_test_72 lv_Mod_198 (by decide +kernel) (T := F_Mod) (N := 61) (ci := 10) rfl (sk_Mod s) (s_Mod_opens (bc := 0) (bs := 0) s 1 m2 e_y9 (by omega)) rfl rfl (Nat.le_of_ble_eq_true rfl) (by simp [Value.category]) (by omega) (by omega) (by omega) ?_
        refine g_aload_n k_Mod_test_75 rfl rfl ?_
        obtain ⟨y11, m12, e_y11, e⟩ := o_b2_ex e
        refine g_cv k_Mod_test_76 lv_Mod_202 (by decide +kernel) (T := F_Mod) (N := 61) (ci := 10) rfl (sk_Mod s) (sg_Mod_ors (bc := 0) (bs := 0) s F D0 rc_Mod_total hc_Mod_total rc_Mod_test hc_Mod_test  m10 e_y11 (by omega)) rfl rfl (Nat.le_of_ble_eq_true rfl) (by simp [Value.category]) (by omega) (by omega) (by omega) ?_
        refine g_istore_n k_Mod_test_79 rfl (by decide) ?_
        refine g_aload_n k_Mod_test_80 rfl rfl ?_
        refine g_bipush (v := 93) k_Mod_test_81 rfl ?_
        obtain ⟨y13, m14, e_y13, e⟩ := o_b2_ex e
        refine g_cv k_Mod_test_83 lv_Mod_206 (by decide +kernel) (T := F_Mod) (N := 61) (ci := 10) rfl (sk_Mod s) (s_Mod_sign (bc := 0) (bs := 0) s F 93 m12 e_y13 (by omega)) rfl rfl (Nat.le_of_ble_eq_true rfl) (by simp [Value.category]) (by omega) (by omega) (by omega) ?_
        refine g_aload_n k_Mod_test_86 rfl rfl ?_
        refine g_dup k_Mod_test_87 rfl ?_
        refine p_geti k_Mod_test_88 fl_Mod_174 rfl (sk_Mod s) (by decide) ?_
        refine g_iconst (v := 1) k_Mod_test_91 rfl ?_
        refine g_isub k_Mod_test_92 ?_
        refine p_puti k_Mod_test_93 fl_Mod_174 rfl ⟨R_Mod, F_Mod, 61, rfl, Or.inl rfl⟩ (sk_Mod s) (by decide) ?_
        obtain ⟨m15, u_m15, e⟩ := o_let_ex e
        refine G.hm u_m15 ?_
        refine g_iload_n k_Mod_test_96 rfl rfl ?_
        obtain ⟨q16, e⟩ := o_gd_ex e
        refine g_zret k_Mod_test_97 rfl (isb_or q16) ?_
        exact (by cases e; exact hq)
      · rw [if_neg c] at e
        refine g_aload_n k_Mod_test_98 rfl rfl ?_
        obtain ⟨y17, m18, e_y17, e⟩ := o_b2_ex e
        refine g_cv k_Mod_test_99 lv_Mod_209 (by decide +kernel) (T := F_Mod) (N := 61) (ci := 10) rfl (sk_Mod s) (hc_Mod_total _ 0 0  m2 _ _ e_y17 (by omega)) rfl rfl (Nat.le_of_ble_eq_true rfl) (by simp [Value.category]) (by omega) (by omega) (by omega) ?_
        refine g_istore_n k_Mod_test_102 rfl (by decide) ?_
        refine g_aload_n k_Mod_test_103 rfl rfl ?_
        obtain ⟨y19, m20, e_y19, e⟩ := o_b2_ex e
        refine g_cv k_Mod_test_104 lv_Mod_160 (by decide +kernel) (T := F_Mod) (N := 61) (ci := 10) rfl (sk_Mod s) (s_Mod_blanks (bc := 0) (bs := 0) s F  m18 e_y19 (by omega)) rfl rfl (Nat.le_of_ble_eq_true rfl) (by simp [Value.category]) (by omega) (by omega) (by omega) ?_
        refine g_aload_n k_Mod_test_107 rfl rfl ?_
        refine g_aload_n k_Mod_test_108 rfl rfl ?_
        refine p_geti k_Mod_test_109 fl_Mod_143 rfl (sk_Mod s) (by decide) ?_
        obtain ⟨y21, e_y21, e⟩ := o_b_ex e
        refine g_cv k_Mod_test_112 lv_Mod_146 (by decide +kernel) (T := F_Mod) (N := 61) (ci := 10) rfl (sk_Mod s) (s_Mod_byteAt (bc := 0) (bs := 0) s (m20 242 13) m20 e_y21) rfl rfl (Nat.le_of_ble_eq_true rfl) (by simp [Value.category]) (by omega) (by omega) (by omega) ?_
        refine g_istore_n k_Mod_test_115 rfl (by decide) ?_
        refine g_iload_n k_Mod_test_116 rfl rfl ?_
        refine g_bipush (v := 60) k_Mod_test_117 rfl ?_
        refine g_icmp_eq (tgt := 143) k_Mod_test_119 (by decide) (fun c => ?_) (fun c => ?_)
        · rw [if_pos c] at e
          exact (t_Mod_test_143 s F D0 rc_Mod_total hc_Mod_total rc_Mod_test hc_Mod_test y17 y21 m20 hq e hd)
        · rw [if_neg c] at e
          refine g_iload_n k_Mod_test_122 rfl rfl ?_
          refine g_bipush (v := 62) k_Mod_test_123 rfl ?_
          refine g_icmp_eq (tgt := 143) k_Mod_test_125 (by decide) (fun c => ?_) (fun c => ?_)
          · rw [if_pos c] at e
            exact (t_Mod_test_143 s F D0 rc_Mod_total hc_Mod_total rc_Mod_test hc_Mod_test y17 y21 m20 hq e hd)
          · rw [if_neg c] at e
            refine g_iload_n k_Mod_test_128 rfl rfl ?_
            refine g_bipush (v := 61) k_Mod_test_129 rfl ?_
            refine g_icmp_eq (tgt := 143) k_Mod_test_131 (by decide) (fun c => ?_) (fun c => ?_)
            · rw [if_pos c] at e
              exact (t_Mod_test_143 s F D0 rc_Mod_total hc_Mod_total rc_Mod_test hc_Mod_test y17 y21 m20 hq e hd)
            · rw [if_neg c] at e
              refine g_aload_n k_Mod_test_134 rfl rfl ?_
              refine g_iconst (v := 1) k_Mod_test_135 rfl ?_
              refine g_aload_n k_Mod_test_136 rfl rfl ?_
              refine p_geti k_Mod_test_137 fl_Mod_143 rfl (sk_Mod s) (by decide) ?_
              obtain ⟨y22, m23, e_y22, e⟩ := o_b2_ex e
              refine g_cv k_Mod_test_140 lv_Mod_166 (by decide +kernel) (T := F_Mod) (N := 61) (ci := 10) rfl (sk_Mod s) (s_Mod_wrongAt (bc := 0) (bs := 0) s 1 (m20 242 13) m20 e_y22) rfl rfl (Nat.le_of_ble_eq_true rfl) (by simp [Value.category]) (by omega) (by omega) (by omega) ?_
              exact (t_Mod_test_143 s F D0 rc_Mod_total hc_Mod_total rc_Mod_test hc_Mod_test y17 y21 m23 hq e hd)
  · rw [if_neg c] at e
    refine g_iconst (v := 0) k_Mod_test_7 rfl ?_
    refine g_zret k_Mod_test_8 rfl (by decide) ?_
    exact (by cases e; exact hq)
def rcs_mod (F : Nat) : Nat → (aM → Option (Int32 × aM)) × (aM → Option (Int32 × aM))
  | 0 => (fun _ => none, fun _ => none)
  | N + 1 => (fun m => g_Mod_total F (rcs_mod F N).1 (rcs_mod F N).2 m, fun m => g_Mod_test F (rcs_mod F N).1 (rcs_mod F N).2 m)
theorem hcs_mod {K : aK} {g : aG} (s : SyM g) (F : Nat) : ∀ N : Nat, (∀ (d bc bs : Nat)  (m : aM) (r : Int32) (m' : aM), (rcs_mod F N).1  m = some (r, m') → 12 * N ≤ d → Sp K M_Mod_total d bc bs [.ref 242] (g, m) (some (.int r)) (g, m')) ∧ (∀ (d bc bs : Nat)  (m : aM) (r : Int32) (m' : aM), (rcs_mod F N).2  m = some (r, m') → 12 * N ≤ d → Sp K M_Mod_test d bc bs [.ref 242] (g, m) (some (.int r)) (g, m'))
  | 0 => ⟨(fun _ _ _  _ _ _ e => nomatch e), (fun _ _ _  _ _ _ e => nomatch e)⟩
  | N + 1 => ⟨(fun d bc bs  m r m' e hd => sg_Mod_total s F (12 * N) (rcs_mod F N).1 (hcs_mod s F N).1 (rcs_mod F N).2 (hcs_mod s F N).2  m e (by omega)), (fun d bc bs  m r m' e hd => sg_Mod_test s F (12 * N) (rcs_mod F N).1 (hcs_mod s F N).1 (rcs_mod F N).2 (hcs_mod s F N).2  m e (by omega))⟩
def f_Mod_ands (F : Nat)  (m : aM) : Option (Int32 × aM) := g_Mod_ands F (rcs_mod F 32).1 (rcs_mod F 32).2  m
theorem s_Mod_ands {K : aK} {d bc bs : Nat} {g : aG} (s : SyM g) (F : Nat)  (m : aM) {r : Int32} {m' : aM} (e : f_Mod_ands F  m = some (r, m')) (hd : 396 ≤ d) : Sp K M_Mod_ands d bc bs [.ref 242] (g, m) (some (.int r)) (g, m') := sg_Mod_ands s F 384 (rcs_mod F 32).1 (hcs_mod s F 32).1 (rcs_mod F 32).2 (hcs_mod s F 32).2  m e (by omega)
def f_Mod_ors (F : Nat)  (m : aM) : Option (Int32 × aM) := g_Mod_ors F (rcs_mod F 32).1 (rcs_mod F 32).2  m
theorem s_Mod_ors {K : aK} {d bc bs : Nat} {g : aG} (s : SyM g) (F : Nat)  (m : aM) {r : Int32} {m' : aM} (e : f_Mod_ors F  m = some (r, m')) (hd : 396 ≤ d) : Sp K M_Mod_ors d bc bs [.ref 242] (g, m) (some (.int r)) (g, m') := sg_Mod_ors s F 384 (rcs_mod F 32).1 (hcs_mod s F 32).1 (rcs_mod F 32).2 (hcs_mod s F 32).2  m e (by omega)
def f_Mod_unit (F : Nat)  (m : aM) : Option (Int32 × aM) := g_Mod_unit F (rcs_mod F 32).1 (rcs_mod F 32).2  m
theorem s_Mod_unit {K : aK} {d bc bs : Nat} {g : aG} (s : SyM g) (F : Nat)  (m : aM) {r : Int32} {m' : aM} (e : f_Mod_unit F  m = some (r, m')) (hd : 396 ≤ d) : Sp K M_Mod_unit d bc bs [.ref 242] (g, m) (some (.int r)) (g, m') := sg_Mod_unit s F 384 (rcs_mod F 32).1 (hcs_mod s F 32).1 (rcs_mod F 32).2 (hcs_mod s F 32).2  m e (by omega)
def f_Mod_product (F : Nat)  (m : aM) : Option (Int32 × aM) := g_Mod_product F (rcs_mod F 32).1 (rcs_mod F 32).2  m
theorem s_Mod_product {K : aK} {d bc bs : Nat} {g : aG} (s : SyM g) (F : Nat)  (m : aM) {r : Int32} {m' : aM} (e : f_Mod_product F  m = some (r, m')) (hd : 396 ≤ d) : Sp K M_Mod_product d bc bs [.ref 242] (g, m) (some (.int r)) (g, m') := sg_Mod_product s F 384 (rcs_mod F 32).1 (hcs_mod s F 32).1 (rcs_mod F 32).2 (hcs_mod s F 32).2  m e (by omega)
def f_Mod_total (F : Nat)  (m : aM) : Option (Int32 × aM) := g_Mod_total F (rcs_mod F 32).1 (rcs_mod F 32).2  m
theorem s_Mod_total {K : aK} {d bc bs : Nat} {g : aG} (s : SyM g) (F : Nat)  (m : aM) {r : Int32} {m' : aM} (e : f_Mod_total F  m = some (r, m')) (hd : 396 ≤ d) : Sp K M_Mod_total d bc bs [.ref 242] (g, m) (some (.int r)) (g, m') := sg_Mod_total s F 384 (rcs_mod F 32).1 (hcs_mod s F 32).1 (rcs_mod F 32).2 (hcs_mod s F 32).2  m e (by omega)
def f_Mod_test (F : Nat)  (m : aM) : Option (Int32 × aM) := g_Mod_test F (rcs_mod F 32).1 (rcs_mod F 32).2  m
theorem s_Mod_test {K : aK} {d bc bs : Nat} {g : aG} (s : SyM g) (F : Nat)  (m : aM) {r : Int32} {m' : aM} (e : f_Mod_test F  m = some (r, m')) (hd : 396 ≤ d) : Sp K M_Mod_test d bc bs [.ref 242] (g, m) (some (.int r)) (g, m') := sg_Mod_test s F 384 (rcs_mod F 32).1 (hcs_mod s F 32).1 (rcs_mod F 32).2 (hcs_mod s F 32).2  m e (by omega)
