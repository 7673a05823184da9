/-! Ways (made by wip/gen/auto2.py) -/
def lb_Way_hasStages_2 (F : Nat) (rec_2 : Nat → Int32 → Int32 → aM → Option Int32) (a0 : Nat) (x1 : Int32) (x2 : Int32) (m : aM) : Option Int32 :=
  (if (m 29 5) ≤ x2 then
  some 1
  else
  (if 3 ≤ x2 then
  some 1
  else
  o_gd (inb x2 3) <|
  o_let ((m (a0 + 6) x2.toNatClampNeg)) fun y2 =>
  o_b (f_Pla_stageOf x1 x2 m) fun y3 =>
  o_let (((y2 : Int32) >>> (y3 &&& 31))) fun y4 =>
  (if (y4 &&& 1) = 0 then
  some 0
  else
  rec_2 a0 x1 (x2 + 1) m
  )
  )
  )
theorem tb_Way_hasStages_2 {K : aK} {d bc bs : Nat} {g : aG} (s : Sys g) {Q : aQ} {r : Int32} (F : Nat) (m : aM) (rec_2 : Nat → Int32 → Int32 → aM → Option Int32) (hr_2 : ∀ (a0 : Nat) (s0 : ShWay g a0) (x1 : Int32) (x2 : Int32), rec_2 a0 x1 x2 m = some r → G K M_Way_hasStages d bc bs 2 [.ref a0, .int x1, .int x2] [] (g, m) Q) (a0 : Nat) (s0 : ShWay g a0) (x1 : Int32) (x2 : Int32) (hq : Q (.inl (some (.int r))) (g, m)) (e : lb_Way_hasStages_2 F rec_2 a0 x1 x2 m = some r) (hd : 2 ≤ d) : G K M_Way_hasStages d bc bs 2 [.ref a0, .int x1, .int x2] [] (g, m) Q := by
  unfold lb_Way_hasStages_2 at e
  refine g_iload_n k_Way_hasStages_2 rfl rfl ?_
  refine g_aload_n k_Way_hasStages_3 rfl rfl ?_
  refine p_getr k_Way_hasStages_4 fl_Way_33 rfl (sk_Way s0) (by decide) (sp_Way_0 s0) ?_
  refine p_geti k_Way_hasStages_7 fl_Way_89 rfl (sk_Pla (sy_Pla s)) (by decide) ?_
  refine g_icmp_ge (tgt := 43) k_Way_hasStages_10 (by decide) (fun c => ?_) (fun c => ?_)
  · rw [if_pos c] at e
    refine g_iconst (v := 1) k_Way_hasStages_43 rfl ?_
    refine g_zret k_Way_hasStages_44 rfl (by decide) ?_
    exact (by cases e; exact hq)
  · rw [if_neg c] at e
    refine g_iload_n k_Way_hasStages_13 rfl rfl ?_
    refine g_iconst (v := 3) k_Way_hasStages_14 rfl ?_
    refine g_icmp_ge (tgt := 43) k_Way_hasStages_15 (by decide) (fun c => ?_) (fun c => ?_)
    · rw [if_pos c] at e
      refine g_iconst (v := 1) k_Way_hasStages_43 rfl ?_
      refine g_zret k_Way_hasStages_44 rfl (by decide) ?_
      exact (by cases e; exact hq)
    · rw [if_neg c] at e
      refine g_aload_n k_Way_hasStages_18 rfl rfl ?_
      refine p_getr k_Way_hasStages_19 fl_Way_30 rfl (sk_Way s0) (by decide) (sr_Way_6 s0) ?_
      refine g_iload_n k_Way_hasStages_22 rfl rfl ?_
      obtain ⟨q1, e⟩ := o_gd_ex e
      refine p_iald k_Way_hasStages_23 (sa_Way_6 s0) (inb_in q1) (j := x2.toNatClampNeg) rfl ?_
      obtain ⟨y2, u_y2, e⟩ := o_let_ex e
      refine G.vy u_y2 ?_
      refine g_iload_n k_Way_hasStages_24 rfl rfl ?_
      refine g_iload_n k_Way_hasStages_25 rfl rfl ?_
      obtain ⟨y3, e_y3, e⟩ := o_b_ex e
      refine g_cs k_Way_hasStages_26 ls_Way_92 (by decide +kernel) (s_Pla_stageOf (bc := 0) (bs := 0) s x1 x2 m e_y3 (by omega)) rfl rfl (Nat.le_of_ble_eq_true rfl) (by simp [Value.category]) (by omega) (by omega) (by omega) ?_
      refine g_ishr k_Way_hasStages_29 ?_
      obtain ⟨y4, u_y4, e⟩ := o_let_ex e
      refine G.vy u_y4 ?_
      refine g_iconst (v := 1) k_Way_hasStages_30 rfl ?_
      refine g_iand k_Way_hasStages_31 ?_
      refine g_if_ne (tgt := 37) k_Way_hasStages_32 (by decide) (fun c => ?_) (fun c => ?_)
      · rw [if_pos c] at e
        refine g_iconst (v := 0) k_Way_hasStages_35 rfl ?_
        refine g_zret k_Way_hasStages_36 rfl (by decide) ?_
        exact (by cases e; exact hq)
      · rw [if_neg c] at e
        refine g_iinc (v := _ + 1) k_Way_hasStages_37 rfl rfl (by decide) ?_
        refine g_goto (tgt := 2) k_Way_hasStages_40 (by decide) ?_
        exact (hr_2 a0 s0 x1 (x2 + 1)  e)
def ll_Way_hasStages_2 (F : Nat) : Nat → Nat → Int32 → Int32 → aM → Option Int32
  | 0, _, _, _, _ => none
  | N + 1, a0, x1, x2, m => lb_Way_hasStages_2 F (ll_Way_hasStages_2 F N) a0 x1 x2 m
theorem t_Way_hasStages_2 {K : aK} {d bc bs : Nat} {g : aG} (s : Sys g) {Q : aQ} {r : Int32} (F : Nat) (m : aM) : ∀ (N : Nat) (a0 : Nat) (s0 : ShWay g a0) (x1 : Int32) (x2 : Int32), Q (.inl (some (.int r))) (g, m) → ll_Way_hasStages_2 F N a0 x1 x2 m = some r → 2 ≤ d → G K M_Way_hasStages d bc bs 2 [.ref a0, .int x1, .int x2] [] (g, m) Q
  | 0, _, _, _, _ => fun _ e => nomatch e
  | N + 1, a0, s0, x1, x2 => fun hq e hd => tb_Way_hasStages_2 s F m (ll_Way_hasStages_2 F N) (fun a0 s0 x1 x2 e => t_Way_hasStages_2 s F m N a0 s0 x1 x2 hq e hd) a0 s0 x1 x2 hq e hd
def f_Way_hasStages (F : Nat) (a0 : Nat) (x1 : Int32) (m : aM) : Option Int32 :=
  ll_Way_hasStages_2 F F a0 x1 0 m
theorem s_Way_hasStages {K : aK} {d bc bs : Nat} {g : aG} (s : Sys g) (F : Nat) (a0 : Nat) (s0 : ShWay g a0) (x1 : Int32) (m : aM) {r : Int32} (e : f_Way_hasStages F a0 x1 m = some r) (hd : 2 ≤ d) : Sp K M_Way_hasStages d bc bs [.ref a0, .int x1] (g, m) (some (.int r)) (g, m) := by
  refine sp_of ok_Way_hasStages rfl (Nat.le_of_ble_eq_true rfl) (by simp [Value.category]) (fun Q hq => ?_)
  unfold f_Way_hasStages at e
  refine g_iconst (v := 0) k_Way_hasStages_0 rfl ?_
  refine g_istore_n k_Way_hasStages_1 rfl (by decide) ?_
  exact (t_Way_hasStages_2 s F m F a0 s0 x1 0  hq e hd)
def f_Way_isPlace (x0 : Int32) (m : aM) : Option Int32 :=
  (if x0 < 0 then
  some 0
  else
  (if 6912 ≤ x0 then
  some 0
  else
  some 1
  )
  )
theorem s_Way_isPlace {K : aK} {d bc bs : Nat} {g : aG} (s : Sys g) (x0 : Int32) (m : aM) {r : Int32} (e : f_Way_isPlace x0 m = some r) : Sp K M_Way_isPlace d bc bs [.int x0] (g, m) (some (.int r)) (g, m) := by
  refine sp_of ok_Way_isPlace rfl (Nat.le_of_ble_eq_true rfl) (by simp [Value.category]) (fun Q hq => ?_)
  unfold f_Way_isPlace at e
  refine g_iload_n k_Way_isPlace_0 rfl rfl ?_
  refine g_if_lt (tgt := 15) k_Way_isPlace_1 (by decide) (fun c => ?_) (fun c => ?_)
  · rw [if_pos c] at e
    refine g_iconst (v := 0) k_Way_isPlace_15 rfl ?_
    refine g_zret k_Way_isPlace_16 rfl (by decide) ?_
    exact (by cases e; exact hq)
  · rw [if_neg c] at e
    refine g_iload_n k_Way_isPlace_4 rfl rfl ?_
    refine g_sipush (v := 6912) k_Way_isPlace_5 rfl ?_
    refine g_icmp_ge (tgt := 15) k_Way_isPlace_8 (by decide) (fun c => ?_) (fun c => ?_)
    · rw [if_pos c] at e
      refine g_iconst (v := 0) k_Way_isPlace_15 rfl ?_
      refine g_zret k_Way_isPlace_16 rfl (by decide) ?_
      exact (by cases e; exact hq)
    · rw [if_neg c] at e
      refine g_iconst (v := 1) k_Way_isPlace_11 rfl ?_
      refine g_goto (tgt := 16) k_Way_isPlace_12 (by decide) ?_
      refine g_zret k_Way_isPlace_16 rfl (by decide) ?_
      exact (by cases e; exact hq)
def b_Way_learn_123 (a0 : Nat) (x1 : Int32) (x2 : Int32) (x5 : Int32) (m : aM) : Option (Int32 × aM) :=
  o_gd (inb x2 6912) <|
  o_let ((m (a0 + 4) x2.toNatClampNeg)) fun y2 =>
  (if y2 = 0 then
  o_gd (isb x5) <|
  some (x5, m)
  else
  o_gd (inb x1 6912) <|
  o_let ((m (a0 + 4) x1.toNatClampNeg)) fun y5 =>
  (if y5 = 0 then
  o_gd (inb x1 6912) <|
  o_let (a_st m (a0 + 4) x1.toNatClampNeg 1) fun m7 =>
  some (1, m7)
  else
  o_gd (isb x5) <|
  some (x5, m)
  )
  )
theorem t_Way_learn_123 {K : aK} {d bc bs : Nat} {g : aG} (s : Sys g) {Q : aQ} {r : Int32} {m' : aM} (a0 : Nat) (s0 : ShWay g a0) (x1 : Int32) (x2 : Int32) (x5 : Int32) (m : aM) (hq : Q (.inl (some (.int r))) (g, m')) (e : b_Way_learn_123 a0 x1 x2 x5 m = some (r, m')) (hd : 1 ≤ d) : G K M_Way_learn d bc bs 123 [.ref a0, .int x1, .int x2, .double 0, .double 0, .int x5] [] (g, m) Q := by
  unfold b_Way_learn_123 at e
  refine g_aload_n k_Way_learn_123 rfl rfl ?_
  refine p_getr k_Way_learn_124 fl_Way_24 rfl (sk_Way s0) (by decide) (sr_Way_4 s0) ?_
  refine g_iload_n k_Way_learn_127 rfl rfl ?_
  obtain ⟨q1, e⟩ := o_gd_ex e
  refine p_zald k_Way_learn_128 (sa_Way_4 s0) (inb_in q1) (j := x2.toNatClampNeg) rfl ?_
  obtain ⟨y2, u_y2, e⟩ := o_let_ex e
  refine G.vy u_y2 ?_
  refine g_if_eq (tgt := 151) k_Way_learn_129 (by decide) (fun c => ?_) (fun c => ?_)
  · rw [if_pos c] at e
    refine g_iload k_Way_learn_151 rfl ?_
    obtain ⟨q3, e⟩ := o_gd_ex e
    refine g_zret k_Way_learn_153 rfl (isb_or q3) ?_
    exact (by cases e; exact hq)
  · rw [if_neg c] at e
    refine g_aload_n k_Way_learn_132 rfl rfl ?_
    refine p_getr k_Way_learn_133 fl_Way_24 rfl (sk_Way s0) (by decide) (sr_Way_4 s0) ?_
    refine g_iload_n k_Way_learn_136 rfl rfl ?_
    obtain ⟨q4, e⟩ := o_gd_ex e
    refine p_zald k_Way_learn_137 (sa_Way_4 s0) (inb_in q4) (j := x1.toNatClampNeg) rfl ?_
    obtain ⟨y5, u_y5, e⟩ := o_let_ex e
    refine G.vy u_y5 ?_
    refine g_if_ne (tgt := 151) k_Way_learn_138 (by decide) (fun c => ?_) (fun c => ?_)
    · rw [if_pos c] at e
      refine g_aload_n k_Way_learn_141 rfl rfl ?_
      refine p_getr k_Way_learn_142 fl_Way_24 rfl (sk_Way s0) (by decide) (sr_Way_4 s0) ?_
      refine g_iload_n k_Way_learn_145 rfl rfl ?_
      refine g_iconst (v := 1) k_Way_learn_146 rfl ?_
      obtain ⟨q6, e⟩ := o_gd_ex e
      refine p_zast k_Way_learn_147 (sa_Way_4 s0) (inb_in q6) (j := x1.toNatClampNeg) rfl (by decide) ?_
      obtain ⟨m7, u_m7, e⟩ := o_let_ex e
      refine G.hm u_m7 ?_
      refine g_iconst (v := 1) k_Way_learn_148 rfl ?_
      refine g_istore k_Way_learn_149 (by decide) ?_
      refine g_iload k_Way_learn_151 rfl ?_
      refine g_zret k_Way_learn_153 rfl (by decide) ?_
      exact (by cases e; exact hq)
    · rw [if_neg c] at e
      refine g_iload k_Way_learn_151 rfl ?_
      obtain ⟨q8, e⟩ := o_gd_ex e
      refine g_zret k_Way_learn_153 rfl (isb_or q8) ?_
      exact (by cases e; exact hq)
def b_Way_learn_76 (a0 : Nat) (x1 : Int32) (x2 : Int32) (x4 : Int32) (x5 : Int32) (m : aM) : Option (Int32 × aM) :=
  o_gd (inb x2 6912) <|
  o_let ((m (a0 + 3) x2.toNatClampNeg)) fun y2 =>
  (if y2 = 2147483647 then
  b_Way_learn_123 a0 x1 x2 x5 m
  else
  o_gd (inb x2 6912) <|
  o_let ((m (a0 + 3) x2.toNatClampNeg)) fun y4 =>
  o_gd (inb x1 6912) <|
  o_let ((m (a0 + 3) x1.toNatClampNeg)) fun y6 =>
  (if y6 ≤ (y4 + x4) then
  b_Way_learn_123 a0 x1 x2 x5 m
  else
  o_gd (inb x2 6912) <|
  o_let ((m (a0 + 3) x2.toNatClampNeg)) fun y8 =>
  o_gd (inb x1 6912) <|
  o_let (a_st m (a0 + 3) x1.toNatClampNeg (y8 + x4)) fun m10 =>
  b_Way_learn_123 a0 x1 x2 1 m10
  )
  )
theorem t_Way_learn_76 {K : aK} {d bc bs : Nat} {g : aG} (s : Sys g) {Q : aQ} {r : Int32} {m' : aM} (a0 : Nat) (s0 : ShWay g a0) (x1 : Int32) (x2 : Int32) (x4 : Int32) (x5 : Int32) (m : aM) (hq : Q (.inl (some (.int r))) (g, m')) (e : b_Way_learn_76 a0 x1 x2 x4 x5 m = some (r, m')) (hd : 1 ≤ d) : G K M_Way_learn d bc bs 76 [.ref a0, .int x1, .int x2, .double 0, .int x4, .int x5] [] (g, m) Q := by
  unfold b_Way_learn_76 at e
  refine g_aload_n k_Way_learn_76 rfl rfl ?_
  refine p_getr k_Way_learn_77 fl_Way_21 rfl (sk_Way s0) (by decide) (sr_Way_3 s0) ?_
  refine g_iload_n k_Way_learn_80 rfl rfl ?_
  obtain ⟨q1, e⟩ := o_gd_ex e
  refine p_iald k_Way_learn_81 (sa_Way_3 s0) (inb_in q1) (j := x2.toNatClampNeg) rfl ?_
  obtain ⟨y2, u_y2, e⟩ := o_let_ex e
  refine G.vy u_y2 ?_
  refine g_ldc k_Way_learn_82 kc_Way_77 ?_
  refine g_icmp_eq (tgt := 123) k_Way_learn_84 (by decide) (fun c => ?_) (fun c => ?_)
  · rw [if_pos c] at e
    exact G.wl (wls (wls (wls (wls (wld (wls wl0)))))) (t_Way_learn_123 s a0 s0 x1 x2 x5 m hq e hd)
  · rw [if_neg c] at e
    refine g_aload_n k_Way_learn_87 rfl rfl ?_
    refine p_getr k_Way_learn_88 fl_Way_21 rfl (sk_Way s0) (by decide) (sr_Way_3 s0) ?_
    refine g_iload_n k_Way_learn_91 rfl rfl ?_
    obtain ⟨q3, e⟩ := o_gd_ex e
    refine p_iald k_Way_learn_92 (sa_Way_3 s0) (inb_in q3) (j := x2.toNatClampNeg) rfl ?_
    obtain ⟨y4, u_y4, e⟩ := o_let_ex e
    refine G.vy u_y4 ?_
    refine g_iload k_Way_learn_93 rfl ?_
    refine g_iadd k_Way_learn_95 ?_
    refine g_aload_n k_Way_learn_96 rfl rfl ?_
    refine p_getr k_Way_learn_97 fl_Way_21 rfl (sk_Way s0) (by decide) (sr_Way_3 s0) ?_
    refine g_iload_n k_Way_learn_100 rfl rfl ?_
    obtain ⟨q5, e⟩ := o_gd_ex e
    refine p_iald k_Way_learn_101 (sa_Way_3 s0) (inb_in q5) (j := x1.toNatClampNeg) rfl ?_
    obtain ⟨y6, u_y6, e⟩ := o_let_ex e
    refine G.vy u_y6 ?_
    refine g_icmp_ge (tgt := 123) k_Way_learn_102 (by decide) (fun c => ?_) (fun c => ?_)
    · rw [if_pos c] at e
      exact G.wl (wls (wls (wls (wls (wld (wls wl0)))))) (t_Way_learn_123 s a0 s0 x1 x2 x5 m hq e hd)
    · rw [if_neg c] at e
      refine g_aload_n k_Way_learn_105 rfl rfl ?_
      refine p_getr k_Way_learn_106 fl_Way_21 rfl (sk_Way s0) (by decide) (sr_Way_3 s0) ?_
      refine g_iload_n k_Way_learn_109 rfl rfl ?_
      refine g_aload_n k_Way_learn_110 rfl rfl ?_
      refine p_getr k_Way_learn_111 fl_Way_21 rfl (sk_Way s0) (by decide) (sr_Way_3 s0) ?_
      refine g_iload_n k_Way_learn_114 rfl rfl ?_
      obtain ⟨q7, e⟩ := o_gd_ex e
      refine p_iald k_Way_learn_115 (sa_Way_3 s0) (inb_in q7) (j := x2.toNatClampNeg) rfl ?_
      obtain ⟨y8, u_y8, e⟩ := o_let_ex e
      refine G.vy u_y8 ?_
      refine g_iload k_Way_learn_116 rfl ?_
      refine g_iadd k_Way_learn_118 ?_
      obtain ⟨q9, e⟩ := o_gd_ex e
      refine p_iast k_Way_learn_119 (sa_Way_3 s0) (inb_in q9) (j := x1.toNatClampNeg) rfl ?_
      obtain ⟨m10, u_m10, e⟩ := o_let_ex e
      refine G.hm u_m10 ?_
      refine g_iconst (v := 1) k_Way_learn_120 rfl ?_
      refine g_istore k_Way_learn_121 (by decide) ?_
      exact G.wl (wls (wls (wls (wls (wld (wls wl0)))))) (t_Way_learn_123 s a0 s0 x1 x2 1 m10 hq e hd)
def f_Way_learn (a0 : Nat) (x1 : Int32) (x2 : Int32) (x3 : Int32) (x4 : Int32) (m : aM) : Option (Int32 × aM) :=
  o_b (f_Way_isPlace x1 m) fun y1 =>
  (if y1 = 0 then
  some (0, m)
  else
  o_b (f_Way_isPlace x2 m) fun y2 =>
  (if y2 = 0 then
  some (0, m)
  else
  o_gd (inb x2 6912) <|
  o_let ((m (a0 + 2) x2.toNatClampNeg)) fun y4 =>
  (if y4 = 2147483647 then
  b_Way_learn_76 a0 x1 x2 x4 0 m
  else
  o_gd (inb x2 6912) <|
  o_let ((m (a0 + 2) x2.toNatClampNeg)) fun y6 =>
  o_gd (inb x1 6912) <|
  o_let ((m (a0 + 2) x1.toNatClampNeg)) fun y8 =>
  (if y8 ≤ ((y6 + (x3 * 2048)) + 1) then
  b_Way_learn_76 a0 x1 x2 x4 0 m
  else
  o_gd (inb x2 6912) <|
  o_let ((m (a0 + 2) x2.toNatClampNeg)) fun y10 =>
  o_gd (inb x1 6912) <|
  o_let (a_st m (a0 + 2) x1.toNatClampNeg ((y10 + (x3 * 2048)) + 1)) fun m12 =>
  b_Way_learn_76 a0 x1 x2 x4 1 m12
  )
  )
  )
  )
theorem s_Way_learn {K : aK} {d bc bs : Nat} {g : aG} (s : Sys g) (a0 : Nat) (s0 : ShWay g a0) (x1 : Int32) (x2 : Int32) (x3 : Int32) (x4 : Int32) (m : aM) {r : Int32} {m' : aM} (e : f_Way_learn a0 x1 x2 x3 x4 m = some (r, m')) (hd : 1 ≤ d) : Sp K M_Way_learn d bc bs [.ref a0, .int x1, .int x2, .int x3, .int x4] (g, m) (some (.int r)) (g, m') := by
  refine sp_of ok_Way_learn rfl (Nat.le_of_ble_eq_true rfl) (by simp [Value.category]) (fun Q hq => ?_)
  unfold f_Way_learn at e
  refine g_iload_n k_Way_learn_0 rfl rfl ?_
  obtain ⟨y1, e_y1, e⟩ := o_b_ex e
  refine g_cs k_Way_learn_1 ls_Way_102 (by decide +kernel) (s_Way_isPlace (bc := 0) (bs := 0) s x1 m e_y1) rfl rfl (Nat.le_of_ble_eq_true rfl) (by simp [Value.category]) (by omega) (by omega) (by omega) ?_
  refine g_if_eq (tgt := 14) k_Way_learn_4 (by decide) (fun c => ?_) (fun c => ?_)
  · rw [if_pos c] at e
    refine g_iconst (v := 0) k_Way_learn_14 rfl ?_
    refine g_zret k_Way_learn_15 rfl (by decide) ?_
    exact (by cases e; exact hq)
  · rw [if_neg c] at e
    refine g_iload_n k_Way_learn_7 rfl rfl ?_
    obtain ⟨y2, e_y2, e⟩ := o_b_ex e
    refine g_cs k_Way_learn_8 ls_Way_102 (by decide +kernel) (s_Way_isPlace (bc := 0) (bs := 0) s x2 m e_y2) rfl rfl (Nat.le_of_ble_eq_true rfl) (by simp [Value.category]) (by omega) (by omega) (by omega) ?_
    refine g_if_ne (tgt := 16) k_Way_learn_11 (by decide) (fun c => ?_) (fun c => ?_)
    · rw [if_pos c] at e
      refine g_iconst (v := 0) k_Way_learn_14 rfl ?_
      refine g_zret k_Way_learn_15 rfl (by decide) ?_
      exact (by cases e; exact hq)
    · rw [if_neg c] at e
      refine g_iconst (v := 0) k_Way_learn_16 rfl ?_
      refine g_istore k_Way_learn_17 (by decide) ?_
      refine g_aload_n k_Way_learn_19 rfl rfl ?_
      refine p_getr k_Way_learn_20 fl_Way_17 rfl (sk_Way s0) (by decide) (sr_Way_2 s0) ?_
      refine g_iload_n k_Way_learn_23 rfl rfl ?_
      obtain ⟨q3, e⟩ := o_gd_ex e
      refine p_iald k_Way_learn_24 (sa_Way_2 s0) (inb_in q3) (j := x2.toNatClampNeg) rfl ?_
      obtain ⟨y4, u_y4, e⟩ := o_let_ex e
      refine G.vy u_y4 ?_
      refine g_ldc k_Way_learn_25 kc_Way_77 ?_
      refine g_icmp_eq (tgt := 76) k_Way_learn_27 (by decide) (fun c => ?_) (fun c => ?_)
      · rw [if_pos c] at e
        exact G.wl (wls (wls (wls (wld (wls (wls wl0)))))) (t_Way_learn_76 s a0 s0 x1 x2 x4 0 m hq e hd)
      · rw [if_neg c] at e
        refine g_aload_n k_Way_learn_30 rfl rfl ?_
        refine p_getr k_Way_learn_31 fl_Way_17 rfl (sk_Way s0) (by decide) (sr_Way_2 s0) ?_
        refine g_iload_n k_Way_learn_34 rfl rfl ?_
        obtain ⟨q5, e⟩ := o_gd_ex e
        refine p_iald k_Way_learn_35 (sa_Way_2 s0) (inb_in q5) (j := x2.toNatClampNeg) rfl ?_
        obtain ⟨y6, u_y6, e⟩ := o_let_ex e
        refine G.vy u_y6 ?_
        refine g_iload_n k_Way_learn_36 rfl rfl ?_
        refine g_sipush (v := 2048) k_Way_learn_37 rfl ?_
        refine g_imul k_Way_learn_40 ?_
        refine g_iadd k_Way_learn_41 ?_
        refine g_iconst (v := 1) k_Way_learn_42 rfl ?_
        refine g_iadd k_Way_learn_43 ?_
        refine g_aload_n k_Way_learn_44 rfl rfl ?_
        refine p_getr k_Way_learn_45 fl_Way_17 rfl (sk_Way s0) (by decide) (sr_Way_2 s0) ?_
        refine g_iload_n k_Way_learn_48 rfl rfl ?_
        obtain ⟨q7, e⟩ := o_gd_ex e
        refine p_iald k_Way_learn_49 (sa_Way_2 s0) (inb_in q7) (j := x1.toNatClampNeg) rfl ?_
        obtain ⟨y8, u_y8, e⟩ := o_let_ex e
        refine G.vy u_y8 ?_
        refine g_icmp_ge (tgt := 76) k_Way_learn_50 (by decide) (fun c => ?_) (fun c => ?_)
        · rw [if_pos c] at e
          exact G.wl (wls (wls (wls (wld (wls (wls wl0)))))) (t_Way_learn_76 s a0 s0 x1 x2 x4 0 m hq e hd)
        · rw [if_neg c] at e
          refine g_aload_n k_Way_learn_53 rfl rfl ?_
          refine p_getr k_Way_learn_54 fl_Way_17 rfl (sk_Way s0) (by decide) (sr_Way_2 s0) ?_
          refine g_iload_n k_Way_learn_57 rfl rfl ?_
          refine g_aload_n k_Way_learn_58 rfl rfl ?_
          refine p_getr k_Way_learn_59 fl_Way_17 rfl (sk_Way s0) (by decide) (sr_Way_2 s0) ?_
          refine g_iload_n k_Way_learn_62 rfl rfl ?_
          obtain ⟨q9, e⟩ := o_gd_ex e
          refine p_iald k_Way_learn_63 (sa_Way_2 s0) (inb_in q9) (j := x2.toNatClampNeg) rfl ?_
          obtain ⟨y10, u_y10, e⟩ := o_let_ex e
          refine G.vy u_y10 ?_
          refine g_iload_n k_Way_learn_64 rfl rfl ?_
          refine g_sipush (v := 2048) k_Way_learn_65 rfl ?_
          refine g_imul k_Way_learn_68 ?_
          refine g_iadd k_Way_learn_69 ?_
          refine g_iconst (v := 1) k_Way_learn_70 rfl ?_
          refine g_iadd k_Way_learn_71 ?_
          obtain ⟨q11, e⟩ := o_gd_ex e
          refine p_iast k_Way_learn_72 (sa_Way_2 s0) (inb_in q11) (j := x1.toNatClampNeg) rfl ?_
          obtain ⟨m12, u_m12, e⟩ := o_let_ex e
          refine G.hm u_m12 ?_
          refine g_iconst (v := 1) k_Way_learn_73 rfl ?_
          refine g_istore k_Way_learn_74 (by decide) ?_
          exact G.wl (wls (wls (wls (wld (wls (wls wl0)))))) (t_Way_learn_76 s a0 s0 x1 x2 x4 1 m12 hq e hd)
def b_Way_beginSet_220 (F : Nat) (rec_30 : Nat → Int32 → Int32 → aM → Option (Int32 × aM)) (a0 : Nat) (x1 : Int32) (x2 : Int32) (m : aM) : Option (Int32 × aM) :=
  rec_30 a0 x1 (x2 + 1) m
theorem t_Way_beginSet_220 {K : aK} {d bc bs : Nat} {g : aG} (s : Sys g) {Q : aQ} {r : Int32} {m' : aM} (F : Nat) (rec_30 : Nat → Int32 → Int32 → aM → Option (Int32 × aM)) (hr_30 : ∀ (a0 : Nat) (s0 : ShWay g a0) (x1 : Int32) (x2 : Int32) (m : aM), rec_30 a0 x1 x2 m = some (r, m') → G K M_Way_beginSet d bc bs 30 [.ref a0, .int x1, .int x2, .double 0, .double 0, .double 0, .double 0, .double 0] [] (g, m) Q) (a0 : Nat) (s0 : ShWay g a0) (x1 : Int32) (x2 : Int32) (m : aM) (hq : Q (.inl none) (g, m')) (e : b_Way_beginSet_220 F rec_30 a0 x1 x2 m = some (r, m')) (hd : 3 ≤ d) : G K M_Way_beginSet d bc bs 220 [.ref a0, .int x1, .int x2, .double 0, .double 0, .double 0, .double 0, .double 0] [] (g, m) Q := by
  unfold b_Way_beginSet_220 at e
  refine g_iinc (v := _ + 1) k_Way_beginSet_220 rfl rfl (by decide) ?_
  refine g_goto (tgt := 30) k_Way_beginSet_223 (by decide) ?_
  exact (hr_30 a0 s0 x1 (x2 + 1) m e)
def b_Way_beginSet_214 (F : Nat) (rec_30 : Nat → Int32 → Int32 → aM → Option (Int32 × aM)) (rec_158 : Nat → Int32 → Int32 → Int32 → Int32 → Int32 → aM → Option (Int32 × aM)) (a0 : Nat) (x1 : Int32) (x2 : Int32) (x3 : Int32) (x4 : Int32) (x6 : Int32) (m : aM) : Option (Int32 × aM) :=
  rec_158 a0 x1 x2 x3 x4 (x6 + 1) m
theorem t_Way_beginSet_214 {K : aK} {d bc bs : Nat} {g : aG} (s : Sys g) {Q : aQ} {r : Int32} {m' : aM} (F : Nat) (rec_30 : Nat → Int32 → Int32 → aM → Option (Int32 × aM)) (hr_30 : ∀ (a0 : Nat) (s0 : ShWay g a0) (x1 : Int32) (x2 : Int32) (m : aM), rec_30 a0 x1 x2 m = some (r, m') → G K M_Way_beginSet d bc bs 30 [.ref a0, .int x1, .int x2, .double 0, .double 0, .double 0, .double 0, .double 0] [] (g, m) Q) (rec_158 : Nat → Int32 → Int32 → Int32 → Int32 → Int32 → aM → Option (Int32 × aM)) (hr_158 : ∀ (a0 : Nat) (s0 : ShWay g a0) (x1 : Int32) (x2 : Int32) (x3 : Int32) (x4 : Int32) (x6 : Int32) (m : aM), rec_158 a0 x1 x2 x3 x4 x6 m = some (r, m') → G K M_Way_beginSet d bc bs 158 [.ref a0, .int x1, .int x2, .int x3, .int x4, .double 0, .int x6, .double 0] [] (g, m) Q) (a0 : Nat) (s0 : ShWay g a0) (x1 : Int32) (x2 : Int32) (x3 : Int32) (x4 : Int32) (x6 : Int32) (m : aM) (hq : Q (.inl none) (g, m')) (e : b_Way_beginSet_214 F rec_30 rec_158 a0 x1 x2 x3 x4 x6 m = some (r, m')) (hd : 3 ≤ d) : G K M_Way_beginSet d bc bs 214 [.ref a0, .int x1, .int x2, .int x3, .int x4, .double 0, .int x6, .double 0] [] (g, m) Q := by
  unfold b_Way_beginSet_214 at e
  refine g_iinc (v := _ + 1) k_Way_beginSet_214 rfl rfl (by decide) ?_
  refine g_goto (tgt := 158) k_Way_beginSet_217 (by decide) ?_
  exact (hr_158 a0 s0 x1 x2 x3 x4 (x6 + 1) m e)
def lb_Way_beginSet_158 (F : Nat) (rec_30 : Nat → Int32 → Int32 → aM → Option (Int32 × aM)) (rec_158 : Nat → Int32 → Int32 → Int32 → Int32 → Int32 → aM → Option (Int32 × aM)) (a0 : Nat) (x1 : Int32) (x2 : Int32) (x3 : Int32) (x4 : Int32) (x6 : Int32) (m : aM) : Option (Int32 × aM) :=
  (if x4 = 0 then
  b_Way_beginSet_220 F rec_30 a0 x1 x2 m
  else
  (if (m 29 6) ≤ x6 then
  b_Way_beginSet_220 F rec_30 a0 x1 x2 m
  else
  o_let (((1 : Int32) <<< (x6 &&& 31))) fun y1 =>
  (if (x1 ||| y1) = x1 then
  b_Way_beginSet_214 F rec_30 rec_158 a0 x1 x2 x3 x4 x6 m
  else
  o_let ((((x1 ||| y1) * (m a0 7)) + x2)) fun y2 =>
  o_b (f_Pla_priceOf x6 m) fun y3 =>
  o_b2 (f_Way_learn a0 x3 y2 y3 1 m) fun y4 m5 =>
  b_Way_beginSet_214 F rec_30 rec_158 a0 x1 x2 x3 x4 x6 m5
  )
  )
  )
theorem tb_Way_beginSet_158 {K : aK} {d bc bs : Nat} {g : aG} (s : Sys g) {Q : aQ} {r : Int32} {m' : aM} (F : Nat) (rec_30 : Nat → Int32 → Int32 → aM → Option (Int32 × aM)) (hr_30 : ∀ (a0 : Nat) (s0 : ShWay g a0) (x1 : Int32) (x2 : Int32) (m : aM), rec_30 a0 x1 x2 m = some (r, m') → G K M_Way_beginSet d bc bs 30 [.ref a0, .int x1, .int x2, .double 0, .double 0, .double 0, .double 0, .double 0] [] (g, m) Q) (rec_158 : Nat → Int32 → Int32 → Int32 → Int32 → Int32 → aM → Option (Int32 × aM)) (hr_158 : ∀ (a0 : Nat) (s0 : ShWay g a0) (x1 : Int32) (x2 : Int32) (x3 : Int32) (x4 : Int32) (x6 : Int32) (m : aM), rec_158 a0 x1 x2 x3 x4 x6 m = some (r, m') → G K M_Way_beginSet d bc bs 158 [.ref a0, .int x1, .int x2, .int x3, .int x4, .double 0, .int x6, .double 0] [] (g, m) Q) (a0 : Nat) (s0 : ShWay g a0) (x1 : Int32) (x2 : Int32) (x3 : Int32) (x4 : Int32) (x6 : Int32) (m : aM) (hq : Q (.inl none) (g, m')) (e : lb_Way_beginSet_158 F rec_30 rec_158 a0 x1 x2 x3 x4 x6 m = some (r, m')) (hd : 3 ≤ d) : G K M_Way_beginSet d bc bs 158 [.ref a0, .int x1, .int x2, .int x3, .int x4, .double 0, .int x6, .double 0] [] (g, m) Q := by
  unfold lb_Way_beginSet_158 at e
  refine g_iload k_Way_beginSet_158 rfl ?_
  refine g_if_eq (tgt := 220) k_Way_beginSet_160 (by decide) (fun c => ?_) (fun c => ?_)
  · rw [if_pos c] at e
    exact G.wl (wls (wls (wls (wld (wld (wls (wld (wls wl0)))))))) (t_Way_beginSet_220 s F rec_30 hr_30 a0 s0 x1 x2 m hq e hd)
  · rw [if_neg c] at e
    refine g_iload k_Way_beginSet_163 rfl ?_
    refine g_aload_n k_Way_beginSet_165 rfl rfl ?_
    refine p_getr k_Way_beginSet_166 fl_Way_33 rfl (sk_Way s0) (by decide) (sp_Way_0 s0) ?_
    refine p_geti k_Way_beginSet_169 fl_Way_78 rfl (sk_Pla (sy_Pla s)) (by decide) ?_
    refine g_icmp_ge (tgt := 220) k_Way_beginSet_172 (by decide) (fun c => ?_) (fun c => ?_)
    · rw [if_pos c] at e
      exact G.wl (wls (wls (wls (wld (wld (wls (wld (wls wl0)))))))) (t_Way_beginSet_220 s F rec_30 hr_30 a0 s0 x1 x2 m hq e hd)
    · rw [if_neg c] at e
      refine g_iload_n k_Way_beginSet_175 rfl rfl ?_
      refine g_iconst (v := 1) k_Way_beginSet_176 rfl ?_
      refine g_iload k_Way_beginSet_177 rfl ?_
      refine g_ishl k_Way_beginSet_179 ?_
      obtain ⟨y1, u_y1, e⟩ := o_let_ex e
      refine G.vy u_y1 ?_
      refine g_ior k_Way_beginSet_180 ?_
      refine g_istore k_Way_beginSet_181 (by decide) ?_
      refine g_iload k_Way_beginSet_183 rfl ?_
      refine g_iload_n k_Way_beginSet_185 rfl rfl ?_
      refine g_icmp_eq (tgt := 214) k_Way_beginSet_186 (by decide) (fun c => ?_) (fun c => ?_)
      · rw [if_pos c] at e
        exact G.wl (wls (wls (wls (wls (wls (wls (wls (wld wl0)))))))) (t_Way_beginSet_214 s F rec_30 hr_30 rec_158 hr_158 a0 s0 x1 x2 x3 x4 x6 m hq e hd)
      · rw [if_neg c] at e
        refine g_aload_n k_Way_beginSet_189 rfl rfl ?_
        refine g_iload_n k_Way_beginSet_190 rfl rfl ?_
        refine g_iload k_Way_beginSet_191 rfl ?_
        refine g_aload_n k_Way_beginSet_193 rfl rfl ?_
        refine p_geti k_Way_beginSet_194 fl_Way_37 rfl (sk_Way s0) (by decide) ?_
        refine g_imul k_Way_beginSet_197 ?_
        refine g_iload_n k_Way_beginSet_198 rfl rfl ?_
        refine g_iadd k_Way_beginSet_199 ?_
        obtain ⟨y2, u_y2, e⟩ := o_let_ex e
        refine G.vy u_y2 ?_
        refine g_aload_n k_Way_beginSet_200 rfl rfl ?_
        refine p_getr k_Way_beginSet_201 fl_Way_33 rfl (sk_Way s0) (by decide) (sp_Way_0 s0) ?_
        refine g_iload k_Way_beginSet_204 rfl ?_
        obtain ⟨y3, e_y3, e⟩ := o_b_ex e
        refine g_cv k_Way_beginSet_206 lv_Way_81 (by decide +kernel) (T := F_Pla) (N := 8) (ci := 4) rfl (sk_Pla (sy_Pla s)) (s_Pla_priceOf (bc := 0) (bs := 0) s x6 m e_y3) rfl rfl (Nat.le_of_ble_eq_true rfl) (by simp [Value.category]) (by omega) (by omega) (by omega) ?_
        refine g_iconst (v := 1) k_Way_beginSet_209 rfl ?_
        obtain ⟨y4, m5, e_y4, e⟩ := o_b2_ex e
        refine g_cv k_Way_beginSet_210 lv_Way_85 (by decide +kernel) (T := F_Way) (N := 9) (ci := 8) rfl (sk_Way s0) (s_Way_learn (bc := 0) (bs := 0) s a0 s0 x3 y2 y3 1 m e_y4 (by omega)) rfl rfl (Nat.le_of_ble_eq_true rfl) (by simp [Value.category]) (by omega) (by omega) (by omega) ?_
        refine g_pop k_Way_beginSet_213 rfl ?_
        exact G.wl (wls (wls (wls (wls (wls (wls (wls (wld wl0)))))))) (t_Way_beginSet_214 s F rec_30 hr_30 rec_158 hr_158 a0 s0 x1 x2 x3 x4 x6 m5 hq e hd)
def ll_Way_beginSet_158 (F : Nat) (rec_30 : Nat → Int32 → Int32 → aM → Option (Int32 × aM)) : Nat → Nat → Int32 → Int32 → Int32 → Int32 → Int32 → aM → Option (Int32 × aM)
  | 0, _, _, _, _, _, _, _ => none
  | N + 1, a0, x1, x2, x3, x4, x6, m => lb_Way_beginSet_158 F rec_30 (ll_Way_beginSet_158 F rec_30 N) a0 x1 x2 x3 x4 x6 m
theorem t_Way_beginSet_158 {K : aK} {d bc bs : Nat} {g : aG} (s : Sys g) {Q : aQ} {r : Int32} {m' : aM} (F : Nat) (rec_30 : Nat → Int32 → Int32 → aM → Option (Int32 × aM)) (hr_30 : ∀ (a0 : Nat) (s0 : ShWay g a0) (x1 : Int32) (x2 : Int32) (m : aM), rec_30 a0 x1 x2 m = some (r, m') → G K M_Way_beginSet d bc bs 30 [.ref a0, .int x1, .int x2, .double 0, .double 0, .double 0, .double 0, .double 0] [] (g, m) Q) : ∀ (N : Nat) (a0 : Nat) (s0 : ShWay g a0) (x1 : Int32) (x2 : Int32) (x3 : Int32) (x4 : Int32) (x6 : Int32) (m : aM), Q (.inl none) (g, m') → ll_Way_beginSet_158 F rec_30 N a0 x1 x2 x3 x4 x6 m = some (r, m') → 3 ≤ d → G K M_Way_beginSet d bc bs 158 [.ref a0, .int x1, .int x2, .int x3, .int x4, .double 0, .int x6, .double 0] [] (g, m) Q
  | 0, _, _, _, _, _, _, _, _ => fun _ e => nomatch e
  | N + 1, a0, s0, x1, x2, x3, x4, x6, m => fun hq e hd => tb_Way_beginSet_158 s F rec_30 hr_30 (ll_Way_beginSet_158 F rec_30 N) (fun a0 s0 x1 x2 x3 x4 x6 m e => t_Way_beginSet_158 s F rec_30 hr_30 N a0 s0 x1 x2 x3 x4 x6 m hq e hd) a0 s0 x1 x2 x3 x4 x6 m hq e hd
def b_Way_beginSet_154 (F : Nat) (rec_30 : Nat → Int32 → Int32 → aM → Option (Int32 × aM)) (a0 : Nat) (x1 : Int32) (x2 : Int32) (x3 : Int32) (x4 : Int32) (xt0 : Int32) (xt1 : Int32) (at2 : Nat) (m : aM) : Option (Int32 × aM) :=
  o_gd (inb xt1 6912) <|
  o_gd (isb xt0) <|
  o_let (a_st m at2 xt1.toNatClampNeg xt0) fun m3 =>
  ll_Way_beginSet_158 F rec_30 F a0 x1 x2 x3 x4 0 m3
theorem t_Way_beginSet_154 {K : aK} {d bc bs : Nat} {g : aG} (s : Sys g) {Q : aQ} {r : Int32} {m' : aM} (F : Nat) (rec_30 : Nat → Int32 → Int32 → aM → Option (Int32 × aM)) (hr_30 : ∀ (a0 : Nat) (s0 : ShWay g a0) (x1 : Int32) (x2 : Int32) (m : aM), rec_30 a0 x1 x2 m = some (r, m') → G K M_Way_beginSet d bc bs 30 [.ref a0, .int x1, .int x2, .double 0, .double 0, .double 0, .double 0, .double 0] [] (g, m) Q) (a0 : Nat) (s0 : ShWay g a0) (x1 : Int32) (x2 : Int32) (x3 : Int32) (x4 : Int32) (xt0 : Int32) (xt1 : Int32) (at2 : Nat) (ht2 : g.2.1 at2 = (1, 6912)) (m : aM) (hq : Q (.inl none) (g, m')) (e : b_Way_beginSet_154 F rec_30 a0 x1 x2 x3 x4 xt0 xt1 at2 m = some (r, m')) (hd : 3 ≤ d) : G K M_Way_beginSet d bc bs 154 [.ref a0, .int x1, .int x2, .int x3, .int x4, .double 0, .double 0, .double 0] [.int xt0, .int xt1, .ref at2] (g, m) Q := by
  unfold b_Way_beginSet_154 at e
  obtain ⟨q1, e⟩ := o_gd_ex e
  obtain ⟨q2, e⟩ := o_gd_ex e
  refine p_zast k_Way_beginSet_154 ht2 (inb_in q1) (j := xt1.toNatClampNeg) rfl (isb_or q2) ?_
  obtain ⟨m3, u_m3, e⟩ := o_let_ex e
  refine G.hm u_m3 ?_
  refine g_iconst (v := 0) k_Way_beginSet_155 rfl ?_
  refine g_istore k_Way_beginSet_156 (by decide) ?_
  exact (t_Way_beginSet_158 s F rec_30 hr_30 F a0 s0 x1 x2 x3 x4 0 m3 hq e hd)
def b_Way_beginSet_153 (F : Nat) (rec_30 : Nat → Int32 → Int32 → aM → Option (Int32 × aM)) (a0 : Nat) (x1 : Int32) (x2 : Int32) (x3 : Int32) (x4 : Int32) (xt0 : Int32) (at1 : Nat) (m : aM) : Option (Int32 × aM) :=
  b_Way_beginSet_154 F rec_30 a0 x1 x2 x3 x4 0 xt0 at1 m
theorem t_Way_beginSet_153 {K : aK} {d bc bs : Nat} {g : aG} (s : Sys g) {Q : aQ} {r : Int32} {m' : aM} (F : Nat) (rec_30 : Nat → Int32 → Int32 → aM → Option (Int32 × aM)) (hr_30 : ∀ (a0 : Nat) (s0 : ShWay g a0) (x1 : Int32) (x2 : Int32) (m : aM), rec_30 a0 x1 x2 m = some (r, m') → G K M_Way_beginSet d bc bs 30 [.ref a0, .int x1, .int x2, .double 0, .double 0, .double 0, .double 0, .double 0] [] (g, m) Q) (a0 : Nat) (s0 : ShWay g a0) (x1 : Int32) (x2 : Int32) (x3 : Int32) (x4 : Int32) (xt0 : Int32) (at1 : Nat) (ht1 : g.2.1 at1 = (1, 6912)) (m : aM) (hq : Q (.inl none) (g, m')) (e : b_Way_beginSet_153 F rec_30 a0 x1 x2 x3 x4 xt0 at1 m = some (r, m')) (hd : 3 ≤ d) : G K M_Way_beginSet d bc bs 153 [.ref a0, .int x1, .int x2, .int x3, .int x4, .double 0, .double 0, .double 0] [.int xt0, .ref at1] (g, m) Q := by
  unfold b_Way_beginSet_153 at e
  refine g_iconst (v := 0) k_Way_beginSet_153 rfl ?_
  exact (t_Way_beginSet_154 s F rec_30 hr_30 a0 s0 x1 x2 x3 x4 0 xt0 at1 ht1 m hq e hd)
def b_Way_beginSet_134 (F : Nat) (rec_30 : Nat → Int32 → Int32 → aM → Option (Int32 × aM)) (a0 : Nat) (x1 : Int32) (x2 : Int32) (x3 : Int32) (x4 : Int32) (xt0 : Int32) (xt1 : Int32) (at2 : Nat) (m : aM) : Option (Int32 × aM) :=
  o_gd (inb xt1 6912) <|
  o_let (a_st m at2 xt1.toNatClampNeg xt0) fun m2 =>
  (if x4 = 0 then
  b_Way_beginSet_153 F rec_30 a0 x1 x2 x3 x4 x3 (a0 + 4) m2
  else
  (if x2 = 0 then
  b_Way_beginSet_154 F rec_30 a0 x1 x2 x3 x4 1 x3 (a0 + 4) m2
  else
  b_Way_beginSet_153 F rec_30 a0 x1 x2 x3 x4 x3 (a0 + 4) m2
  )
  )
theorem t_Way_beginSet_134 {K : aK} {d bc bs : Nat} {g : aG} (s : Sys g) {Q : aQ} {r : Int32} {m' : aM} (F : Nat) (rec_30 : Nat → Int32 → Int32 → aM → Option (Int32 × aM)) (hr_30 : ∀ (a0 : Nat) (s0 : ShWay g a0) (x1 : Int32) (x2 : Int32) (m : aM), rec_30 a0 x1 x2 m = some (r, m') → G K M_Way_beginSet d bc bs 30 [.ref a0, .int x1, .int x2, .double 0, .double 0, .double 0, .double 0, .double 0] [] (g, m) Q) (a0 : Nat) (s0 : ShWay g a0) (x1 : Int32) (x2 : Int32) (x3 : Int32) (x4 : Int32) (xt0 : Int32) (xt1 : Int32) (at2 : Nat) (ht2 : g.2.1 at2 = (0, 6912)) (m : aM) (hq : Q (.inl none) (g, m')) (e : b_Way_beginSet_134 F rec_30 a0 x1 x2 x3 x4 xt0 xt1 at2 m = some (r, m')) (hd : 3 ≤ d) : G K M_Way_beginSet d bc bs 134 [.ref a0, .int x1, .int x2, .int x3, .int x4, .double 0, .double 0, .double 0] [.int xt0, .int xt1, .ref at2] (g, m) Q := by
  unfold b_Way_beginSet_134 at e
  obtain ⟨q1, e⟩ := o_gd_ex e
  refine p_iast k_Way_beginSet_134 ht2 (inb_in q1) (j := xt1.toNatClampNeg) rfl ?_
  obtain ⟨m2, u_m2, e⟩ := o_let_ex e
  refine G.hm u_m2 ?_
  refine g_aload_n k_Way_beginSet_135 rfl rfl ?_
  refine p_getr k_Way_beginSet_136 fl_Way_24 rfl (sk_Way s0) (by decide) (sr_Way_4 s0) ?_
  refine g_iload_n k_Way_beginSet_139 rfl rfl ?_
  refine g_iload k_Way_beginSet_140 rfl ?_
  refine g_if_eq (tgt := 153) k_Way_beginSet_142 (by decide) (fun c => ?_) (fun c => ?_)
  · rw [if_pos c] at e
    exact (t_Way_beginSet_153 s F rec_30 hr_30 a0 s0 x1 x2 x3 x4 x3 (a0 + 4) (sa_Way_4 s0) m2 hq e hd)
  · rw [if_neg c] at e
    refine g_iload_n k_Way_beginSet_145 rfl rfl ?_
    refine g_if_ne (tgt := 153) k_Way_beginSet_146 (by decide) (fun c => ?_) (fun c => ?_)
    · rw [if_pos c] at e
      refine g_iconst (v := 1) k_Way_beginSet_149 rfl ?_
      refine g_goto (tgt := 154) k_Way_beginSet_150 (by decide) ?_
      exact (t_Way_beginSet_154 s F rec_30 hr_30 a0 s0 x1 x2 x3 x4 1 x3 (a0 + 4) (sa_Way_4 s0) m2 hq e hd)
    · rw [if_neg c] at e
      exact (t_Way_beginSet_153 s F rec_30 hr_30 a0 s0 x1 x2 x3 x4 x3 (a0 + 4) (sa_Way_4 s0) m2 hq e hd)
def b_Way_beginSet_117 (F : Nat) (rec_30 : Nat → Int32 → Int32 → aM → Option (Int32 × aM)) (a0 : Nat) (x1 : Int32) (x2 : Int32) (x3 : Int32) (x4 : Int32) (x5 : Int32) (xt0 : Int32) (xt1 : Int32) (at2 : Nat) (m : aM) : Option (Int32 × aM) :=
  o_gd (inb xt1 6912) <|
  o_let (a_st m at2 xt1.toNatClampNeg xt0) fun m2 =>
  (if x5 = 0 then
  b_Way_beginSet_134 F rec_30 a0 x1 x2 x3 x4 2147483647 x3 (a0 + 3) m2
  else
  b_Way_beginSet_134 F rec_30 a0 x1 x2 x3 x4 0 x3 (a0 + 3) m2
  )
theorem t_Way_beginSet_117 {K : aK} {d bc bs : Nat} {g : aG} (s : Sys g) {Q : aQ} {r : Int32} {m' : aM} (F : Nat) (rec_30 : Nat → Int32 → Int32 → aM → Option (Int32 × aM)) (hr_30 : ∀ (a0 : Nat) (s0 : ShWay g a0) (x1 : Int32) (x2 : Int32) (m : aM), rec_30 a0 x1 x2 m = some (r, m') → G K M_Way_beginSet d bc bs 30 [.ref a0, .int x1, .int x2, .double 0, .double 0, .double 0, .double 0, .double 0] [] (g, m) Q) (a0 : Nat) (s0 : ShWay g a0) (x1 : Int32) (x2 : Int32) (x3 : Int32) (x4 : Int32) (x5 : Int32) (xt0 : Int32) (xt1 : Int32) (at2 : Nat) (ht2 : g.2.1 at2 = (0, 6912)) (m : aM) (hq : Q (.inl none) (g, m')) (e : b_Way_beginSet_117 F rec_30 a0 x1 x2 x3 x4 x5 xt0 xt1 at2 m = some (r, m')) (hd : 3 ≤ d) : G K M_Way_beginSet d bc bs 117 [.ref a0, .int x1, .int x2, .int x3, .int x4, .int x5, .double 0, .double 0] [.int xt0, .int xt1, .ref at2] (g, m) Q := by
  unfold b_Way_beginSet_117 at e
  obtain ⟨q1, e⟩ := o_gd_ex e
  refine p_iast k_Way_beginSet_117 ht2 (inb_in q1) (j := xt1.toNatClampNeg) rfl ?_
  obtain ⟨m2, u_m2, e⟩ := o_let_ex e
  refine G.hm u_m2 ?_
  refine g_aload_n k_Way_beginSet_118 rfl rfl ?_
  refine p_getr k_Way_beginSet_119 fl_Way_21 rfl (sk_Way s0) (by decide) (sr_Way_3 s0) ?_
  refine g_iload_n k_Way_beginSet_122 rfl rfl ?_
  refine g_iload k_Way_beginSet_123 rfl ?_
  refine g_if_eq (tgt := 132) k_Way_beginSet_125 (by decide) (fun c => ?_) (fun c => ?_)
  · rw [if_pos c] at e
    refine g_ldc k_Way_beginSet_132 kc_Way_77 ?_
    exact G.wl (wls (wls (wls (wls (wls (wld (wls (wls wl0)))))))) (t_Way_beginSet_134 s F rec_30 hr_30 a0 s0 x1 x2 x3 x4 2147483647 x3 (a0 + 3) (sa_Way_3 s0) m2 hq e hd)
  · rw [if_neg c] at e
    refine g_iconst (v := 0) k_Way_beginSet_128 rfl ?_
    refine g_goto (tgt := 134) k_Way_beginSet_129 (by decide) ?_
    exact G.wl (wls (wls (wls (wls (wls (wld (wls (wls wl0)))))))) (t_Way_beginSet_134 s F rec_30 hr_30 a0 s0 x1 x2 x3 x4 0 x3 (a0 + 3) (sa_Way_3 s0) m2 hq e hd)
def b_Way_beginSet_91 (F : Nat) (rec_30 : Nat → Int32 → Int32 → aM → Option (Int32 × aM)) (a0 : Nat) (x1 : Int32) (x2 : Int32) (x3 : Int32) (x4 : Int32) (xt0 : Int32) (m : aM) : Option (Int32 × aM) :=
  o_gd (inb x3 6912) <|
  o_gd (isb x4) <|
  o_let (a_st m (a0 + 1) x3.toNatClampNeg x4) fun m3 =>
  (if xt0 = 0 then
  b_Way_beginSet_117 F rec_30 a0 x1 x2 x3 x4 xt0 2147483647 x3 (a0 + 2) m3
  else
  b_Way_beginSet_117 F rec_30 a0 x1 x2 x3 x4 xt0 0 x3 (a0 + 2) m3
  )
theorem t_Way_beginSet_91 {K : aK} {d bc bs : Nat} {g : aG} (s : Sys g) {Q : aQ} {r : Int32} {m' : aM} (F : Nat) (rec_30 : Nat → Int32 → Int32 → aM → Option (Int32 × aM)) (hr_30 : ∀ (a0 : Nat) (s0 : ShWay g a0) (x1 : Int32) (x2 : Int32) (m : aM), rec_30 a0 x1 x2 m = some (r, m') → G K M_Way_beginSet d bc bs 30 [.ref a0, .int x1, .int x2, .double 0, .double 0, .double 0, .double 0, .double 0] [] (g, m) Q) (a0 : Nat) (s0 : ShWay g a0) (x1 : Int32) (x2 : Int32) (x3 : Int32) (x4 : Int32) (xt0 : Int32) (m : aM) (hq : Q (.inl none) (g, m')) (e : b_Way_beginSet_91 F rec_30 a0 x1 x2 x3 x4 xt0 m = some (r, m')) (hd : 3 ≤ d) : G K M_Way_beginSet d bc bs 91 [.ref a0, .int x1, .int x2, .int x3, .int x4, .double 0, .double 0, .double 0] [.int xt0] (g, m) Q := by
  unfold b_Way_beginSet_91 at e
  refine g_istore k_Way_beginSet_91 (by decide) ?_
  refine g_aload_n k_Way_beginSet_93 rfl rfl ?_
  refine p_getr k_Way_beginSet_94 fl_Way_13 rfl (sk_Way s0) (by decide) (sr_Way_1 s0) ?_
  refine g_iload_n k_Way_beginSet_97 rfl rfl ?_
  refine g_iload k_Way_beginSet_98 rfl ?_
  obtain ⟨q1, e⟩ := o_gd_ex e
  obtain ⟨q2, e⟩ := o_gd_ex e
  refine p_zast k_Way_beginSet_100 (sa_Way_1 s0) (inb_in q1) (j := x3.toNatClampNeg) rfl (isb_or q2) ?_
  obtain ⟨m3, u_m3, e⟩ := o_let_ex e
  refine G.hm u_m3 ?_
  refine g_aload_n k_Way_beginSet_101 rfl rfl ?_
  refine p_getr k_Way_beginSet_102 fl_Way_17 rfl (sk_Way s0) (by decide) (sr_Way_2 s0) ?_
  refine g_iload_n k_Way_beginSet_105 rfl rfl ?_
  refine g_iload k_Way_beginSet_106 rfl ?_
  refine g_if_eq (tgt := 115) k_Way_beginSet_108 (by decide) (fun c => ?_) (fun c => ?_)
  · rw [if_pos c] at e
    refine g_ldc k_Way_beginSet_115 kc_Way_77 ?_
    exact (t_Way_beginSet_117 s F rec_30 hr_30 a0 s0 x1 x2 x3 x4 xt0 2147483647 x3 (a0 + 2) (sa_Way_2 s0) m3 hq e hd)
  · rw [if_neg c] at e
    refine g_iconst (v := 0) k_Way_beginSet_111 rfl ?_
    refine g_goto (tgt := 117) k_Way_beginSet_112 (by decide) ?_
    exact (t_Way_beginSet_117 s F rec_30 hr_30 a0 s0 x1 x2 x3 x4 xt0 0 x3 (a0 + 2) (sa_Way_2 s0) m3 hq e hd)
def b_Way_beginSet_90 (F : Nat) (rec_30 : Nat → Int32 → Int32 → aM → Option (Int32 × aM)) (a0 : Nat) (x1 : Int32) (x2 : Int32) (x3 : Int32) (x4 : Int32) (m : aM) : Option (Int32 × aM) :=
  b_Way_beginSet_91 F rec_30 a0 x1 x2 x3 x4 0 m
theorem t_Way_beginSet_90 {K : aK} {d bc bs : Nat} {g : aG} (s : Sys g) {Q : aQ} {r : Int32} {m' : aM} (F : Nat) (rec_30 : Nat → Int32 → Int32 → aM → Option (Int32 × aM)) (hr_30 : ∀ (a0 : Nat) (s0 : ShWay g a0) (x1 : Int32) (x2 : Int32) (m : aM), rec_30 a0 x1 x2 m = some (r, m') → G K M_Way_beginSet d bc bs 30 [.ref a0, .int x1, .int x2, .double 0, .double 0, .double 0, .double 0, .double 0] [] (g, m) Q) (a0 : Nat) (s0 : ShWay g a0) (x1 : Int32) (x2 : Int32) (x3 : Int32) (x4 : Int32) (m : aM) (hq : Q (.inl none) (g, m')) (e : b_Way_beginSet_90 F rec_30 a0 x1 x2 x3 x4 m = some (r, m')) (hd : 3 ≤ d) : G K M_Way_beginSet d bc bs 90 [.ref a0, .int x1, .int x2, .int x3, .int x4, .double 0, .double 0, .double 0] [] (g, m) Q := by
  unfold b_Way_beginSet_90 at e
  refine g_iconst (v := 0) k_Way_beginSet_90 rfl ?_
  exact (t_Way_beginSet_91 s F rec_30 hr_30 a0 s0 x1 x2 x3 x4 0 m hq e hd)
def b_Way_beginSet_69 (F : Nat) (rec_30 : Nat → Int32 → Int32 → aM → Option (Int32 × aM)) (a0 : Nat) (x1 : Int32) (x2 : Int32) (x3 : Int32) (xt0 : Int32) (m : aM) : Option (Int32 × aM) :=
  (if xt0 = 0 then
  b_Way_beginSet_90 F rec_30 a0 x1 x2 x3 xt0 m
  else
  (if x2 = ((m a0 7) - 1) then
  b_Way_beginSet_91 F rec_30 a0 x1 x2 x3 xt0 1 m
  else
  b_Way_beginSet_90 F rec_30 a0 x1 x2 x3 xt0 m
  )
  )
theorem t_Way_beginSet_69 {K : aK} {d bc bs : Nat} {g : aG} (s : Sys g) {Q : aQ} {r : Int32} {m' : aM} (F : Nat) (rec_30 : Nat → Int32 → Int32 → aM → Option (Int32 × aM)) (hr_30 : ∀ (a0 : Nat) (s0 : ShWay g a0) (x1 : Int32) (x2 : Int32) (m : aM), rec_30 a0 x1 x2 m = some (r, m') → G K M_Way_beginSet d bc bs 30 [.ref a0, .int x1, .int x2, .double 0, .double 0, .double 0, .double 0, .double 0] [] (g, m) Q) (a0 : Nat) (s0 : ShWay g a0) (x1 : Int32) (x2 : Int32) (x3 : Int32) (xt0 : Int32) (m : aM) (hq : Q (.inl none) (g, m')) (e : b_Way_beginSet_69 F rec_30 a0 x1 x2 x3 xt0 m = some (r, m')) (hd : 3 ≤ d) : G K M_Way_beginSet d bc bs 69 [.ref a0, .int x1, .int x2, .int x3, .double 0, .double 0, .double 0, .double 0] [.int xt0] (g, m) Q := by
  unfold b_Way_beginSet_69 at e
  refine g_istore k_Way_beginSet_69 (by decide) ?_
  refine g_iload k_Way_beginSet_71 rfl ?_
  refine g_if_eq (tgt := 90) k_Way_beginSet_73 (by decide) (fun c => ?_) (fun c => ?_)
  · rw [if_pos c] at e
    exact (t_Way_beginSet_90 s F rec_30 hr_30 a0 s0 x1 x2 x3 xt0 m hq e hd)
  · rw [if_neg c] at e
    refine g_iload_n k_Way_beginSet_76 rfl rfl ?_
    refine g_aload_n k_Way_beginSet_77 rfl rfl ?_
    refine p_geti k_Way_beginSet_78 fl_Way_37 rfl (sk_Way s0) (by decide) ?_
    refine g_iconst (v := 1) k_Way_beginSet_81 rfl ?_
    refine g_isub k_Way_beginSet_82 ?_
    refine g_icmp_ne (tgt := 90) k_Way_beginSet_83 (by decide) (fun c => ?_) (fun c => ?_)
    · rw [if_pos c] at e
      refine g_iconst (v := 1) k_Way_beginSet_86 rfl ?_
      refine g_goto (tgt := 91) k_Way_beginSet_87 (by decide) ?_
      exact (t_Way_beginSet_91 s F rec_30 hr_30 a0 s0 x1 x2 x3 xt0 1 m hq e hd)
    · rw [if_neg c] at e
      exact (t_Way_beginSet_90 s F rec_30 hr_30 a0 s0 x1 x2 x3 xt0 m hq e hd)
def b_Way_beginSet_68 (F : Nat) (rec_30 : Nat → Int32 → Int32 → aM → Option (Int32 × aM)) (a0 : Nat) (x1 : Int32) (x2 : Int32) (x3 : Int32) (m : aM) : Option (Int32 × aM) :=
  b_Way_beginSet_69 F rec_30 a0 x1 x2 x3 0 m
theorem t_Way_beginSet_68 {K : aK} {d bc bs : Nat} {g : aG} (s : Sys g) {Q : aQ} {r : Int32} {m' : aM} (F : Nat) (rec_30 : Nat → Int32 → Int32 → aM → Option (Int32 × aM)) (hr_30 : ∀ (a0 : Nat) (s0 : ShWay g a0) (x1 : Int32) (x2 : Int32) (m : aM), rec_30 a0 x1 x2 m = some (r, m') → G K M_Way_beginSet d bc bs 30 [.ref a0, .int x1, .int x2, .double 0, .double 0, .double 0, .double 0, .double 0] [] (g, m) Q) (a0 : Nat) (s0 : ShWay g a0) (x1 : Int32) (x2 : Int32) (x3 : Int32) (m : aM) (hq : Q (.inl none) (g, m')) (e : b_Way_beginSet_68 F rec_30 a0 x1 x2 x3 m = some (r, m')) (hd : 3 ≤ d) : G K M_Way_beginSet d bc bs 68 [.ref a0, .int x1, .int x2, .int x3, .double 0, .double 0, .double 0, .double 0] [] (g, m) Q := by
  unfold b_Way_beginSet_68 at e
  refine g_iconst (v := 0) k_Way_beginSet_68 rfl ?_
  exact (t_Way_beginSet_69 s F rec_30 hr_30 a0 s0 x1 x2 x3 0 m hq e hd)
def lb_Way_beginSet_30 (F : Nat) (rec_30 : Nat → Int32 → Int32 → aM → Option (Int32 × aM)) (a0 : Nat) (x1 : Int32) (x2 : Int32) (m : aM) : Option (Int32 × aM) :=
  (if (m a0 7) ≤ x2 then
  some (0, m)
  else
  o_gd (inb x2 216) <|
  o_let ((m (a0 + 5) x2.toNatClampNeg)) fun y2 =>
  (if y2 = 0 then
  b_Way_beginSet_68 F rec_30 a0 x1 x2 ((x1 * (m a0 7)) + x2) m
  else
  o_b (f_Way_hasStages F a0 x2 m) fun y3 =>
  (if y3 = 0 then
  b_Way_beginSet_68 F rec_30 a0 x1 x2 ((x1 * (m a0 7)) + x2) m
  else
  b_Way_beginSet_69 F rec_30 a0 x1 x2 ((x1 * (m a0 7)) + x2) 1 m
  )
  )
  )
theorem tb_Way_beginSet_30 {K : aK} {d bc bs : Nat} {g : aG} (s : Sys g) {Q : aQ} {r : Int32} {m' : aM} (F : Nat) (rec_30 : Nat → Int32 → Int32 → aM → Option (Int32 × aM)) (hr_30 : ∀ (a0 : Nat) (s0 : ShWay g a0) (x1 : Int32) (x2 : Int32) (m : aM), rec_30 a0 x1 x2 m = some (r, m') → G K M_Way_beginSet d bc bs 30 [.ref a0, .int x1, .int x2, .double 0, .double 0, .double 0, .double 0, .double 0] [] (g, m) Q) (a0 : Nat) (s0 : ShWay g a0) (x1 : Int32) (x2 : Int32) (m : aM) (hq : Q (.inl none) (g, m')) (e : lb_Way_beginSet_30 F rec_30 a0 x1 x2 m = some (r, m')) (hd : 3 ≤ d) : G K M_Way_beginSet d bc bs 30 [.ref a0, .int x1, .int x2, .double 0, .double 0, .double 0, .double 0, .double 0] [] (g, m) Q := by
  unfold lb_Way_beginSet_30 at e
  refine g_iload_n k_Way_beginSet_30 rfl rfl ?_
  refine g_aload_n k_Way_beginSet_31 rfl rfl ?_
  refine p_geti k_Way_beginSet_32 fl_Way_37 rfl (sk_Way s0) (by decide) ?_
  refine g_icmp_ge (tgt := 226) k_Way_beginSet_35 (by decide) (fun c => ?_) (fun c => ?_)
  · rw [if_pos c] at e
    refine g_vret k_Way_beginSet_226 rfl ?_
    exact (by cases e; exact hq)
  · rw [if_neg c] at e
    refine g_iload_n k_Way_beginSet_38 rfl rfl ?_
    refine g_aload_n k_Way_beginSet_39 rfl rfl ?_
    refine p_geti k_Way_beginSet_40 fl_Way_37 rfl (sk_Way s0) (by decide) ?_
    refine g_imul k_Way_beginSet_43 ?_
    refine g_iload_n k_Way_beginSet_44 rfl rfl ?_
    refine g_iadd k_Way_beginSet_45 ?_
    refine g_istore_n k_Way_beginSet_46 rfl (by decide) ?_
    refine g_aload_n k_Way_beginSet_47 rfl rfl ?_
    refine p_getr k_Way_beginSet_48 fl_Way_27 rfl (sk_Way s0) (by decide) (sr_Way_5 s0) ?_
    refine g_iload_n k_Way_beginSet_51 rfl rfl ?_
    obtain ⟨q1, e⟩ := o_gd_ex e
    refine p_zald k_Way_beginSet_52 (sa_Way_5 s0) (inb_in q1) (j := x2.toNatClampNeg) rfl ?_
    obtain ⟨y2, u_y2, e⟩ := o_let_ex e
    refine G.vy u_y2 ?_
    refine g_if_eq (tgt := 68) k_Way_beginSet_53 (by decide) (fun c => ?_) (fun c => ?_)
    · rw [if_pos c] at e
      exact (t_Way_beginSet_68 s F rec_30 hr_30 a0 s0 x1 x2 ((x1 * (m a0 7)) + x2) m hq e hd)
    · rw [if_neg c] at e
      refine g_aload_n k_Way_beginSet_56 rfl rfl ?_
      refine g_iload_n k_Way_beginSet_57 rfl rfl ?_
      obtain ⟨y3, e_y3, e⟩ := o_b_ex e
      refine g_cv k_Way_beginSet_58 lv_Way_74 (by decide +kernel) (T := F_Way) (N := 9) (ci := 8) rfl (sk_Way s0) (s_Way_hasStages (bc := 0) (bs := 0) s F a0 s0 x2 m e_y3 (by omega)) rfl rfl (Nat.le_of_ble_eq_true rfl) (by simp [Value.category]) (by omega) (by omega) (by omega) ?_
      refine g_if_eq (tgt := 68) k_Way_beginSet_61 (by decide) (fun c => ?_) (fun c => ?_)
      · rw [if_pos c] at e
        exact (t_Way_beginSet_68 s F rec_30 hr_30 a0 s0 x1 x2 ((x1 * (m a0 7)) + x2) m hq e hd)
      · rw [if_neg c] at e
        refine g_iconst (v := 1) k_Way_beginSet_64 rfl ?_
        refine g_goto (tgt := 69) k_Way_beginSet_65 (by decide) ?_
        exact (t_Way_beginSet_69 s F rec_30 hr_30 a0 s0 x1 x2 ((x1 * (m a0 7)) + x2) 1 m hq e hd)
def ll_Way_beginSet_30 (F : Nat) : Nat → Nat → Int32 → Int32 → aM → Option (Int32 × aM)
  | 0, _, _, _, _ => none
  | N + 1, a0, x1, x2, m => lb_Way_beginSet_30 F (ll_Way_beginSet_30 F N) a0 x1 x2 m
theorem t_Way_beginSet_30 {K : aK} {d bc bs : Nat} {g : aG} (s : Sys g) {Q : aQ} {r : Int32} {m' : aM} (F : Nat) : ∀ (N : Nat) (a0 : Nat) (s0 : ShWay g a0) (x1 : Int32) (x2 : Int32) (m : aM), Q (.inl none) (g, m') → ll_Way_beginSet_30 F N a0 x1 x2 m = some (r, m') → 3 ≤ d → G K M_Way_beginSet d bc bs 30 [.ref a0, .int x1, .int x2, .double 0, .double 0, .double 0, .double 0, .double 0] [] (g, m) Q
  | 0, _, _, _, _, _ => fun _ e => nomatch e
  | N + 1, a0, s0, x1, x2, m => fun hq e hd => tb_Way_beginSet_30 s F (ll_Way_beginSet_30 F N) (fun a0 s0 x1 x2 m e => t_Way_beginSet_30 s F N a0 s0 x1 x2 m hq e hd) a0 s0 x1 x2 m hq e hd
def lb_Way_beginSet_2 (F : Nat) (rec_2 : Nat → Int32 → Int32 → aM → Option (Int32 × aM)) (a0 : Nat) (x1 : Int32) (x2 : Int32) (m : aM) : Option (Int32 × aM) :=
  (if 3 ≤ x2 then
  ll_Way_beginSet_30 F F a0 x1 0 m
  else
  o_b (f_Pla_stagesFor F x2 x1 m) fun y1 =>
  o_gd (inb x2 3) <|
  o_let (a_st m (a0 + 6) x2.toNatClampNeg y1) fun m3 =>
  rec_2 a0 x1 (x2 + 1) m3
  )
theorem tb_Way_beginSet_2 {K : aK} {d bc bs : Nat} {g : aG} (s : Sys g) {Q : aQ} {r : Int32} {m' : aM} (F : Nat) (rec_2 : Nat → Int32 → Int32 → aM → Option (Int32 × aM)) (hr_2 : ∀ (a0 : Nat) (s0 : ShWay g a0) (x1 : Int32) (x2 : Int32) (m : aM), rec_2 a0 x1 x2 m = some (r, m') → G K M_Way_beginSet d bc bs 2 [.ref a0, .int x1, .int x2, .double 0, .double 0, .double 0, .double 0, .double 0] [] (g, m) Q) (a0 : Nat) (s0 : ShWay g a0) (x1 : Int32) (x2 : Int32) (m : aM) (hq : Q (.inl none) (g, m')) (e : lb_Way_beginSet_2 F rec_2 a0 x1 x2 m = some (r, m')) (hd : 3 ≤ d) : G K M_Way_beginSet d bc bs 2 [.ref a0, .int x1, .int x2, .double 0, .double 0, .double 0, .double 0, .double 0] [] (g, m) Q := by
  unfold lb_Way_beginSet_2 at e
  refine g_iload_n k_Way_beginSet_2 rfl rfl ?_
  refine g_iconst (v := 3) k_Way_beginSet_3 rfl ?_
  refine g_icmp_ge (tgt := 28) k_Way_beginSet_4 (by decide) (fun c => ?_) (fun c => ?_)
  · rw [if_pos c] at e
    refine g_iconst (v := 0) k_Way_beginSet_28 rfl ?_
    refine g_istore_n k_Way_beginSet_29 rfl (by decide) ?_
    exact (t_Way_beginSet_30 s F F a0 s0 x1 0 m hq e hd)
  · rw [if_neg c] at e
    refine g_aload_n k_Way_beginSet_7 rfl rfl ?_
    refine p_getr k_Way_beginSet_8 fl_Way_30 rfl (sk_Way s0) (by decide) (sr_Way_6 s0) ?_
    refine g_iload_n k_Way_beginSet_11 rfl rfl ?_
    refine g_aload_n k_Way_beginSet_12 rfl rfl ?_
    refine p_getr k_Way_beginSet_13 fl_Way_33 rfl (sk_Way s0) (by decide) (sp_Way_0 s0) ?_
    refine g_iload_n k_Way_beginSet_16 rfl rfl ?_
    refine g_iload_n k_Way_beginSet_17 rfl rfl ?_
    obtain ⟨y1, e_y1, e⟩ := o_b_ex e
    refine g_cv k_Way_beginSet_18 lv_Way_71 (by decide +kernel) (T := F_Pla) (N := 8) (ci := 4) rfl (sk_Pla (sy_Pla s)) (s_Pla_stagesFor (bc := 0) (bs := 0) s F x2 x1 m e_y1) rfl rfl (Nat.le_of_ble_eq_true rfl) (by simp [Value.category]) (by omega) (by omega) (by omega) ?_
    obtain ⟨q2, e⟩ := o_gd_ex e
    refine p_iast k_Way_beginSet_21 (sa_Way_6 s0) (inb_in q2) (j := x2.toNatClampNeg) rfl ?_
    obtain ⟨m3, u_m3, e⟩ := o_let_ex e
    refine G.hm u_m3 ?_
    refine g_iinc (v := _ + 1) k_Way_beginSet_22 rfl rfl (by decide) ?_
    refine g_goto (tgt := 2) k_Way_beginSet_25 (by decide) ?_
    exact (hr_2 a0 s0 x1 (x2 + 1) m3 e)
def ll_Way_beginSet_2 (F : Nat) : Nat → Nat → Int32 → Int32 → aM → Option (Int32 × aM)
  | 0, _, _, _, _ => none
  | N + 1, a0, x1, x2, m => lb_Way_beginSet_2 F (ll_Way_beginSet_2 F N) a0 x1 x2 m
theorem t_Way_beginSet_2 {K : aK} {d bc bs : Nat} {g : aG} (s : Sys g) {Q : aQ} {r : Int32} {m' : aM} (F : Nat) : ∀ (N : Nat) (a0 : Nat) (s0 : ShWay g a0) (x1 : Int32) (x2 : Int32) (m : aM), Q (.inl none) (g, m') → ll_Way_beginSet_2 F N a0 x1 x2 m = some (r, m') → 3 ≤ d → G K M_Way_beginSet d bc bs 2 [.ref a0, .int x1, .int x2, .double 0, .double 0, .double 0, .double 0, .double 0] [] (g, m) Q
  | 0, _, _, _, _, _ => fun _ e => nomatch e
  | N + 1, a0, s0, x1, x2, m => fun hq e hd => tb_Way_beginSet_2 s F (ll_Way_beginSet_2 F N) (fun a0 s0 x1 x2 m e => t_Way_beginSet_2 s F N a0 s0 x1 x2 m hq e hd) a0 s0 x1 x2 m hq e hd
def f_Way_beginSet (F : Nat) (a0 : Nat) (x1 : Int32) (m : aM) : Option (Int32 × aM) :=
  ll_Way_beginSet_2 F F a0 x1 0 m
theorem s_Way_beginSet {K : aK} {d bc bs : Nat} {g : aG} (s : Sys g) (F : Nat) (a0 : Nat) (s0 : ShWay g a0) (x1 : Int32) (m : aM) {r : Int32} {m' : aM} (e : f_Way_beginSet F a0 x1 m = some (r, m')) (hd : 3 ≤ d) : Sp K M_Way_beginSet d bc bs [.ref a0, .int x1] (g, m) none (g, m') := by
  refine sp_of ok_Way_beginSet rfl (Nat.le_of_ble_eq_true rfl) (by simp [Value.category]) (fun Q hq => ?_)
  unfold f_Way_beginSet at e
  refine g_iconst (v := 0) k_Way_beginSet_0 rfl ?_
  refine g_istore_n k_Way_beginSet_1 rfl (by decide) ?_
  exact (t_Way_beginSet_2 s F F a0 s0 x1 0 m hq e hd)
def b_Way_nextOf_48 (a0 : Nat) (x4 : Int32) (x5 : Int32) (xt0 : Int32) (m : aM) : Option Int32 :=
  (if xt0 = 0 then
  some (-1)
  else
  o_let ((((m a0 7) : Int32) <<< (x5 &&& 31))) fun y1 =>
  some (x4 + y1)
  )
theorem t_Way_nextOf_48 {K : aK} {d bc bs : Nat} {g : aG} (s : Sys g) {Q : aQ} {r : Int32} (m : aM) (a0 : Nat) (s0 : ShWay g a0) (x4 : Int32) (x5 : Int32) (xt0 : Int32) (hq : Q (.inl (some (.int r))) (g, m)) (e : b_Way_nextOf_48 a0 x4 x5 xt0 m = some r) (hd : 2 ≤ d) : G K M_Way_nextOf d bc bs 48 [.ref a0, .double 0, .double 0, .double 0, .int x4, .int x5, .double 0] [.int xt0] (g, m) Q := by
  unfold b_Way_nextOf_48 at e
  refine g_istore k_Way_nextOf_48 (by decide) ?_
  refine g_iload k_Way_nextOf_50 rfl ?_
  refine g_if_eq (tgt := 68) k_Way_nextOf_52 (by decide) (fun c => ?_) (fun c => ?_)
  · rw [if_pos c] at e
    refine g_iconst (v := (-1)) k_Way_nextOf_68 rfl ?_
    refine g_iret k_Way_nextOf_69 rfl ?_
    exact (by cases e; exact hq)
  · rw [if_neg c] at e
    refine g_iload k_Way_nextOf_55 rfl ?_
    refine g_aload_n k_Way_nextOf_57 rfl rfl ?_
    refine p_geti k_Way_nextOf_58 fl_Way_37 rfl (sk_Way s0) (by decide) ?_
    refine g_iload k_Way_nextOf_61 rfl ?_
    refine g_ishl k_Way_nextOf_63 ?_
    obtain ⟨y1, u_y1, e⟩ := o_let_ex e
    refine G.vy u_y1 ?_
    refine g_iadd k_Way_nextOf_64 ?_
    refine g_goto (tgt := 69) k_Way_nextOf_65 (by decide) ?_
    refine g_iret k_Way_nextOf_69 rfl ?_
    exact (by cases e; exact hq)
def b_Way_nextOf_47 (a0 : Nat) (x4 : Int32) (x5 : Int32) (m : aM) : Option Int32 :=
  b_Way_nextOf_48 a0 x4 x5 0 m
theorem t_Way_nextOf_47 {K : aK} {d bc bs : Nat} {g : aG} (s : Sys g) {Q : aQ} {r : Int32} (m : aM) (a0 : Nat) (s0 : ShWay g a0) (x4 : Int32) (x5 : Int32) (hq : Q (.inl (some (.int r))) (g, m)) (e : b_Way_nextOf_47 a0 x4 x5 m = some r) (hd : 2 ≤ d) : G K M_Way_nextOf d bc bs 47 [.ref a0, .double 0, .double 0, .double 0, .int x4, .int x5, .double 0] [] (g, m) Q := by
  unfold b_Way_nextOf_47 at e
  refine g_iconst (v := 0) k_Way_nextOf_47 rfl ?_
  exact (t_Way_nextOf_48 s m a0 s0 x4 x5 0  hq e hd)
def f_Way_nextOf (a0 : Nat) (x1 : Int32) (x2 : Int32) (x3 : Int32) (m : aM) : Option Int32 :=
  (if x3 < 6 then
  (if (x3 % 3) < (m 29 5) then
  o_b (f_Pla_stageOf x1 (x3 % 3) m) fun y1 =>
  (if 3 ≤ x3 then
  (if y1 < 1 then
  some (-1)
  else
  (if 5 ≤ y1 then
  some (-1)
  else
  o_b (f_Pla_power (x3 % 3) m) fun y2 =>
  o_let ((((x2 * (m a0 7)) + x1) - y2)) fun y3 =>
  some y3
  )
  )
  else
  (if 5 ≤ y1 then
  some (-1)
  else
  o_b (f_Pla_power (x3 % 3) m) fun y4 =>
  o_let ((((x2 * (m a0 7)) + x1) + y4)) fun y5 =>
  some y5
  )
  )
  else
  some (-1)
  )
  else
  (if (m 29 6) ≤ (x3 - 6) then
  b_Way_nextOf_47 a0 ((x2 * (m a0 7)) + x1) (x3 - 6) m
  else
  o_let (((x2 : Int32) >>> ((x3 - 6) &&& 31))) fun y6 =>
  (if (y6 &&& 1) = 0 then
  b_Way_nextOf_48 a0 ((x2 * (m a0 7)) + x1) (x3 - 6) 1 m
  else
  b_Way_nextOf_47 a0 ((x2 * (m a0 7)) + x1) (x3 - 6) m
  )
  )
  )
theorem s_Way_nextOf {K : aK} {d bc bs : Nat} {g : aG} (s : Sys g) (a0 : Nat) (s0 : ShWay g a0) (x1 : Int32) (x2 : Int32) (x3 : Int32) (m : aM) {r : Int32} (e : f_Way_nextOf a0 x1 x2 x3 m = some r) (hd : 2 ≤ d) : Sp K M_Way_nextOf d bc bs [.ref a0, .int x1, .int x2, .int x3] (g, m) (some (.int r)) (g, m) := by
  refine sp_of ok_Way_nextOf rfl (Nat.le_of_ble_eq_true rfl) (by simp [Value.category]) (fun Q hq => ?_)
  unfold f_Way_nextOf at e
  refine g_iload_n k_Way_nextOf_0 rfl rfl ?_
  refine g_aload_n k_Way_nextOf_1 rfl rfl ?_
  refine p_geti k_Way_nextOf_2 fl_Way_37 rfl (sk_Way s0) (by decide) ?_
  refine g_imul k_Way_nextOf_5 ?_
  refine g_iload_n k_Way_nextOf_6 rfl rfl ?_
  refine g_iadd k_Way_nextOf_7 ?_
  refine g_istore k_Way_nextOf_8 (by decide) ?_
  refine g_iload_n k_Way_nextOf_10 rfl rfl ?_
  refine g_bipush (v := 6) k_Way_nextOf_11 rfl ?_
  refine g_icmp_lt (tgt := 70) k_Way_nextOf_13 (by decide) (fun c => ?_) (fun c => ?_)
  · rw [if_pos c] at e
    refine g_iload_n k_Way_nextOf_70 rfl rfl ?_
    refine g_iconst (v := 3) k_Way_nextOf_71 rfl ?_
    refine g_irem k_Way_nextOf_72 (by decide) ?_
    refine g_istore k_Way_nextOf_73 (by decide) ?_
    refine g_iload k_Way_nextOf_75 rfl ?_
    refine g_aload_n k_Way_nextOf_77 rfl rfl ?_
    refine p_getr k_Way_nextOf_78 fl_Way_33 rfl (sk_Way s0) (by decide) (sp_Way_0 s0) ?_
    refine p_geti k_Way_nextOf_81 fl_Way_89 rfl (sk_Pla (sy_Pla s)) (by decide) ?_
    refine g_icmp_lt (tgt := 89) k_Way_nextOf_84 (by decide) (fun c => ?_) (fun c => ?_)
    · rw [if_pos c] at e
      refine g_iload_n k_Way_nextOf_89 rfl rfl ?_
      refine g_iload k_Way_nextOf_90 rfl ?_
      obtain ⟨y1, e_y1, e⟩ := o_b_ex e
      refine g_cs k_Way_nextOf_92 ls_Way_92 (by decide +kernel) (s_Pla_stageOf (bc := 0) (bs := 0) s x1 (x3 % 3) m e_y1 (by omega)) rfl rfl (Nat.le_of_ble_eq_true rfl) (by simp [Value.category]) (by omega) (by omega) (by omega) ?_
      refine g_istore k_Way_nextOf_95 (by decide) ?_
      refine g_iload_n k_Way_nextOf_97 rfl rfl ?_
      refine g_iconst (v := 3) k_Way_nextOf_98 rfl ?_
      refine g_icmp_ge (tgt := 121) k_Way_nextOf_99 (by decide) (fun c => ?_) (fun c => ?_)
      · rw [if_pos c] at e
        refine g_iload k_Way_nextOf_121 rfl ?_
        refine g_iconst (v := 1) k_Way_nextOf_123 rfl ?_
        refine g_icmp_lt (tgt := 144) k_Way_nextOf_124 (by decide) (fun c => ?_) (fun c => ?_)
        · rw [if_pos c] at e
          refine g_iconst (v := (-1)) k_Way_nextOf_144 rfl ?_
          refine g_iret k_Way_nextOf_145 rfl ?_
          exact (by cases e; exact hq)
        · rw [if_neg c] at e
          refine g_iload k_Way_nextOf_127 rfl ?_
          refine g_iconst (v := 5) k_Way_nextOf_129 rfl ?_
          refine g_icmp_ge (tgt := 144) k_Way_nextOf_130 (by decide) (fun c => ?_) (fun c => ?_)
          · rw [if_pos c] at e
            refine g_iconst (v := (-1)) k_Way_nextOf_144 rfl ?_
            refine g_iret k_Way_nextOf_145 rfl ?_
            exact (by cases e; exact hq)
          · rw [if_neg c] at e
            refine g_iload k_Way_nextOf_133 rfl ?_
            refine g_iload k_Way_nextOf_135 rfl ?_
            obtain ⟨y2, e_y2, e⟩ := o_b_ex e
            refine g_cs k_Way_nextOf_137 ls_Way_105 (by decide +kernel) (s_Pla_power (bc := 0) (bs := 0) s (x3 % 3) m e_y2) rfl rfl (Nat.le_of_ble_eq_true rfl) (by simp [Value.category]) (by omega) (by omega) (by omega) ?_
            refine g_isub k_Way_nextOf_140 ?_
            obtain ⟨y3, u_y3, e⟩ := o_let_ex e
            refine G.vy u_y3 ?_
            refine g_goto (tgt := 145) k_Way_nextOf_141 (by decide) ?_
            refine g_iret k_Way_nextOf_145 rfl ?_
            exact (by cases e; exact hq)
      · rw [if_neg c] at e
        refine g_iload k_Way_nextOf_102 rfl ?_
        refine g_iconst (v := 5) k_Way_nextOf_104 rfl ?_
        refine g_icmp_ge (tgt := 119) k_Way_nextOf_105 (by decide) (fun c => ?_) (fun c => ?_)
        · rw [if_pos c] at e
          refine g_iconst (v := (-1)) k_Way_nextOf_119 rfl ?_
          refine g_iret k_Way_nextOf_120 rfl ?_
          exact (by cases e; exact hq)
        · rw [if_neg c] at e
          refine g_iload k_Way_nextOf_108 rfl ?_
          refine g_iload k_Way_nextOf_110 rfl ?_
          obtain ⟨y4, e_y4, e⟩ := o_b_ex e
          refine g_cs k_Way_nextOf_112 ls_Way_105 (by decide +kernel) (s_Pla_power (bc := 0) (bs := 0) s (x3 % 3) m e_y4) rfl rfl (Nat.le_of_ble_eq_true rfl) (by simp [Value.category]) (by omega) (by omega) (by omega) ?_
          refine g_iadd k_Way_nextOf_115 ?_
          obtain ⟨y5, u_y5, e⟩ := o_let_ex e
          refine G.vy u_y5 ?_
          refine g_goto (tgt := 120) k_Way_nextOf_116 (by decide) ?_
          refine g_iret k_Way_nextOf_120 rfl ?_
          exact (by cases e; exact hq)
    · rw [if_neg c] at e
      refine g_iconst (v := (-1)) k_Way_nextOf_87 rfl ?_
      refine g_iret k_Way_nextOf_88 rfl ?_
      exact (by cases e; exact hq)
  · rw [if_neg c] at e
    refine g_iload_n k_Way_nextOf_16 rfl rfl ?_
    refine g_bipush (v := 6) k_Way_nextOf_17 rfl ?_
    refine g_isub k_Way_nextOf_19 ?_
    refine g_istore k_Way_nextOf_20 (by decide) ?_
    refine g_iload k_Way_nextOf_22 rfl ?_
    refine g_aload_n k_Way_nextOf_24 rfl rfl ?_
    refine p_getr k_Way_nextOf_25 fl_Way_33 rfl (sk_Way s0) (by decide) (sp_Way_0 s0) ?_
    refine p_geti k_Way_nextOf_28 fl_Way_78 rfl (sk_Pla (sy_Pla s)) (by decide) ?_
    refine g_icmp_ge (tgt := 47) k_Way_nextOf_31 (by decide) (fun c => ?_) (fun c => ?_)
    · rw [if_pos c] at e
      exact G.wl (wls (wld (wld (wld (wls (wls (wls wl0))))))) (t_Way_nextOf_47 s m a0 s0 ((x2 * (m a0 7)) + x1) (x3 - 6)  hq e hd)
    · rw [if_neg c] at e
      refine g_iload_n k_Way_nextOf_34 rfl rfl ?_
      refine g_iload k_Way_nextOf_35 rfl ?_
      refine g_ishr k_Way_nextOf_37 ?_
      obtain ⟨y6, u_y6, e⟩ := o_let_ex e
      refine G.vy u_y6 ?_
      refine g_iconst (v := 1) k_Way_nextOf_38 rfl ?_
      refine g_iand k_Way_nextOf_39 ?_
      refine g_if_ne (tgt := 47) k_Way_nextOf_40 (by decide) (fun c => ?_) (fun c => ?_)
      · rw [if_pos c] at e
        refine g_iconst (v := 1) k_Way_nextOf_43 rfl ?_
        refine g_goto (tgt := 48) k_Way_nextOf_44 (by decide) ?_
        exact G.wl (wls (wld (wld (wld (wls (wls (wls wl0))))))) (t_Way_nextOf_48 s m a0 s0 ((x2 * (m a0 7)) + x1) (x3 - 6) 1  hq e hd)
      · rw [if_neg c] at e
        exact G.wl (wls (wld (wld (wld (wls (wls (wls wl0))))))) (t_Way_nextOf_47 s m a0 s0 ((x2 * (m a0 7)) + x1) (x3 - 6)  hq e hd)
def f_Way_holdingOf (a0 : Nat) (x1 : Int32) (x2 : Int32) (m : aM) : Option Int32 :=
  (if 3 ≤ x2 then
  (if 6 ≤ x2 then
  o_b (f_Pla_priceOf (x2 - 6) m) fun y1 =>
  some y1
  else
  some 1
  )
  else
  o_b (f_Pla_stageOf x1 x2 m) fun y2 =>
  o_b (f_Pla_holdAt x2 y2 m) fun y3 =>
  some y3
  )
theorem s_Way_holdingOf {K : aK} {d bc bs : Nat} {g : aG} (s : Sys g) (a0 : Nat) (s0 : ShWay g a0) (x1 : Int32) (x2 : Int32) (m : aM) {r : Int32} (e : f_Way_holdingOf a0 x1 x2 m = some r) (hd : 2 ≤ d) : Sp K M_Way_holdingOf d bc bs [.ref a0, .int x1, .int x2] (g, m) (some (.int r)) (g, m) := by
  refine sp_of ok_Way_holdingOf rfl (Nat.le_of_ble_eq_true rfl) (by simp [Value.category]) (fun Q hq => ?_)
  unfold f_Way_holdingOf at e
  refine g_iload_n k_Way_holdingOf_0 rfl rfl ?_
  refine g_iconst (v := 3) k_Way_holdingOf_1 rfl ?_
  refine g_icmp_ge (tgt := 19) k_Way_holdingOf_2 (by decide) (fun c => ?_) (fun c => ?_)
  · rw [if_pos c] at e
    refine g_iload_n k_Way_holdingOf_19 rfl rfl ?_
    refine g_bipush (v := 6) k_Way_holdingOf_20 rfl ?_
    refine g_icmp_ge (tgt := 29) k_Way_holdingOf_22 (by decide) (fun c => ?_) (fun c => ?_)
    · rw [if_pos c] at e
      refine g_aload_n k_Way_holdingOf_29 rfl rfl ?_
      refine p_getr k_Way_holdingOf_30 fl_Way_33 rfl (sk_Way s0) (by decide) (sp_Way_0 s0) ?_
      refine g_iload_n k_Way_holdingOf_33 rfl rfl ?_
      refine g_bipush (v := 6) k_Way_holdingOf_34 rfl ?_
      refine g_isub k_Way_holdingOf_36 ?_
      obtain ⟨y1, e_y1, e⟩ := o_b_ex e
      refine g_cv k_Way_holdingOf_37 lv_Way_81 (by decide +kernel) (T := F_Pla) (N := 8) (ci := 4) rfl (sk_Pla (sy_Pla s)) (s_Pla_priceOf (bc := 0) (bs := 0) s (x2 - 6) m e_y1) rfl rfl (Nat.le_of_ble_eq_true rfl) (by simp [Value.category]) (by omega) (by omega) (by omega) ?_
      refine g_iret k_Way_holdingOf_40 rfl ?_
      exact (by cases e; exact hq)
    · rw [if_neg c] at e
      refine g_iconst (v := 1) k_Way_holdingOf_25 rfl ?_
      refine g_goto (tgt := 40) k_Way_holdingOf_26 (by decide) ?_
      refine g_iret k_Way_holdingOf_40 rfl ?_
      exact (by cases e; exact hq)
  · rw [if_neg c] at e
    refine g_aload_n k_Way_holdingOf_5 rfl rfl ?_
    refine p_getr k_Way_holdingOf_6 fl_Way_33 rfl (sk_Way s0) (by decide) (sp_Way_0 s0) ?_
    refine g_iload_n k_Way_holdingOf_9 rfl rfl ?_
    refine g_iload_n k_Way_holdingOf_10 rfl rfl ?_
    refine g_iload_n k_Way_holdingOf_11 rfl rfl ?_
    obtain ⟨y2, e_y2, e⟩ := o_b_ex e
    refine g_cs k_Way_holdingOf_12 ls_Way_92 (by decide +kernel) (s_Pla_stageOf (bc := 0) (bs := 0) s x1 x2 m e_y2 (by omega)) rfl rfl (Nat.le_of_ble_eq_true rfl) (by simp [Value.category]) (by omega) (by omega) (by omega) ?_
    obtain ⟨y3, e_y3, e⟩ := o_b_ex e
    refine g_cv k_Way_holdingOf_15 lv_Way_108 (by decide +kernel) (T := F_Pla) (N := 8) (ci := 4) rfl (sk_Pla (sy_Pla s)) (s_Pla_holdAt (bc := 0) (bs := 0) s x2 y2 m e_y3) rfl rfl (Nat.le_of_ble_eq_true rfl) (by simp [Value.category]) (by omega) (by omega) (by omega) ?_
    refine g_iret k_Way_holdingOf_18 rfl ?_
    exact (by cases e; exact hq)
def b_Way_settleSet_100 (F : Nat) (rec_4 : Nat → Int32 → Int32 → Int32 → aM → Option (Int32 × aM)) (rec_25 : Nat → Int32 → Int32 → Int32 → Int32 → aM → Option (Int32 × aM)) (a0 : Nat) (x1 : Int32) (x2 : Int32) (x3 : Int32) (x4 : Int32) (m : aM) : Option (Int32 × aM) :=
  rec_25 a0 x1 x2 x3 (x4 - 1) m
theorem t_Way_settleSet_100 {K : aK} {d bc bs : Nat} {g : aG} (s : Sys g) {Q : aQ} {r : Int32} {m' : aM} (F : Nat) (rec_4 : Nat → Int32 → Int32 → Int32 → aM → Option (Int32 × aM)) (hr_4 : ∀ (a0 : Nat) (s0 : ShWay g a0) (x1 : Int32) (x2 : Int32) (x3 : Int32) (m : aM), rec_4 a0 x1 x2 x3 m = some (r, m') → G K M_Way_settleSet d bc bs 4 [.ref a0, .int x1, .int x2, .int x3, .double 0, .double 0, .double 0, .double 0] [] (g, m) Q) (rec_25 : Nat → Int32 → Int32 → Int32 → Int32 → aM → Option (Int32 × aM)) (hr_25 : ∀ (a0 : Nat) (s0 : ShWay g a0) (x1 : Int32) (x2 : Int32) (x3 : Int32) (x4 : Int32) (m : aM), rec_25 a0 x1 x2 x3 x4 m = some (r, m') → G K M_Way_settleSet d bc bs 25 [.ref a0, .int x1, .int x2, .int x3, .int x4, .double 0, .double 0, .double 0] [] (g, m) Q) (a0 : Nat) (s0 : ShWay g a0) (x1 : Int32) (x2 : Int32) (x3 : Int32) (x4 : Int32) (m : aM) (hq : Q (.inl none) (g, m')) (e : b_Way_settleSet_100 F rec_4 rec_25 a0 x1 x2 x3 x4 m = some (r, m')) (hd : 3 ≤ d) : G K M_Way_settleSet d bc bs 100 [.ref a0, .int x1, .int x2, .int x3, .int x4, .double 0, .double 0, .double 0] [] (g, m) Q := by
  unfold b_Way_settleSet_100 at e
  refine g_iinc k_Way_settleSet_100 rfl (i_m1 _) (by decide) ?_
  refine g_goto (tgt := 25) k_Way_settleSet_103 (by decide) ?_
  exact (hr_25 a0 s0 x1 x2 x3 (x4 - 1) m e)
def b_Way_settleSet_94 (F : Nat) (rec_4 : Nat → Int32 → Int32 → Int32 → aM → Option (Int32 × aM)) (rec_25 : Nat → Int32 → Int32 → Int32 → Int32 → aM → Option (Int32 × aM)) (rec_44 : Nat → Int32 → Int32 → Int32 → Int32 → Int32 → Int32 → aM → Option (Int32 × aM)) (a0 : Nat) (x1 : Int32) (x2 : Int32) (x3 : Int32) (x4 : Int32) (x5 : Int32) (x6 : Int32) (m : aM) : Option (Int32 × aM) :=
  rec_44 a0 x1 x2 x3 x4 x5 (x6 + 1) m
theorem t_Way_settleSet_94 {K : aK} {d bc bs : Nat} {g : aG} (s : Sys g) {Q : aQ} {r : Int32} {m' : aM} (F : Nat) (rec_4 : Nat → Int32 → Int32 → Int32 → aM → Option (Int32 × aM)) (hr_4 : ∀ (a0 : Nat) (s0 : ShWay g a0) (x1 : Int32) (x2 : Int32) (x3 : Int32) (m : aM), rec_4 a0 x1 x2 x3 m = some (r, m') → G K M_Way_settleSet d bc bs 4 [.ref a0, .int x1, .int x2, .int x3, .double 0, .double 0, .double 0, .double 0] [] (g, m) Q) (rec_25 : Nat → Int32 → Int32 → Int32 → Int32 → aM → Option (Int32 × aM)) (hr_25 : ∀ (a0 : Nat) (s0 : ShWay g a0) (x1 : Int32) (x2 : Int32) (x3 : Int32) (x4 : Int32) (m : aM), rec_25 a0 x1 x2 x3 x4 m = some (r, m') → G K M_Way_settleSet d bc bs 25 [.ref a0, .int x1, .int x2, .int x3, .int x4, .double 0, .double 0, .double 0] [] (g, m) Q) (rec_44 : Nat → Int32 → Int32 → Int32 → Int32 → Int32 → Int32 → aM → Option (Int32 × aM)) (hr_44 : ∀ (a0 : Nat) (s0 : ShWay g a0) (x1 : Int32) (x2 : Int32) (x3 : Int32) (x4 : Int32) (x5 : Int32) (x6 : Int32) (m : aM), rec_44 a0 x1 x2 x3 x4 x5 x6 m = some (r, m') → G K M_Way_settleSet d bc bs 44 [.ref a0, .int x1, .int x2, .int x3, .int x4, .int x5, .int x6, .double 0] [] (g, m) Q) (a0 : Nat) (s0 : ShWay g a0) (x1 : Int32) (x2 : Int32) (x3 : Int32) (x4 : Int32) (x5 : Int32) (x6 : Int32) (m : aM) (hq : Q (.inl none) (g, m')) (e : b_Way_settleSet_94 F rec_4 rec_25 rec_44 a0 x1 x2 x3 x4 x5 x6 m = some (r, m')) (hd : 3 ≤ d) : G K M_Way_settleSet d bc bs 94 [.ref a0, .int x1, .int x2, .int x3, .int x4, .int x5, .int x6, .double 0] [] (g, m) Q := by
  unfold b_Way_settleSet_94 at e
  refine g_iinc (v := _ + 1) k_Way_settleSet_94 rfl rfl (by decide) ?_
  refine g_goto (tgt := 44) k_Way_settleSet_97 (by decide) ?_
  exact (hr_44 a0 s0 x1 x2 x3 x4 x5 (x6 + 1) m e)
def lb_Way_settleSet_44 (F : Nat) (rec_4 : Nat → Int32 → Int32 → Int32 → aM → Option (Int32 × aM)) (rec_25 : Nat → Int32 → Int32 → Int32 → Int32 → aM → Option (Int32 × aM)) (rec_44 : Nat → Int32 → Int32 → Int32 → Int32 → Int32 → Int32 → aM → Option (Int32 × aM)) (a0 : Nat) (x1 : Int32) (x2 : Int32) (x3 : Int32) (x4 : Int32) (x5 : Int32) (x6 : Int32) (m : aM) : Option (Int32 × aM) :=
  o_gd (inb x5 6912) <|
  o_let ((m (a0 + 1) x5.toNatClampNeg)) fun y2 =>
  (if y2 = 0 then
  b_Way_settleSet_100 F rec_4 rec_25 a0 x1 x2 x3 x4 m
  else
  (if 6 ≤ x6 then
  b_Way_settleSet_100 F rec_4 rec_25 a0 x1 x2 x3 x4 m
  else
  o_b (f_Way_nextOf a0 x4 x1 x6 m) fun y3 =>
  o_b (f_Way_holdingOf a0 x4 x6 m) fun y4 =>
  o_b2 (f_Way_learn a0 x5 y3 y4 0 m) fun y5 m6 =>
  (if y5 = 0 then
  b_Way_settleSet_94 F rec_4 rec_25 rec_44 a0 x1 x2 x3 x4 x5 x6 m6
  else
  b_Way_settleSet_94 F rec_4 rec_25 rec_44 a0 x1 1 x3 x4 x5 x6 m6
  )
  )
  )
theorem tb_Way_settleSet_44 {K : aK} {d bc bs : Nat} {g : aG} (s : Sys g) {Q : aQ} {r : Int32} {m' : aM} (F : Nat) (rec_4 : Nat → Int32 → Int32 → Int32 → aM → Option (Int32 × aM)) (hr_4 : ∀ (a0 : Nat) (s0 : ShWay g a0) (x1 : Int32) (x2 : Int32) (x3 : Int32) (m : aM), rec_4 a0 x1 x2 x3 m = some (r, m') → G K M_Way_settleSet d bc bs 4 [.ref a0, .int x1, .int x2, .int x3, .double 0, .double 0, .double 0, .double 0] [] (g, m) Q) (rec_25 : Nat → Int32 → Int32 → Int32 → Int32 → aM → Option (Int32 × aM)) (hr_25 : ∀ (a0 : Nat) (s0 : ShWay g a0) (x1 : Int32) (x2 : Int32) (x3 : Int32) (x4 : Int32) (m : aM), rec_25 a0 x1 x2 x3 x4 m = some (r, m') → G K M_Way_settleSet d bc bs 25 [.ref a0, .int x1, .int x2, .int x3, .int x4, .double 0, .double 0, .double 0] [] (g, m) Q) (rec_44 : Nat → Int32 → Int32 → Int32 → Int32 → Int32 → Int32 → aM → Option (Int32 × aM)) (hr_44 : ∀ (a0 : Nat) (s0 : ShWay g a0) (x1 : Int32) (x2 : Int32) (x3 : Int32) (x4 : Int32) (x5 : Int32) (x6 : Int32) (m : aM), rec_44 a0 x1 x2 x3 x4 x5 x6 m = some (r, m') → G K M_Way_settleSet d bc bs 44 [.ref a0, .int x1, .int x2, .int x3, .int x4, .int x5, .int x6, .double 0] [] (g, m) Q) (a0 : Nat) (s0 : ShWay g a0) (x1 : Int32) (x2 : Int32) (x3 : Int32) (x4 : Int32) (x5 : Int32) (x6 : Int32) (m : aM) (hq : Q (.inl none) (g, m')) (e : lb_Way_settleSet_44 F rec_4 rec_25 rec_44 a0 x1 x2 x3 x4 x5 x6 m = some (r, m')) (hd : 3 ≤ d) : G K M_Way_settleSet d bc bs 44 [.ref a0, .int x1, .int x2, .int x3, .int x4, .int x5, .int x6, .double 0] [] (g, m) Q := by
  unfold lb_Way_settleSet_44 at e
  refine g_aload_n k_Way_settleSet_44 rfl rfl ?_
  refine p_getr k_Way_settleSet_45 fl_Way_13 rfl (sk_Way s0) (by decide) (sr_Way_1 s0) ?_
  refine g_iload k_Way_settleSet_48 rfl ?_
  obtain ⟨q1, e⟩ := o_gd_ex e
  refine p_zald k_Way_settleSet_50 (sa_Way_1 s0) (inb_in q1) (j := x5.toNatClampNeg) rfl ?_
  obtain ⟨y2, u_y2, e⟩ := o_let_ex e
  refine G.vy u_y2 ?_
  refine g_if_eq (tgt := 100) k_Way_settleSet_51 (by decide) (fun c => ?_) (fun c => ?_)
  · rw [if_pos c] at e
    exact G.wl (wls (wls (wls (wls (wls (wld (wld (wls wl0)))))))) (t_Way_settleSet_100 s F rec_4 hr_4 rec_25 hr_25 a0 s0 x1 x2 x3 x4 m hq e hd)
  · rw [if_neg c] at e
    refine g_iload k_Way_settleSet_54 rfl ?_
    refine g_bipush (v := 6) k_Way_settleSet_56 rfl ?_
    refine g_icmp_ge (tgt := 100) k_Way_settleSet_58 (by decide) (fun c => ?_) (fun c => ?_)
    · rw [if_pos c] at e
      exact G.wl (wls (wls (wls (wls (wls (wld (wld (wls wl0)))))))) (t_Way_settleSet_100 s F rec_4 hr_4 rec_25 hr_25 a0 s0 x1 x2 x3 x4 m hq e hd)
    · rw [if_neg c] at e
      refine g_aload_n k_Way_settleSet_61 rfl rfl ?_
      refine g_iload k_Way_settleSet_62 rfl ?_
      refine g_iload_n k_Way_settleSet_64 rfl rfl ?_
      refine g_iload k_Way_settleSet_65 rfl ?_
      obtain ⟨y3, e_y3, e⟩ := o_b_ex e
      refine g_cv k_Way_settleSet_67 lv_Way_95 (by decide +kernel) (T := F_Way) (N := 9) (ci := 8) rfl (sk_Way s0) (s_Way_nextOf (bc := 0) (bs := 0) s a0 s0 x4 x1 x6 m e_y3 (by omega)) rfl rfl (Nat.le_of_ble_eq_true rfl) (by simp [Value.category]) (by omega) (by omega) (by omega) ?_
      refine g_istore k_Way_settleSet_70 (by decide) ?_
      refine g_aload_n k_Way_settleSet_72 rfl rfl ?_
      refine g_iload k_Way_settleSet_73 rfl ?_
      refine g_iload k_Way_settleSet_75 rfl ?_
      refine g_aload_n k_Way_settleSet_77 rfl rfl ?_
      refine g_iload k_Way_settleSet_78 rfl ?_
      refine g_iload k_Way_settleSet_80 rfl ?_
      obtain ⟨y4, e_y4, e⟩ := o_b_ex e
      refine g_cv k_Way_settleSet_82 lv_Way_99 (by decide +kernel) (T := F_Way) (N := 9) (ci := 8) rfl (sk_Way s0) (s_Way_holdingOf (bc := 0) (bs := 0) s a0 s0 x4 x6 m e_y4 (by omega)) rfl rfl (Nat.le_of_ble_eq_true rfl) (by simp [Value.category]) (by omega) (by omega) (by omega) ?_
      refine g_iconst (v := 0) k_Way_settleSet_85 rfl ?_
      obtain ⟨y5, m6, e_y5, e⟩ := o_b2_ex e
      refine g_cv k_Way_settleSet_86 lv_Way_85 (by decide +kernel) (T := F_Way) (N := 9) (ci := 8) rfl (sk_Way s0) (s_Way_learn (bc := 0) (bs := 0) s a0 s0 x5 y3 y4 0 m e_y5 (by omega)) rfl rfl (Nat.le_of_ble_eq_true rfl) (by simp [Value.category]) (by omega) (by omega) (by omega) ?_
      refine g_if_eq (tgt := 94) k_Way_settleSet_89 (by decide) (fun c => ?_) (fun c => ?_)
      · rw [if_pos c] at e
        exact G.wl (wls (wls (wls (wls (wls (wls (wls (wld wl0)))))))) (t_Way_settleSet_94 s F rec_4 hr_4 rec_25 hr_25 rec_44 hr_44 a0 s0 x1 x2 x3 x4 x5 x6 m6 hq e hd)
      · rw [if_neg c] at e
        refine g_iconst (v := 1) k_Way_settleSet_92 rfl ?_
        refine g_istore_n k_Way_settleSet_93 rfl (by decide) ?_
        exact G.wl (wls (wls (wls (wls (wls (wls (wls (wld wl0)))))))) (t_Way_settleSet_94 s F rec_4 hr_4 rec_25 hr_25 rec_44 hr_44 a0 s0 x1 1 x3 x4 x5 x6 m6 hq e hd)
def ll_Way_settleSet_44 (F : Nat) (rec_4 : Nat → Int32 → Int32 → Int32 → aM → Option (Int32 × aM)) (rec_25 : Nat → Int32 → Int32 → Int32 → Int32 → aM → Option (Int32 × aM)) : Nat → Nat → Int32 → Int32 → Int32 → Int32 → Int32 → Int32 → aM → Option (Int32 × aM)
  | 0, _, _, _, _, _, _, _, _ => none
  | N + 1, a0, x1, x2, x3, x4, x5, x6, m => lb_Way_settleSet_44 F rec_4 rec_25 (ll_Way_settleSet_44 F rec_4 rec_25 N) a0 x1 x2 x3 x4 x5 x6 m
theorem t_Way_settleSet_44 {K : aK} {d bc bs : Nat} {g : aG} (s : Sys g) {Q : aQ} {r : Int32} {m' : aM} (F : Nat) (rec_4 : Nat → Int32 → Int32 → Int32 → aM → Option (Int32 × aM)) (hr_4 : ∀ (a0 : Nat) (s0 : ShWay g a0) (x1 : Int32) (x2 : Int32) (x3 : Int32) (m : aM), rec_4 a0 x1 x2 x3 m = some (r, m') → G K M_Way_settleSet d bc bs 4 [.ref a0, .int x1, .int x2, .int x3, .double 0, .double 0, .double 0, .double 0] [] (g, m) Q) (rec_25 : Nat → Int32 → Int32 → Int32 → Int32 → aM → Option (Int32 × aM)) (hr_25 : ∀ (a0 : Nat) (s0 : ShWay g a0) (x1 : Int32) (x2 : Int32) (x3 : Int32) (x4 : Int32) (m : aM), rec_25 a0 x1 x2 x3 x4 m = some (r, m') → G K M_Way_settleSet d bc bs 25 [.ref a0, .int x1, .int x2, .int x3, .int x4, .double 0, .double 0, .double 0] [] (g, m) Q) : ∀ (N : Nat) (a0 : Nat) (s0 : ShWay g a0) (x1 : Int32) (x2 : Int32) (x3 : Int32) (x4 : Int32) (x5 : Int32) (x6 : Int32) (m : aM), Q (.inl none) (g, m') → ll_Way_settleSet_44 F rec_4 rec_25 N a0 x1 x2 x3 x4 x5 x6 m = some (r, m') → 3 ≤ d → G K M_Way_settleSet d bc bs 44 [.ref a0, .int x1, .int x2, .int x3, .int x4, .int x5, .int x6, .double 0] [] (g, m) Q
  | 0, _, _, _, _, _, _, _, _, _ => fun _ e => nomatch e
  | N + 1, a0, s0, x1, x2, x3, x4, x5, x6, m => fun hq e hd => tb_Way_settleSet_44 s F rec_4 hr_4 rec_25 hr_25 (ll_Way_settleSet_44 F rec_4 rec_25 N) (fun a0 s0 x1 x2 x3 x4 x5 x6 m e => t_Way_settleSet_44 s F rec_4 hr_4 rec_25 hr_25 N a0 s0 x1 x2 x3 x4 x5 x6 m hq e hd) a0 s0 x1 x2 x3 x4 x5 x6 m hq e hd
def lb_Way_settleSet_25 (F : Nat) (rec_4 : Nat → Int32 → Int32 → Int32 → aM → Option (Int32 × aM)) (rec_25 : Nat → Int32 → Int32 → Int32 → Int32 → aM → Option (Int32 × aM)) (a0 : Nat) (x1 : Int32) (x2 : Int32) (x3 : Int32) (x4 : Int32) (m : aM) : Option (Int32 × aM) :=
  (if x4 < 0 then
  rec_4 a0 x1 x2 (x3 + 1) m
  else
  ll_Way_settleSet_44 F rec_4 rec_25 F a0 x1 x2 x3 x4 ((x1 * (m a0 7)) + x4) 0 m
  )
theorem tb_Way_settleSet_25 {K : aK} {d bc bs : Nat} {g : aG} (s : Sys g) {Q : aQ} {r : Int32} {m' : aM} (F : Nat) (rec_4 : Nat → Int32 → Int32 → Int32 → aM → Option (Int32 × aM)) (hr_4 : ∀ (a0 : Nat) (s0 : ShWay g a0) (x1 : Int32) (x2 : Int32) (x3 : Int32) (m : aM), rec_4 a0 x1 x2 x3 m = some (r, m') → G K M_Way_settleSet d bc bs 4 [.ref a0, .int x1, .int x2, .int x3, .double 0, .double 0, .double 0, .double 0] [] (g, m) Q) (rec_25 : Nat → Int32 → Int32 → Int32 → Int32 → aM → Option (Int32 × aM)) (hr_25 : ∀ (a0 : Nat) (s0 : ShWay g a0) (x1 : Int32) (x2 : Int32) (x3 : Int32) (x4 : Int32) (m : aM), rec_25 a0 x1 x2 x3 x4 m = some (r, m') → G K M_Way_settleSet d bc bs 25 [.ref a0, .int x1, .int x2, .int x3, .int x4, .double 0, .double 0, .double 0] [] (g, m) Q) (a0 : Nat) (s0 : ShWay g a0) (x1 : Int32) (x2 : Int32) (x3 : Int32) (x4 : Int32) (m : aM) (hq : Q (.inl none) (g, m')) (e : lb_Way_settleSet_25 F rec_4 rec_25 a0 x1 x2 x3 x4 m = some (r, m')) (hd : 3 ≤ d) : G K M_Way_settleSet d bc bs 25 [.ref a0, .int x1, .int x2, .int x3, .int x4, .double 0, .double 0, .double 0] [] (g, m) Q := by
  unfold lb_Way_settleSet_25 at e
  refine g_iload k_Way_settleSet_25 rfl ?_
  refine g_if_lt (tgt := 106) k_Way_settleSet_27 (by decide) (fun c => ?_) (fun c => ?_)
  · rw [if_pos c] at e
    refine g_iinc (v := _ + 1) k_Way_settleSet_106 rfl rfl (by decide) ?_
    refine g_goto (tgt := 4) k_Way_settleSet_109 (by decide) ?_
    exact G.wl (wls (wls (wls (wls (wld (wls (wls (wls wl0)))))))) (hr_4 a0 s0 x1 x2 (x3 + 1) m e)
  · rw [if_neg c] at e
    refine g_iload_n k_Way_settleSet_30 rfl rfl ?_
    refine g_aload_n k_Way_settleSet_31 rfl rfl ?_
    refine p_geti k_Way_settleSet_32 fl_Way_37 rfl (sk_Way s0) (by decide) ?_
    refine g_imul k_Way_settleSet_35 ?_
    refine g_iload k_Way_settleSet_36 rfl ?_
    refine g_iadd k_Way_settleSet_38 ?_
    refine g_istore k_Way_settleSet_39 (by decide) ?_
    refine g_iconst (v := 0) k_Way_settleSet_41 rfl ?_
    refine g_istore k_Way_settleSet_42 (by decide) ?_
    exact (t_Way_settleSet_44 s F rec_4 hr_4 rec_25 hr_25 F a0 s0 x1 x2 x3 x4 ((x1 * (m a0 7)) + x4) 0 m hq e hd)
def ll_Way_settleSet_25 (F : Nat) (rec_4 : Nat → Int32 → Int32 → Int32 → aM → Option (Int32 × aM)) : Nat → Nat → Int32 → Int32 → Int32 → Int32 → aM → Option (Int32 × aM)
  | 0, _, _, _, _, _, _ => none
  | N + 1, a0, x1, x2, x3, x4, m => lb_Way_settleSet_25 F rec_4 (ll_Way_settleSet_25 F rec_4 N) a0 x1 x2 x3 x4 m
theorem t_Way_settleSet_25 {K : aK} {d bc bs : Nat} {g : aG} (s : Sys g) {Q : aQ} {r : Int32} {m' : aM} (F : Nat) (rec_4 : Nat → Int32 → Int32 → Int32 → aM → Option (Int32 × aM)) (hr_4 : ∀ (a0 : Nat) (s0 : ShWay g a0) (x1 : Int32) (x2 : Int32) (x3 : Int32) (m : aM), rec_4 a0 x1 x2 x3 m = some (r, m') → G K M_Way_settleSet d bc bs 4 [.ref a0, .int x1, .int x2, .int x3, .double 0, .double 0, .double 0, .double 0] [] (g, m) Q) : ∀ (N : Nat) (a0 : Nat) (s0 : ShWay g a0) (x1 : Int32) (x2 : Int32) (x3 : Int32) (x4 : Int32) (m : aM), Q (.inl none) (g, m') → ll_Way_settleSet_25 F rec_4 N a0 x1 x2 x3 x4 m = some (r, m') → 3 ≤ d → G K M_Way_settleSet d bc bs 25 [.ref a0, .int x1, .int x2, .int x3, .int x4, .double 0, .double 0, .double 0] [] (g, m) Q
  | 0, _, _, _, _, _, _, _ => fun _ e => nomatch e
  | N + 1, a0, s0, x1, x2, x3, x4, m => fun hq e hd => tb_Way_settleSet_25 s F rec_4 hr_4 (ll_Way_settleSet_25 F rec_4 N) (fun a0 s0 x1 x2 x3 x4 m e => t_Way_settleSet_25 s F rec_4 hr_4 N a0 s0 x1 x2 x3 x4 m hq e hd) a0 s0 x1 x2 x3 x4 m hq e hd
def lb_Way_settleSet_4 (F : Nat) (rec_4 : Nat → Int32 → Int32 → Int32 → aM → Option (Int32 × aM)) (a0 : Nat) (x1 : Int32) (x2 : Int32) (x3 : Int32) (m : aM) : Option (Int32 × aM) :=
  (if x2 = 0 then
  some (0, m)
  else
  (if 432 < x3 then
  some (0, m)
  else
  ll_Way_settleSet_25 F rec_4 F a0 x1 0 x3 ((m a0 7) - 1) m
  )
  )
theorem tb_Way_settleSet_4 {K : aK} {d bc bs : Nat} {g : aG} (s : Sys g) {Q : aQ} {r : Int32} {m' : aM} (F : Nat) (rec_4 : Nat → Int32 → Int32 → Int32 → aM → Option (Int32 × aM)) (hr_4 : ∀ (a0 : Nat) (s0 : ShWay g a0) (x1 : Int32) (x2 : Int32) (x3 : Int32) (m : aM), rec_4 a0 x1 x2 x3 m = some (r, m') → G K M_Way_settleSet d bc bs 4 [.ref a0, .int x1, .int x2, .int x3, .double 0, .double 0, .double 0, .double 0] [] (g, m) Q) (a0 : Nat) (s0 : ShWay g a0) (x1 : Int32) (x2 : Int32) (x3 : Int32) (m : aM) (hq : Q (.inl none) (g, m')) (e : lb_Way_settleSet_4 F rec_4 a0 x1 x2 x3 m = some (r, m')) (hd : 3 ≤ d) : G K M_Way_settleSet d bc bs 4 [.ref a0, .int x1, .int x2, .int x3, .double 0, .double 0, .double 0, .double 0] [] (g, m) Q := by
  unfold lb_Way_settleSet_4 at e
  refine g_iload_n k_Way_settleSet_4 rfl rfl ?_
  refine g_if_eq (tgt := 112) k_Way_settleSet_5 (by decide) (fun c => ?_) (fun c => ?_)
  · rw [if_pos c] at e
    refine g_vret k_Way_settleSet_112 rfl ?_
    exact (by cases e; exact hq)
  · rw [if_neg c] at e
    refine g_iload_n k_Way_settleSet_8 rfl rfl ?_
    refine g_sipush (v := 432) k_Way_settleSet_9 rfl ?_
    refine g_icmp_gt (tgt := 112) k_Way_settleSet_12 (by decide) (fun c => ?_) (fun c => ?_)
    · rw [if_pos c] at e
      refine g_vret k_Way_settleSet_112 rfl ?_
      exact (by cases e; exact hq)
    · rw [if_neg c] at e
      refine g_iconst (v := 0) k_Way_settleSet_15 rfl ?_
      refine g_istore_n k_Way_settleSet_16 rfl (by decide) ?_
      refine g_aload_n k_Way_settleSet_17 rfl rfl ?_
      refine p_geti k_Way_settleSet_18 fl_Way_37 rfl (sk_Way s0) (by decide) ?_
      refine g_iconst (v := 1) k_Way_settleSet_21 rfl ?_
      refine g_isub k_Way_settleSet_22 ?_
      refine g_istore k_Way_settleSet_23 (by decide) ?_
      exact (t_Way_settleSet_25 s F rec_4 hr_4 F a0 s0 x1 0 x3 ((m a0 7) - 1) m hq e hd)
def ll_Way_settleSet_4 (F : Nat) : Nat → Nat → Int32 → Int32 → Int32 → aM → Option (Int32 × aM)
  | 0, _, _, _, _, _ => none
  | N + 1, a0, x1, x2, x3, m => lb_Way_settleSet_4 F (ll_Way_settleSet_4 F N) a0 x1 x2 x3 m
theorem t_Way_settleSet_4 {K : aK} {d bc bs : Nat} {g : aG} (s : Sys g) {Q : aQ} {r : Int32} {m' : aM} (F : Nat) : ∀ (N : Nat) (a0 : Nat) (s0 : ShWay g a0) (x1 : Int32) (x2 : Int32) (x3 : Int32) (m : aM), Q (.inl none) (g, m') → ll_Way_settleSet_4 F N a0 x1 x2 x3 m = some (r, m') → 3 ≤ d → G K M_Way_settleSet d bc bs 4 [.ref a0, .int x1, .int x2, .int x3, .double 0, .double 0, .double 0, .double 0] [] (g, m) Q
  | 0, _, _, _, _, _, _ => fun _ e => nomatch e
  | N + 1, a0, s0, x1, x2, x3, m => fun hq e hd => tb_Way_settleSet_4 s F (ll_Way_settleSet_4 F N) (fun a0 s0 x1 x2 x3 m e => t_Way_settleSet_4 s F N a0 s0 x1 x2 x3 m hq e hd) a0 s0 x1 x2 x3 m hq e hd
def f_Way_settleSet (F : Nat) (a0 : Nat) (x1 : Int32) (m : aM) : Option (Int32 × aM) :=
  ll_Way_settleSet_4 F F a0 x1 1 0 m
theorem s_Way_settleSet {K : aK} {d bc bs : Nat} {g : aG} (s : Sys g) (F : Nat) (a0 : Nat) (s0 : ShWay g a0) (x1 : Int32) (m : aM) {r : Int32} {m' : aM} (e : f_Way_settleSet F a0 x1 m = some (r, m')) (hd : 3 ≤ d) : Sp K M_Way_settleSet d bc bs [.ref a0, .int x1] (g, m) none (g, m') := by
  refine sp_of ok_Way_settleSet rfl (Nat.le_of_ble_eq_true rfl) (by simp [Value.category]) (fun Q hq => ?_)
  unfold f_Way_settleSet at e
  refine g_iconst (v := 1) k_Way_settleSet_0 rfl ?_
  refine g_istore_n k_Way_settleSet_1 rfl (by decide) ?_
  refine g_iconst (v := 0) k_Way_settleSet_2 rfl ?_
  refine g_istore_n k_Way_settleSet_3 rfl (by decide) ?_
  exact (t_Way_settleSet_4 s F F a0 s0 x1 1 0 m hq e hd)
def lb_Way_workIfStale_88 (F : Nat) (rec_88 : Nat → Int32 → aM → Option (Int32 × aM)) (a0 : Nat) (x1 : Int32) (m : aM) : Option (Int32 × aM) :=
  (if x1 < 0 then
  some (0, m)
  else
  o_b2 (f_Way_beginSet F a0 x1 m) fun y1 m2 =>
  o_b2 (f_Way_settleSet F a0 x1 m2) fun y3 m4 =>
  rec_88 a0 (x1 - 1) m4
  )
theorem tb_Way_workIfStale_88 {K : aK} {d bc bs : Nat} {g : aG} (s : Sys g) {Q : aQ} {r : Int32} {m' : aM} (F : Nat) (rec_88 : Nat → Int32 → aM → Option (Int32 × aM)) (hr_88 : ∀ (a0 : Nat) (s0 : ShWay g a0) (x1 : Int32) (m : aM), rec_88 a0 x1 m = some (r, m') → G K M_Way_workIfStale d bc bs 88 [.ref a0, .int x1] [] (g, m) Q) (a0 : Nat) (s0 : ShWay g a0) (x1 : Int32) (m : aM) (hq : Q (.inl none) (g, m')) (e : lb_Way_workIfStale_88 F rec_88 a0 x1 m = some (r, m')) (hd : 4 ≤ d) : G K M_Way_workIfStale d bc bs 88 [.ref a0, .int x1] [] (g, m) Q := by
  unfold lb_Way_workIfStale_88 at e
  refine g_iload_n k_Way_workIfStale_88 rfl rfl ?_
  refine g_if_lt (tgt := 108) k_Way_workIfStale_89 (by decide) (fun c => ?_) (fun c => ?_)
  · rw [if_pos c] at e
    refine g_vret k_Way_workIfStale_108 rfl ?_
    exact (by cases e; exact hq)
  · rw [if_neg c] at e
    refine g_aload_n k_Way_workIfStale_92 rfl rfl ?_
    refine g_iload_n k_Way_workIfStale_93 rfl rfl ?_
    obtain ⟨y1, m2, e_y1, e⟩ := o_b2_ex e
    refine g_cv k_Way_workIfStale_94 lv_Way_64 (by decide +kernel) (T := F_Way) (N := 9) (ci := 8) rfl (sk_Way s0) (s_Way_beginSet (bc := 0) (bs := 0) s F a0 s0 x1 m e_y1 (by omega)) rfl rfl (Nat.le_of_ble_eq_true rfl) (by simp [Value.category]) (by omega) (by omega) (by omega) ?_
    refine g_aload_n k_Way_workIfStale_97 rfl rfl ?_
    refine g_iload_n k_Way_workIfStale_98 rfl rfl ?_
    obtain ⟨y3, m4, e_y3, e⟩ := o_b2_ex e
    refine g_cv k_Way_workIfStale_99 lv_Way_68 (by decide +kernel) (T := F_Way) (N := 9) (ci := 8) rfl (sk_Way s0) (s_Way_settleSet (bc := 0) (bs := 0) s F a0 s0 x1 m2 e_y3 (by omega)) rfl rfl (Nat.le_of_ble_eq_true rfl) (by simp [Value.category]) (by omega) (by omega) (by omega) ?_
    refine g_iinc k_Way_workIfStale_102 rfl (i_m1 _) (by decide) ?_
    refine g_goto (tgt := 88) k_Way_workIfStale_105 (by decide) ?_
    exact (hr_88 a0 s0 (x1 - 1) m4 e)
def ll_Way_workIfStale_88 (F : Nat) : Nat → Nat → Int32 → aM → Option (Int32 × aM)
  | 0, _, _, _ => none
  | N + 1, a0, x1, m => lb_Way_workIfStale_88 F (ll_Way_workIfStale_88 F N) a0 x1 m
theorem t_Way_workIfStale_88 {K : aK} {d bc bs : Nat} {g : aG} (s : Sys g) {Q : aQ} {r : Int32} {m' : aM} (F : Nat) : ∀ (N : Nat) (a0 : Nat) (s0 : ShWay g a0) (x1 : Int32) (m : aM), Q (.inl none) (g, m') → ll_Way_workIfStale_88 F N a0 x1 m = some (r, m') → 4 ≤ d → G K M_Way_workIfStale d bc bs 88 [.ref a0, .int x1] [] (g, m) Q
  | 0, _, _, _, _ => fun _ e => nomatch e
  | N + 1, a0, s0, x1, m => fun hq e hd => tb_Way_workIfStale_88 s F (ll_Way_workIfStale_88 F N) (fun a0 s0 x1 m e => t_Way_workIfStale_88 s F N a0 s0 x1 m hq e hd) a0 s0 x1 m hq e hd
def lb_Way_workIfStale_45 (F : Nat) (rec_45 : Nat → Int32 → aM → Option (Int32 × aM)) (a0 : Nat) (x1 : Int32) (m : aM) : Option (Int32 × aM) :=
  (if (m a0 7) ≤ x1 then
  o_b (f_Pla_manySets  m) fun y1 =>
  o_let (((if 32 < y1 then 32 else y1) - 1)) fun y2 =>
  ll_Way_workIfStale_88 F F a0 y2 m
  else
  o_b (f_Pla_keepsPairs F x1 m) fun y3 =>
  o_gd (inb x1 216) <|
  o_gd (isb y3) <|
  o_let (a_st m (a0 + 5) x1.toNatClampNeg y3) fun m6 =>
  rec_45 a0 (x1 + 1) m6
  )
theorem tb_Way_workIfStale_45 {K : aK} {d bc bs : Nat} {g : aG} (s : Sys g) {Q : aQ} {r : Int32} {m' : aM} (F : Nat) (rec_45 : Nat → Int32 → aM → Option (Int32 × aM)) (hr_45 : ∀ (a0 : Nat) (s0 : ShWay g a0) (x1 : Int32) (m : aM), rec_45 a0 x1 m = some (r, m') → G K M_Way_workIfStale d bc bs 45 [.ref a0, .int x1] [] (g, m) Q) (a0 : Nat) (s0 : ShWay g a0) (x1 : Int32) (m : aM) (hq : Q (.inl none) (g, m')) (e : lb_Way_workIfStale_45 F rec_45 a0 x1 m = some (r, m')) (hd : 4 ≤ d) : G K M_Way_workIfStale d bc bs 45 [.ref a0, .int x1] [] (g, m) Q := by
  unfold lb_Way_workIfStale_45 at e
  refine g_iload_n k_Way_workIfStale_45 rfl rfl ?_
  refine g_aload_n k_Way_workIfStale_46 rfl rfl ?_
  refine p_geti k_Way_workIfStale_47 fl_Way_37 rfl (sk_Way s0) (by decide) ?_
  refine g_icmp_ge (tgt := 73) k_Way_workIfStale_50 (by decide) (fun c => ?_) (fun c => ?_)
  · rw [if_pos c] at e
    refine g_aload_n k_Way_workIfStale_73 rfl rfl ?_
    refine p_getr k_Way_workIfStale_74 fl_Way_33 rfl (sk_Way s0) (by decide) (sp_Way_0 s0) ?_
    obtain ⟨y1, e_y1, e⟩ := o_b_ex e
    refine g_cv k_Way_workIfStale_77 lv_Way_61 (by decide +kernel) (T := F_Pla) (N := 8) (ci := 4) rfl (sk_Pla (sy_Pla s)) (s_Pla_manySets (bc := 0) (bs := 0) s  m e_y1) rfl rfl (Nat.le_of_ble_eq_true rfl) (by simp [Value.category]) (by omega) (by omega) (by omega) ?_
    refine g_bipush (v := 32) k_Way_workIfStale_80 rfl ?_
    refine g_mn k_Way_workIfStale_82 mw_Way_51 (Nat.le_of_ble_eq_true rfl) (by omega) ?_
    refine g_iconst (v := 1) k_Way_workIfStale_85 rfl ?_
    refine g_isub k_Way_workIfStale_86 ?_
    obtain ⟨y2, u_y2, e⟩ := o_let_ex e
    refine G.vy u_y2 ?_
    refine g_istore_n k_Way_workIfStale_87 rfl (by decide) ?_
    exact (t_Way_workIfStale_88 s F F a0 s0 y2 m hq e hd)
  · rw [if_neg c] at e
    refine g_aload_n k_Way_workIfStale_53 rfl rfl ?_
    refine p_getr k_Way_workIfStale_54 fl_Way_27 rfl (sk_Way s0) (by decide) (sr_Way_5 s0) ?_
    refine g_iload_n k_Way_workIfStale_57 rfl rfl ?_
    refine g_aload_n k_Way_workIfStale_58 rfl rfl ?_
    refine p_getr k_Way_workIfStale_59 fl_Way_33 rfl (sk_Way s0) (by decide) (sp_Way_0 s0) ?_
    refine g_iload_n k_Way_workIfStale_62 rfl rfl ?_
    obtain ⟨y3, e_y3, e⟩ := o_b_ex e
    refine g_cv k_Way_workIfStale_63 lv_Way_57 (by decide +kernel) (T := F_Pla) (N := 8) (ci := 4) rfl (sk_Pla (sy_Pla s)) (s_Pla_keepsPairs (bc := 0) (bs := 0) s F x1 m e_y3 (by omega)) rfl rfl (Nat.le_of_ble_eq_true rfl) (by simp [Value.category]) (by omega) (by omega) (by omega) ?_
    obtain ⟨q4, e⟩ := o_gd_ex e
    obtain ⟨q5, e⟩ := o_gd_ex e
    refine p_zast k_Way_workIfStale_66 (sa_Way_5 s0) (inb_in q4) (j := x1.toNatClampNeg) rfl (isb_or q5) ?_
    obtain ⟨m6, u_m6, e⟩ := o_let_ex e
    refine G.hm u_m6 ?_
    refine g_iinc (v := _ + 1) k_Way_workIfStale_67 rfl rfl (by decide) ?_
    refine g_goto (tgt := 45) k_Way_workIfStale_70 (by decide) ?_
    exact (hr_45 a0 s0 (x1 + 1) m6 e)
def ll_Way_workIfStale_45 (F : Nat) : Nat → Nat → Int32 → aM → Option (Int32 × aM)
  | 0, _, _, _ => none
  | N + 1, a0, x1, m => lb_Way_workIfStale_45 F (ll_Way_workIfStale_45 F N) a0 x1 m
theorem t_Way_workIfStale_45 {K : aK} {d bc bs : Nat} {g : aG} (s : Sys g) {Q : aQ} {r : Int32} {m' : aM} (F : Nat) : ∀ (N : Nat) (a0 : Nat) (s0 : ShWay g a0) (x1 : Int32) (m : aM), Q (.inl none) (g, m') → ll_Way_workIfStale_45 F N a0 x1 m = some (r, m') → 4 ≤ d → G K M_Way_workIfStale d bc bs 45 [.ref a0, .int x1] [] (g, m) Q
  | 0, _, _, _, _ => fun _ e => nomatch e
  | N + 1, a0, s0, x1, m => fun hq e hd => tb_Way_workIfStale_45 s F (ll_Way_workIfStale_45 F N) (fun a0 s0 x1 m e => t_Way_workIfStale_45 s F N a0 s0 x1 m hq e hd) a0 s0 x1 m hq e hd
def f_Way_workIfStale (F : Nat) (a0 : Nat) (m : aM) : Option (Int32 × aM) :=
  (if (m a0 8) = (m 29 7) then
  some (0, m)
  else
  o_let (a_st m a0 8 (m 29 7)) fun m1 =>
  o_b (f_Pla_manyNodes  m1) fun y2 =>
  o_let ((if 216 < y2 then 216 else y2)) fun y3 =>
  o_let (a_st m1 a0 7 y3) fun m4 =>
  ll_Way_workIfStale_45 F F a0 0 m4
  )
theorem s_Way_workIfStale {K : aK} {d bc bs : Nat} {g : aG} (s : Sys g) (F : Nat) (a0 : Nat) (s0 : ShWay g a0) (m : aM) {r : Int32} {m' : aM} (e : f_Way_workIfStale F a0 m = some (r, m')) (hd : 4 ≤ d) : Sp K M_Way_workIfStale d bc bs [.ref a0] (g, m) none (g, m') := by
  refine sp_of ok_Way_workIfStale rfl (Nat.le_of_ble_eq_true rfl) (by simp [Value.category]) (fun Q hq => ?_)
  unfold f_Way_workIfStale at e
  refine g_aload_n k_Way_workIfStale_0 rfl rfl ?_
  refine p_geti k_Way_workIfStale_1 fl_Way_41 rfl (sk_Way s0) (by decide) ?_
  refine g_aload_n k_Way_workIfStale_4 rfl rfl ?_
  refine p_getr k_Way_workIfStale_5 fl_Way_33 rfl (sk_Way s0) (by decide) (sp_Way_0 s0) ?_
  refine p_geti k_Way_workIfStale_8 fl_Way_44 rfl (sk_Pla (sy_Pla s)) (by decide) ?_
  refine g_icmp_ne (tgt := 15) k_Way_workIfStale_11 (by decide) (fun c => ?_) (fun c => ?_)
  · rw [if_pos c] at e
    refine g_vret k_Way_workIfStale_14 rfl ?_
    exact (by cases e; exact hq)
  · rw [if_neg c] at e
    refine g_aload_n k_Way_workIfStale_15 rfl rfl ?_
    refine g_aload_n k_Way_workIfStale_16 rfl rfl ?_
    refine p_getr k_Way_workIfStale_17 fl_Way_33 rfl (sk_Way s0) (by decide) (sp_Way_0 s0) ?_
    refine p_geti k_Way_workIfStale_20 fl_Way_44 rfl (sk_Pla (sy_Pla s)) (by decide) ?_
    refine p_puti k_Way_workIfStale_23 fl_Way_41 rfl ⟨R_Way, F_Way, 9, rfl, Or.inl rfl⟩ (sk_Way s0) (by decide) ?_
    obtain ⟨m1, u_m1, e⟩ := o_let_ex e
    refine G.hm u_m1 ?_
    refine g_aload_n k_Way_workIfStale_26 rfl rfl ?_
    refine g_aload_n k_Way_workIfStale_27 rfl rfl ?_
    refine p_getr k_Way_workIfStale_28 fl_Way_33 rfl (sk_Way s0) (by decide) (sp_Way_0 s0) ?_
    obtain ⟨y2, e_y2, e⟩ := o_b_ex e
    refine g_cv k_Way_workIfStale_31 lv_Way_47 (by decide +kernel) (T := F_Pla) (N := 8) (ci := 4) rfl (sk_Pla (sy_Pla s)) (s_Pla_manyNodes (bc := 0) (bs := 0) s  m1 e_y2 (by omega)) rfl rfl (Nat.le_of_ble_eq_true rfl) (by simp [Value.category]) (by omega) (by omega) (by omega) ?_
    refine g_sipush (v := 216) k_Way_workIfStale_34 rfl ?_
    refine g_mn k_Way_workIfStale_37 mw_Way_51 (Nat.le_of_ble_eq_true rfl) (by omega) ?_
    obtain ⟨y3, u_y3, e⟩ := o_let_ex e
    refine G.vy u_y3 ?_
    refine p_puti k_Way_workIfStale_40 fl_Way_37 rfl ⟨R_Way, F_Way, 9, rfl, Or.inl rfl⟩ (sk_Way s0) (by decide) ?_
    obtain ⟨m4, u_m4, e⟩ := o_let_ex e
    refine G.hm u_m4 ?_
    refine g_iconst (v := 0) k_Way_workIfStale_43 rfl ?_
    refine g_istore_n k_Way_workIfStale_44 rfl (by decide) ?_
    exact (t_Way_workIfStale_45 s F F a0 s0 0 m4 hq e hd)
def f_Way_placeOf (a0 : Nat) (x1 : Int32) (x2 : Int32) (m : aM) : Option Int32 :=
  o_b (f_Way_isPlace ((x2 * (m a0 7)) + x1) m) fun y1 =>
  (if y1 = 0 then
  some 0
  else
  some ((x2 * (m a0 7)) + x1)
  )
theorem s_Way_placeOf {K : aK} {d bc bs : Nat} {g : aG} (s : Sys g) (a0 : Nat) (s0 : ShWay g a0) (x1 : Int32) (x2 : Int32) (m : aM) {r : Int32} (e : f_Way_placeOf a0 x1 x2 m = some r) (hd : 1 ≤ d) : Sp K M_Way_placeOf d bc bs [.ref a0, .int x1, .int x2] (g, m) (some (.int r)) (g, m) := by
  refine sp_of ok_Way_placeOf rfl (Nat.le_of_ble_eq_true rfl) (by simp [Value.category]) (fun Q hq => ?_)
  unfold f_Way_placeOf at e
  refine g_iload_n k_Way_placeOf_0 rfl rfl ?_
  refine g_aload_n k_Way_placeOf_1 rfl rfl ?_
  refine p_geti k_Way_placeOf_2 fl_Way_37 rfl (sk_Way s0) (by decide) ?_
  refine g_imul k_Way_placeOf_5 ?_
  refine g_iload_n k_Way_placeOf_6 rfl rfl ?_
  refine g_iadd k_Way_placeOf_7 ?_
  refine g_istore_n k_Way_placeOf_8 rfl (by decide) ?_
  refine g_iload_n k_Way_placeOf_9 rfl rfl ?_
  obtain ⟨y1, e_y1, e⟩ := o_b_ex e
  refine g_cs k_Way_placeOf_10 ls_Way_102 (by decide +kernel) (s_Way_isPlace (bc := 0) (bs := 0) s ((x2 * (m a0 7)) + x1) m e_y1) rfl rfl (Nat.le_of_ble_eq_true rfl) (by simp [Value.category]) (by omega) (by omega) (by omega) ?_
  refine g_if_eq (tgt := 20) k_Way_placeOf_13 (by decide) (fun c => ?_) (fun c => ?_)
  · rw [if_pos c] at e
    refine g_iconst (v := 0) k_Way_placeOf_20 rfl ?_
    refine g_iret k_Way_placeOf_21 rfl ?_
    exact (by cases e; exact hq)
  · rw [if_neg c] at e
    refine g_iload_n k_Way_placeOf_16 rfl rfl ?_
    refine g_goto (tgt := 21) k_Way_placeOf_17 (by decide) ?_
    refine g_iret k_Way_placeOf_21 rfl ?_
    exact (by cases e; exact hq)
def b_Way_bestStep_102 (F : Nat) (rec_25 : Nat → Int32 → Int32 → Int32 → Int32 → aM → Option Int32) (a0 : Nat) (x1 : Int32) (x2 : Int32) (x3 : Int32) (x4 : Int32) (m : aM) : Option Int32 :=
  rec_25 a0 x1 x2 x3 (x4 + 1) m
theorem t_Way_bestStep_102 {K : aK} {d bc bs : Nat} {g : aG} (s : Sys g) {Q : aQ} {r : Int32} (F : Nat) (m : aM) (rec_25 : Nat → Int32 → Int32 → Int32 → Int32 → aM → Option Int32) (hr_25 : ∀ (a0 : Nat) (s0 : ShWay g a0) (x1 : Int32) (x2 : Int32) (x3 : Int32) (x4 : Int32), rec_25 a0 x1 x2 x3 x4 m = some r → G K M_Way_bestStep d bc bs 25 [.ref a0, .int x1, .int x2, .int x3, .int x4, .double 0] [] (g, m) Q) (a0 : Nat) (s0 : ShWay g a0) (x1 : Int32) (x2 : Int32) (x3 : Int32) (x4 : Int32) (hq : Q (.inl (some (.int r))) (g, m)) (e : b_Way_bestStep_102 F rec_25 a0 x1 x2 x3 x4 m = some r) (hd : 3 ≤ d) : G K M_Way_bestStep d bc bs 102 [.ref a0, .int x1, .int x2, .int x3, .int x4, .double 0] [] (g, m) Q := by
  unfold b_Way_bestStep_102 at e
  refine g_iinc (v := _ + 1) k_Way_bestStep_102 rfl rfl (by decide) ?_
  refine g_goto (tgt := 25) k_Way_bestStep_105 (by decide) ?_
  exact (hr_25 a0 s0 x1 x2 x3 (x4 + 1)  e)
def lb_Way_bestStep_25 (F : Nat) (rec_25 : Nat → Int32 → Int32 → Int32 → Int32 → aM → Option Int32) (a0 : Nat) (x1 : Int32) (x2 : Int32) (x3 : Int32) (x4 : Int32) (m : aM) : Option Int32 :=
  o_b (f_Way_isPlace x1 m) fun y1 =>
  (if y1 = 0 then
  some (-1)
  else
  (if 11 ≤ x4 then
  some (-1)
  else
  o_b (f_Way_nextOf a0 x2 x3 x4 m) fun y2 =>
  o_b (f_Way_isPlace y2 m) fun y3 =>
  (if y3 = 0 then
  b_Way_bestStep_102 F rec_25 a0 x1 x2 x3 x4 m
  else
  o_gd (inb y2 6912) <|
  o_let ((m (a0 + 2) y2.toNatClampNeg)) fun y5 =>
  (if y5 = 2147483647 then
  b_Way_bestStep_102 F rec_25 a0 x1 x2 x3 x4 m
  else
  o_gd (inb y2 6912) <|
  o_let ((m (a0 + 2) y2.toNatClampNeg)) fun y7 =>
  o_b (f_Way_holdingOf a0 x2 x4 m) fun y8 =>
  o_gd (inb x1 6912) <|
  o_let ((m (a0 + 2) x1.toNatClampNeg)) fun y10 =>
  (if ((y7 + (y8 * 2048)) + 1) = y10 then
  some x4
  else
  b_Way_bestStep_102 F rec_25 a0 x1 x2 x3 x4 m
  )
  )
  )
  )
  )
theorem tb_Way_bestStep_25 {K : aK} {d bc bs : Nat} {g : aG} (s : Sys g) {Q : aQ} {r : Int32} (F : Nat) (m : aM) (rec_25 : Nat → Int32 → Int32 → Int32 → Int32 → aM → Option Int32) (hr_25 : ∀ (a0 : Nat) (s0 : ShWay g a0) (x1 : Int32) (x2 : Int32) (x3 : Int32) (x4 : Int32), rec_25 a0 x1 x2 x3 x4 m = some r → G K M_Way_bestStep d bc bs 25 [.ref a0, .int x1, .int x2, .int x3, .int x4, .double 0] [] (g, m) Q) (a0 : Nat) (s0 : ShWay g a0) (x1 : Int32) (x2 : Int32) (x3 : Int32) (x4 : Int32) (hq : Q (.inl (some (.int r))) (g, m)) (e : lb_Way_bestStep_25 F rec_25 a0 x1 x2 x3 x4 m = some r) (hd : 3 ≤ d) : G K M_Way_bestStep d bc bs 25 [.ref a0, .int x1, .int x2, .int x3, .int x4, .double 0] [] (g, m) Q := by
  unfold lb_Way_bestStep_25 at e
  refine g_iload_n k_Way_bestStep_25 rfl rfl ?_
  obtain ⟨y1, e_y1, e⟩ := o_b_ex e
  refine g_cs k_Way_bestStep_26 ls_Way_102 (by decide +kernel) (s_Way_isPlace (bc := 0) (bs := 0) s x1 m e_y1) rfl rfl (Nat.le_of_ble_eq_true rfl) (by simp [Value.category]) (by omega) (by omega) (by omega) ?_
  refine g_if_eq (tgt := 108) k_Way_bestStep_29 (by decide) (fun c => ?_) (fun c => ?_)
  · rw [if_pos c] at e
    refine g_iconst (v := (-1)) k_Way_bestStep_108 rfl ?_
    refine g_iret k_Way_bestStep_109 rfl ?_
    exact (by cases e; exact hq)
  · rw [if_neg c] at e
    refine g_iload k_Way_bestStep_32 rfl ?_
    refine g_bipush (v := 11) k_Way_bestStep_34 rfl ?_
    refine g_icmp_ge (tgt := 108) k_Way_bestStep_36 (by decide) (fun c => ?_) (fun c => ?_)
    · rw [if_pos c] at e
      refine g_iconst (v := (-1)) k_Way_bestStep_108 rfl ?_
      refine g_iret k_Way_bestStep_109 rfl ?_
      exact (by cases e; exact hq)
    · rw [if_neg c] at e
      refine g_aload_n k_Way_bestStep_39 rfl rfl ?_
      refine g_iload_n k_Way_bestStep_40 rfl rfl ?_
      refine g_iload_n k_Way_bestStep_41 rfl rfl ?_
      refine g_iload k_Way_bestStep_42 rfl ?_
      obtain ⟨y2, e_y2, e⟩ := o_b_ex e
      refine g_cv k_Way_bestStep_44 lv_Way_95 (by decide +kernel) (T := F_Way) (N := 9) (ci := 8) rfl (sk_Way s0) (s_Way_nextOf (bc := 0) (bs := 0) s a0 s0 x2 x3 x4 m e_y2 (by omega)) rfl rfl (Nat.le_of_ble_eq_true rfl) (by simp [Value.category]) (by omega) (by omega) (by omega) ?_
      refine g_istore k_Way_bestStep_47 (by decide) ?_
      refine g_iload k_Way_bestStep_49 rfl ?_
      obtain ⟨y3, e_y3, e⟩ := o_b_ex e
      refine g_cs k_Way_bestStep_51 ls_Way_102 (by decide +kernel) (s_Way_isPlace (bc := 0) (bs := 0) s y2 m e_y3) rfl rfl (Nat.le_of_ble_eq_true rfl) (by simp [Value.category]) (by omega) (by omega) (by omega) ?_
      refine g_if_eq (tgt := 102) k_Way_bestStep_54 (by decide) (fun c => ?_) (fun c => ?_)
      · rw [if_pos c] at e
        exact G.wl (wls (wls (wls (wls (wls (wld wl0)))))) (t_Way_bestStep_102 s F m rec_25 hr_25 a0 s0 x1 x2 x3 x4  hq e hd)
      · rw [if_neg c] at e
        refine g_aload_n k_Way_bestStep_57 rfl rfl ?_
        refine p_getr k_Way_bestStep_58 fl_Way_17 rfl (sk_Way s0) (by decide) (sr_Way_2 s0) ?_
        refine g_iload k_Way_bestStep_61 rfl ?_
        obtain ⟨q4, e⟩ := o_gd_ex e
        refine p_iald k_Way_bestStep_63 (sa_Way_2 s0) (inb_in q4) (j := y2.toNatClampNeg) rfl ?_
        obtain ⟨y5, u_y5, e⟩ := o_let_ex e
        refine G.vy u_y5 ?_
        refine g_ldc k_Way_bestStep_64 kc_Way_77 ?_
        refine g_icmp_eq (tgt := 102) k_Way_bestStep_66 (by decide) (fun c => ?_) (fun c => ?_)
        · rw [if_pos c] at e
          exact G.wl (wls (wls (wls (wls (wls (wld wl0)))))) (t_Way_bestStep_102 s F m rec_25 hr_25 a0 s0 x1 x2 x3 x4  hq e hd)
        · rw [if_neg c] at e
          refine g_aload_n k_Way_bestStep_69 rfl rfl ?_
          refine p_getr k_Way_bestStep_70 fl_Way_17 rfl (sk_Way s0) (by decide) (sr_Way_2 s0) ?_
          refine g_iload k_Way_bestStep_73 rfl ?_
          obtain ⟨q6, e⟩ := o_gd_ex e
          refine p_iald k_Way_bestStep_75 (sa_Way_2 s0) (inb_in q6) (j := y2.toNatClampNeg) rfl ?_
          obtain ⟨y7, u_y7, e⟩ := o_let_ex e
          refine G.vy u_y7 ?_
          refine g_aload_n k_Way_bestStep_76 rfl rfl ?_
          refine g_iload_n k_Way_bestStep_77 rfl rfl ?_
          refine g_iload k_Way_bestStep_78 rfl ?_
          obtain ⟨y8, e_y8, e⟩ := o_b_ex e
          refine g_cv k_Way_bestStep_80 lv_Way_99 (by decide +kernel) (T := F_Way) (N := 9) (ci := 8) rfl (sk_Way s0) (s_Way_holdingOf (bc := 0) (bs := 0) s a0 s0 x2 x4 m e_y8 (by omega)) rfl rfl (Nat.le_of_ble_eq_true rfl) (by simp [Value.category]) (by omega) (by omega) (by omega) ?_
          refine g_sipush (v := 2048) k_Way_bestStep_83 rfl ?_
          refine g_imul k_Way_bestStep_86 ?_
          refine g_iadd k_Way_bestStep_87 ?_
          refine g_iconst (v := 1) k_Way_bestStep_88 rfl ?_
          refine g_iadd k_Way_bestStep_89 ?_
          refine g_aload_n k_Way_bestStep_90 rfl rfl ?_
          refine p_getr k_Way_bestStep_91 fl_Way_17 rfl (sk_Way s0) (by decide) (sr_Way_2 s0) ?_
          refine g_iload_n k_Way_bestStep_94 rfl rfl ?_
          obtain ⟨q9, e⟩ := o_gd_ex e
          refine p_iald k_Way_bestStep_95 (sa_Way_2 s0) (inb_in q9) (j := x1.toNatClampNeg) rfl ?_
          obtain ⟨y10, u_y10, e⟩ := o_let_ex e
          refine G.vy u_y10 ?_
          refine g_icmp_ne (tgt := 102) k_Way_bestStep_96 (by decide) (fun c => ?_) (fun c => ?_)
          · rw [if_pos c] at e
            refine g_iload k_Way_bestStep_99 rfl ?_
            refine g_iret k_Way_bestStep_101 rfl ?_
            exact (by cases e; exact hq)
          · rw [if_neg c] at e
            exact G.wl (wls (wls (wls (wls (wls (wld wl0)))))) (t_Way_bestStep_102 s F m rec_25 hr_25 a0 s0 x1 x2 x3 x4  hq e hd)
def ll_Way_bestStep_25 (F : Nat) : Nat → Nat → Int32 → Int32 → Int32 → Int32 → aM → Option Int32
  | 0, _, _, _, _, _, _ => none
  | N + 1, a0, x1, x2, x3, x4, m => lb_Way_bestStep_25 F (ll_Way_bestStep_25 F N) a0 x1 x2 x3 x4 m
theorem t_Way_bestStep_25 {K : aK} {d bc bs : Nat} {g : aG} (s : Sys g) {Q : aQ} {r : Int32} (F : Nat) (m : aM) : ∀ (N : Nat) (a0 : Nat) (s0 : ShWay g a0) (x1 : Int32) (x2 : Int32) (x3 : Int32) (x4 : Int32), Q (.inl (some (.int r))) (g, m) → ll_Way_bestStep_25 F N a0 x1 x2 x3 x4 m = some r → 3 ≤ d → G K M_Way_bestStep d bc bs 25 [.ref a0, .int x1, .int x2, .int x3, .int x4, .double 0] [] (g, m) Q
  | 0, _, _, _, _, _, _ => fun _ e => nomatch e
  | N + 1, a0, s0, x1, x2, x3, x4 => fun hq e hd => tb_Way_bestStep_25 s F m (ll_Way_bestStep_25 F N) (fun a0 s0 x1 x2 x3 x4 e => t_Way_bestStep_25 s F m N a0 s0 x1 x2 x3 x4 hq e hd) a0 s0 x1 x2 x3 x4 hq e hd
def f_Way_bestStep (F : Nat) (a0 : Nat) (x1 : Int32) (m : aM) : Option Int32 :=
  o_let ((if (m a0 7) < 1 then 1 else (m a0 7))) fun y1 =>
  o_gd (nz y1) <|
  o_let ((if (m a0 7) < 1 then 1 else (m a0 7))) fun y3 =>
  o_gd (nz y3) <|
  ll_Way_bestStep_25 F F a0 x1 (x1 % y1) (x1 / y3) 0 m
theorem s_Way_bestStep {K : aK} {d bc bs : Nat} {g : aG} (s : Sys g) (F : Nat) (a0 : Nat) (s0 : ShWay g a0) (x1 : Int32) (m : aM) {r : Int32} (e : f_Way_bestStep F a0 x1 m = some r) (hd : 3 ≤ d) : Sp K M_Way_bestStep d bc bs [.ref a0, .int x1] (g, m) (some (.int r)) (g, m) := by
  refine sp_of ok_Way_bestStep rfl (Nat.le_of_ble_eq_true rfl) (by simp [Value.category]) (fun Q hq => ?_)
  unfold f_Way_bestStep at e
  refine g_iload_n k_Way_bestStep_0 rfl rfl ?_
  refine g_aload_n k_Way_bestStep_1 rfl rfl ?_
  refine p_geti k_Way_bestStep_2 fl_Way_37 rfl (sk_Way s0) (by decide) ?_
  refine g_iconst (v := 1) k_Way_bestStep_5 rfl ?_
  refine g_mx k_Way_bestStep_6 mw_Way_123 (Nat.le_of_ble_eq_true rfl) (by omega) ?_
  obtain ⟨y1, u_y1, e⟩ := o_let_ex e
  refine G.vy u_y1 ?_
  obtain ⟨q2, e⟩ := o_gd_ex e
  refine g_irem k_Way_bestStep_9 (nz_ne q2) ?_
  refine g_istore_n k_Way_bestStep_10 rfl (by decide) ?_
  refine g_iload_n k_Way_bestStep_11 rfl rfl ?_
  refine g_aload_n k_Way_bestStep_12 rfl rfl ?_
  refine p_geti k_Way_bestStep_13 fl_Way_37 rfl (sk_Way s0) (by decide) ?_
  refine g_iconst (v := 1) k_Way_bestStep_16 rfl ?_
  refine g_mx k_Way_bestStep_17 mw_Way_123 (Nat.le_of_ble_eq_true rfl) (by omega) ?_
  obtain ⟨y3, u_y3, e⟩ := o_let_ex e
  refine G.vy u_y3 ?_
  obtain ⟨q4, e⟩ := o_gd_ex e
  refine g_idiv k_Way_bestStep_20 (nz_ne q4) ?_
  refine g_istore_n k_Way_bestStep_21 rfl (by decide) ?_
  refine g_iconst (v := 0) k_Way_bestStep_22 rfl ?_
  refine g_istore k_Way_bestStep_23 (by decide) ?_
  exact (t_Way_bestStep_25 s F m F a0 s0 x1 (x1 % y1) (x1 / y3) 0  hq e hd)
def f_Way_behind (a0 : Nat) (x1 : Int32) (x2 : Int32) (m : aM) : Option Int32 :=
  (if 0 ≤ x2 then
  o_let ((if (m a0 7) < 1 then 1 else (m a0 7))) fun y1 =>
  o_gd (nz y1) <|
  o_let ((if (m a0 7) < 1 then 1 else (m a0 7))) fun y3 =>
  o_gd (nz y3) <|
  o_b (f_Way_nextOf a0 (x1 % y1) (x1 / y3) x2 m) fun y5 =>
  o_b (f_Way_isPlace y5 m) fun y6 =>
  (if y6 = 0 then
  some x1
  else
  some y5
  )
  else
  some x1
  )
theorem s_Way_behind {K : aK} {d bc bs : Nat} {g : aG} (s : Sys g) (a0 : Nat) (s0 : ShWay g a0) (x1 : Int32) (x2 : Int32) (m : aM) {r : Int32} (e : f_Way_behind a0 x1 x2 m = some r) (hd : 3 ≤ d) : Sp K M_Way_behind d bc bs [.ref a0, .int x1, .int x2] (g, m) (some (.int r)) (g, m) := by
  refine sp_of ok_Way_behind rfl (Nat.le_of_ble_eq_true rfl) (by simp [Value.category]) (fun Q hq => ?_)
  unfold f_Way_behind at e
  refine g_iload_n k_Way_behind_0 rfl rfl ?_
  refine g_if_ge (tgt := 6) k_Way_behind_1 (by decide) (fun c => ?_) (fun c => ?_)
  · rw [if_pos c] at e
    refine g_aload_n k_Way_behind_6 rfl rfl ?_
    refine g_iload_n k_Way_behind_7 rfl rfl ?_
    refine g_aload_n k_Way_behind_8 rfl rfl ?_
    refine p_geti k_Way_behind_9 fl_Way_37 rfl (sk_Way s0) (by decide) ?_
    refine g_iconst (v := 1) k_Way_behind_12 rfl ?_
    refine g_mx k_Way_behind_13 mw_Way_123 (Nat.le_of_ble_eq_true rfl) (by omega) ?_
    obtain ⟨y1, u_y1, e⟩ := o_let_ex e
    refine G.vy u_y1 ?_
    obtain ⟨q2, e⟩ := o_gd_ex e
    refine g_irem k_Way_behind_16 (nz_ne q2) ?_
    refine g_iload_n k_Way_behind_17 rfl rfl ?_
    refine g_aload_n k_Way_behind_18 rfl rfl ?_
    refine p_geti k_Way_behind_19 fl_Way_37 rfl (sk_Way s0) (by decide) ?_
    refine g_iconst (v := 1) k_Way_behind_22 rfl ?_
    refine g_mx k_Way_behind_23 mw_Way_123 (Nat.le_of_ble_eq_true rfl) (by omega) ?_
    obtain ⟨y3, u_y3, e⟩ := o_let_ex e
    refine G.vy u_y3 ?_
    obtain ⟨q4, e⟩ := o_gd_ex e
    refine g_idiv k_Way_behind_26 (nz_ne q4) ?_
    refine g_iload_n k_Way_behind_27 rfl rfl ?_
    obtain ⟨y5, e_y5, e⟩ := o_b_ex e
    refine g_cv k_Way_behind_28 lv_Way_95 (by decide +kernel) (T := F_Way) (N := 9) (ci := 8) rfl (sk_Way s0) (s_Way_nextOf (bc := 0) (bs := 0) s a0 s0 (x1 % y1) (x1 / y3) x2 m e_y5 (by omega)) rfl rfl (Nat.le_of_ble_eq_true rfl) (by simp [Value.category]) (by omega) (by omega) (by omega) ?_
    refine g_istore_n k_Way_behind_31 rfl (by decide) ?_
    refine g_iload_n k_Way_behind_32 rfl rfl ?_
    obtain ⟨y6, e_y6, e⟩ := o_b_ex e
    refine g_cs k_Way_behind_33 ls_Way_102 (by decide +kernel) (s_Way_isPlace (bc := 0) (bs := 0) s y5 m e_y6) rfl rfl (Nat.le_of_ble_eq_true rfl) (by simp [Value.category]) (by omega) (by omega) (by omega) ?_
    refine g_if_eq (tgt := 43) k_Way_behind_36 (by decide) (fun c => ?_) (fun c => ?_)
    · rw [if_pos c] at e
      refine g_iload_n k_Way_behind_43 rfl rfl ?_
      refine g_iret k_Way_behind_44 rfl ?_
      exact (by cases e; exact hq)
    · rw [if_neg c] at e
      refine g_iload_n k_Way_behind_39 rfl rfl ?_
      refine g_goto (tgt := 44) k_Way_behind_40 (by decide) ?_
      refine g_iret k_Way_behind_44 rfl ?_
      exact (by cases e; exact hq)
  · rw [if_neg c] at e
    refine g_iload_n k_Way_behind_4 rfl rfl ?_
    refine g_iret k_Way_behind_5 rfl ?_
    exact (by cases e; exact hq)
def b_Way_stepOfWay_36 (F : Nat) (a0 : Nat) (x3 : Int32) (m : aM) : Option Int32 :=
  o_b (f_Way_bestStep F a0 x3 m) fun y1 =>
  some y1
theorem t_Way_stepOfWay_36 {K : aK} {d bc bs : Nat} {g : aG} (s : Sys g) {Q : aQ} {r : Int32} (F : Nat) (m : aM) (a0 : Nat) (s0 : ShWay g a0) (x3 : Int32) (hq : Q (.inl (some (.int r))) (g, m)) (e : b_Way_stepOfWay_36 F a0 x3 m = some r) (hd : 4 ≤ d) : G K M_Way_stepOfWay d bc bs 36 [.ref a0, .double 0, .double 0, .int x3, .double 0] [] (g, m) Q := by
  unfold b_Way_stepOfWay_36 at e
  refine g_aload_n k_Way_stepOfWay_36 rfl rfl ?_
  refine g_iload_n k_Way_stepOfWay_37 rfl rfl ?_
  obtain ⟨y1, e_y1, e⟩ := o_b_ex e
  refine g_cv k_Way_stepOfWay_38 lv_Way_117 (by decide +kernel) (T := F_Way) (N := 9) (ci := 8) rfl (sk_Way s0) (s_Way_bestStep (bc := 0) (bs := 0) s F a0 s0 x3 m e_y1 (by omega)) rfl rfl (Nat.le_of_ble_eq_true rfl) (by simp [Value.category]) (by omega) (by omega) (by omega) ?_
  refine g_iret k_Way_stepOfWay_41 rfl ?_
  exact (by cases e; exact hq)
def lb_Way_stepOfWay_5 (F : Nat) (rec_5 : Nat → Int32 → Int32 → Int32 → aM → Option Int32) (a0 : Nat) (x2 : Int32) (x3 : Int32) (x4 : Int32) (m : aM) : Option Int32 :=
  (if x2 ≤ x4 then
  b_Way_stepOfWay_36 F a0 x3 m
  else
  (if 2048 ≤ x4 then
  b_Way_stepOfWay_36 F a0 x3 m
  else
  o_b (f_Way_bestStep F a0 x3 m) fun y1 =>
  o_b (f_Way_behind a0 x3 y1 m) fun y2 =>
  rec_5 a0 x2 y2 (x4 + 1) m
  )
  )
theorem tb_Way_stepOfWay_5 {K : aK} {d bc bs : Nat} {g : aG} (s : Sys g) {Q : aQ} {r : Int32} (F : Nat) (m : aM) (rec_5 : Nat → Int32 → Int32 → Int32 → aM → Option Int32) (hr_5 : ∀ (a0 : Nat) (s0 : ShWay g a0) (x2 : Int32) (x3 : Int32) (x4 : Int32), rec_5 a0 x2 x3 x4 m = some r → G K M_Way_stepOfWay d bc bs 5 [.ref a0, .double 0, .int x2, .int x3, .int x4] [] (g, m) Q) (a0 : Nat) (s0 : ShWay g a0) (x2 : Int32) (x3 : Int32) (x4 : Int32) (hq : Q (.inl (some (.int r))) (g, m)) (e : lb_Way_stepOfWay_5 F rec_5 a0 x2 x3 x4 m = some r) (hd : 4 ≤ d) : G K M_Way_stepOfWay d bc bs 5 [.ref a0, .double 0, .int x2, .int x3, .int x4] [] (g, m) Q := by
  unfold lb_Way_stepOfWay_5 at e
  refine g_iload k_Way_stepOfWay_5 rfl ?_
  refine g_iload_n k_Way_stepOfWay_7 rfl rfl ?_
  refine g_icmp_ge (tgt := 36) k_Way_stepOfWay_8 (by decide) (fun c => ?_) (fun c => ?_)
  · rw [if_pos c] at e
    exact G.wl (wls (wls (wld (wls (wld wl0))))) (t_Way_stepOfWay_36 s F m a0 s0 x3  hq e hd)
  · rw [if_neg c] at e
    refine g_iload k_Way_stepOfWay_11 rfl ?_
    refine g_sipush (v := 2048) k_Way_stepOfWay_13 rfl ?_
    refine g_icmp_ge (tgt := 36) k_Way_stepOfWay_16 (by decide) (fun c => ?_) (fun c => ?_)
    · rw [if_pos c] at e
      exact G.wl (wls (wls (wld (wls (wld wl0))))) (t_Way_stepOfWay_36 s F m a0 s0 x3  hq e hd)
    · rw [if_neg c] at e
      refine g_aload_n k_Way_stepOfWay_19 rfl rfl ?_
      refine g_iload_n k_Way_stepOfWay_20 rfl rfl ?_
      refine g_aload_n k_Way_stepOfWay_21 rfl rfl ?_
      refine g_iload_n k_Way_stepOfWay_22 rfl rfl ?_
      obtain ⟨y1, e_y1, e⟩ := o_b_ex e
      refine g_cv k_Way_stepOfWay_23 lv_Way_117 (by decide +kernel) (T := F_Way) (N := 9) (ci := 8) rfl (sk_Way s0) (s_Way_bestStep (bc := 0) (bs := 0) s F a0 s0 x3 m e_y1 (by omega)) rfl rfl (Nat.le_of_ble_eq_true rfl) (by simp [Value.category]) (by omega) (by omega) (by omega) ?_
      obtain ⟨y2, e_y2, e⟩ := o_b_ex e
      refine g_cv k_Way_stepOfWay_26 lv_Way_120 (by decide +kernel) (T := F_Way) (N := 9) (ci := 8) rfl (sk_Way s0) (s_Way_behind (bc := 0) (bs := 0) s a0 s0 x3 y1 m e_y2 (by omega)) rfl rfl (Nat.le_of_ble_eq_true rfl) (by simp [Value.category]) (by omega) (by omega) (by omega) ?_
      refine g_istore_n k_Way_stepOfWay_29 rfl (by decide) ?_
      refine g_iinc (v := _ + 1) k_Way_stepOfWay_30 rfl rfl (by decide) ?_
      refine g_goto (tgt := 5) k_Way_stepOfWay_33 (by decide) ?_
      exact (hr_5 a0 s0 x2 y2 (x4 + 1)  e)
def ll_Way_stepOfWay_5 (F : Nat) : Nat → Nat → Int32 → Int32 → Int32 → aM → Option Int32
  | 0, _, _, _, _, _ => none
  | N + 1, a0, x2, x3, x4, m => lb_Way_stepOfWay_5 F (ll_Way_stepOfWay_5 F N) a0 x2 x3 x4 m
theorem t_Way_stepOfWay_5 {K : aK} {d bc bs : Nat} {g : aG} (s : Sys g) {Q : aQ} {r : Int32} (F : Nat) (m : aM) : ∀ (N : Nat) (a0 : Nat) (s0 : ShWay g a0) (x2 : Int32) (x3 : Int32) (x4 : Int32), Q (.inl (some (.int r))) (g, m) → ll_Way_stepOfWay_5 F N a0 x2 x3 x4 m = some r → 4 ≤ d → G K M_Way_stepOfWay d bc bs 5 [.ref a0, .double 0, .int x2, .int x3, .int x4] [] (g, m) Q
  | 0, _, _, _, _, _ => fun _ e => nomatch e
  | N + 1, a0, s0, x2, x3, x4 => fun hq e hd => tb_Way_stepOfWay_5 s F m (ll_Way_stepOfWay_5 F N) (fun a0 s0 x2 x3 x4 e => t_Way_stepOfWay_5 s F m N a0 s0 x2 x3 x4 hq e hd) a0 s0 x2 x3 x4 hq e hd
def f_Way_stepOfWay (F : Nat) (a0 : Nat) (x1 : Int32) (x2 : Int32) (m : aM) : Option Int32 :=
  ll_Way_stepOfWay_5 F F a0 x2 x1 0 m
theorem s_Way_stepOfWay {K : aK} {d bc bs : Nat} {g : aG} (s : Sys g) (F : Nat) (a0 : Nat) (s0 : ShWay g a0) (x1 : Int32) (x2 : Int32) (m : aM) {r : Int32} (e : f_Way_stepOfWay F a0 x1 x2 m = some r) (hd : 4 ≤ d) : Sp K M_Way_stepOfWay d bc bs [.ref a0, .int x1, .int x2] (g, m) (some (.int r)) (g, m) := by
  refine sp_of ok_Way_stepOfWay rfl (Nat.le_of_ble_eq_true rfl) (by simp [Value.category]) (fun Q hq => ?_)
  unfold f_Way_stepOfWay at e
  refine g_iload_n k_Way_stepOfWay_0 rfl rfl ?_
  refine g_istore_n k_Way_stepOfWay_1 rfl (by decide) ?_
  refine g_iconst (v := 0) k_Way_stepOfWay_2 rfl ?_
  refine g_istore k_Way_stepOfWay_3 (by decide) ?_
  exact G.wl (wls (wld (wls (wls (wls wl0))))) (t_Way_stepOfWay_5 s F m F a0 s0 x2 x1 0  hq e hd)
def f_Way_partOfWay (F : Nat) (a0 : Nat) (x1 : Int32) (x2 : Int32) (x3 : Int32) (m : aM) : Option Int32 :=
  o_b (f_Way_placeOf a0 x1 x2 m) fun y1 =>
  o_gd (inb y1 6912) <|
  o_let ((m (a0 + 2) y1.toNatClampNeg)) fun y3 =>
  (if y3 = 2147483647 then
  some (-1)
  else
  (if x3 = (-1) then
  o_gd (inb y1 6912) <|
  o_let ((m (a0 + 2) y1.toNatClampNeg)) fun y5 =>
  some (y5 / 2048)
  else
  o_gd (inb y1 6912) <|
  o_let ((m (a0 + 2) y1.toNatClampNeg)) fun y7 =>
  (if x3 = (-2) then
  some (y7 % 2048)
  else
  (if x3 < 0 then
  some (-1)
  else
  (if (y7 % 2048) ≤ x3 then
  some (-1)
  else
  o_b (f_Way_stepOfWay F a0 y1 x3 m) fun y8 =>
  some y8
  )
  )
  )
  )
  )
theorem s_Way_partOfWay {K : aK} {d bc bs : Nat} {g : aG} (s : Sys g) (F : Nat) (a0 : Nat) (s0 : ShWay g a0) (x1 : Int32) (x2 : Int32) (x3 : Int32) (m : aM) {r : Int32} (e : f_Way_partOfWay F a0 x1 x2 x3 m = some r) (hd : 5 ≤ d) : Sp K M_Way_partOfWay d bc bs [.ref a0, .int x1, .int x2, .int x3] (g, m) (some (.int r)) (g, m) := by
  refine sp_of ok_Way_partOfWay rfl (Nat.le_of_ble_eq_true rfl) (by simp [Value.category]) (fun Q hq => ?_)
  unfold f_Way_partOfWay at e
  refine g_aload_n k_Way_partOfWay_0 rfl rfl ?_
  refine g_iload_n k_Way_partOfWay_1 rfl rfl ?_
  refine g_iload_n k_Way_partOfWay_2 rfl rfl ?_
  obtain ⟨y1, e_y1, e⟩ := o_b_ex e
  refine g_cv k_Way_partOfWay_3 lv_Way_111 (by decide +kernel) (T := F_Way) (N := 9) (ci := 8) rfl (sk_Way s0) (s_Way_placeOf (bc := 0) (bs := 0) s a0 s0 x1 x2 m e_y1 (by omega)) rfl rfl (Nat.le_of_ble_eq_true rfl) (by simp [Value.category]) (by omega) (by omega) (by omega) ?_
  refine g_istore k_Way_partOfWay_6 (by decide) ?_
  refine g_aload_n k_Way_partOfWay_8 rfl rfl ?_
  refine p_getr k_Way_partOfWay_9 fl_Way_17 rfl (sk_Way s0) (by decide) (sr_Way_2 s0) ?_
  refine g_iload k_Way_partOfWay_12 rfl ?_
  obtain ⟨q2, e⟩ := o_gd_ex e
  refine p_iald k_Way_partOfWay_14 (sa_Way_2 s0) (inb_in q2) (j := y1.toNatClampNeg) rfl ?_
  obtain ⟨y3, u_y3, e⟩ := o_let_ex e
  refine G.vy u_y3 ?_
  refine g_ldc k_Way_partOfWay_15 kc_Way_77 ?_
  refine g_icmp_ne (tgt := 22) k_Way_partOfWay_17 (by decide) (fun c => ?_) (fun c => ?_)
  · rw [if_pos c] at e
    refine g_iconst (v := (-1)) k_Way_partOfWay_20 rfl ?_
    refine g_iret k_Way_partOfWay_21 rfl ?_
    exact (by cases e; exact hq)
  · rw [if_neg c] at e
    refine g_iload_n k_Way_partOfWay_22 rfl rfl ?_
    refine g_iconst (v := (-1)) k_Way_partOfWay_23 rfl ?_
    refine g_icmp_ne (tgt := 39) k_Way_partOfWay_24 (by decide) (fun c => ?_) (fun c => ?_)
    · rw [if_pos c] at e
      refine g_aload_n k_Way_partOfWay_27 rfl rfl ?_
      refine p_getr k_Way_partOfWay_28 fl_Way_17 rfl (sk_Way s0) (by decide) (sr_Way_2 s0) ?_
      refine g_iload k_Way_partOfWay_31 rfl ?_
      obtain ⟨q4, e⟩ := o_gd_ex e
      refine p_iald k_Way_partOfWay_33 (sa_Way_2 s0) (inb_in q4) (j := y1.toNatClampNeg) rfl ?_
      obtain ⟨y5, u_y5, e⟩ := o_let_ex e
      refine G.vy u_y5 ?_
      refine g_sipush (v := 2048) k_Way_partOfWay_34 rfl ?_
      refine g_idiv k_Way_partOfWay_37 (by decide) ?_
      refine g_iret k_Way_partOfWay_38 rfl ?_
      exact (by cases e; exact hq)
    · rw [if_neg c] at e
      refine g_aload_n k_Way_partOfWay_39 rfl rfl ?_
      refine p_getr k_Way_partOfWay_40 fl_Way_17 rfl (sk_Way s0) (by decide) (sr_Way_2 s0) ?_
      refine g_iload k_Way_partOfWay_43 rfl ?_
      obtain ⟨q6, e⟩ := o_gd_ex e
      refine p_iald k_Way_partOfWay_45 (sa_Way_2 s0) (inb_in q6) (j := y1.toNatClampNeg) rfl ?_
      obtain ⟨y7, u_y7, e⟩ := o_let_ex e
      refine G.vy u_y7 ?_
      refine g_sipush (v := 2048) k_Way_partOfWay_46 rfl ?_
      refine g_irem k_Way_partOfWay_49 (by decide) ?_
      refine g_istore k_Way_partOfWay_50 (by decide) ?_
      refine g_iload_n k_Way_partOfWay_52 rfl rfl ?_
      refine g_bipush (v := (-2)) k_Way_partOfWay_53 rfl ?_
      refine g_icmp_ne (tgt := 61) k_Way_partOfWay_55 (by decide) (fun c => ?_) (fun c => ?_)
      · rw [if_pos c] at e
        refine g_iload k_Way_partOfWay_58 rfl ?_
        refine g_iret k_Way_partOfWay_60 rfl ?_
        exact (by cases e; exact hq)
      · rw [if_neg c] at e
        refine g_iload_n k_Way_partOfWay_61 rfl rfl ?_
        refine g_if_lt (tgt := 81) k_Way_partOfWay_62 (by decide) (fun c => ?_) (fun c => ?_)
        · rw [if_pos c] at e
          refine g_iconst (v := (-1)) k_Way_partOfWay_81 rfl ?_
          refine g_iret k_Way_partOfWay_82 rfl ?_
          exact (by cases e; exact hq)
        · rw [if_neg c] at e
          refine g_iload_n k_Way_partOfWay_65 rfl rfl ?_
          refine g_iload k_Way_partOfWay_66 rfl ?_
          refine g_icmp_ge (tgt := 81) k_Way_partOfWay_68 (by decide) (fun c => ?_) (fun c => ?_)
          · rw [if_pos c] at e
            refine g_iconst (v := (-1)) k_Way_partOfWay_81 rfl ?_
            refine g_iret k_Way_partOfWay_82 rfl ?_
            exact (by cases e; exact hq)
          · rw [if_neg c] at e
            refine g_aload_n k_Way_partOfWay_71 rfl rfl ?_
            refine g_iload k_Way_partOfWay_72 rfl ?_
            refine g_iload_n k_Way_partOfWay_74 rfl rfl ?_
            obtain ⟨y8, e_y8, e⟩ := o_b_ex e
            refine g_cv k_Way_partOfWay_75 lv_Way_114 (by decide +kernel) (T := F_Way) (N := 9) (ci := 8) rfl (sk_Way s0) (s_Way_stepOfWay (bc := 0) (bs := 0) s F a0 s0 y1 x3 m e_y8 (by omega)) rfl rfl (Nat.le_of_ble_eq_true rfl) (by simp [Value.category]) (by omega) (by omega) (by omega) ?_
            refine g_goto (tgt := 82) k_Way_partOfWay_78 (by decide) ?_
            refine g_iret k_Way_partOfWay_82 rfl ?_
            exact (by cases e; exact hq)
def f_Way_fewestRewritten (a0 : Nat) (x1 : Int32) (x2 : Int32) (m : aM) : Option Int32 :=
  o_b (f_Way_placeOf a0 x1 x2 m) fun y1 =>
  o_gd (inb y1 6912) <|
  o_let ((m (a0 + 3) y1.toNatClampNeg)) fun y3 =>
  (if y3 = 2147483647 then
  some (-1)
  else
  some y3
  )
theorem s_Way_fewestRewritten {K : aK} {d bc bs : Nat} {g : aG} (s : Sys g) (a0 : Nat) (s0 : ShWay g a0) (x1 : Int32) (x2 : Int32) (m : aM) {r : Int32} (e : f_Way_fewestRewritten a0 x1 x2 m = some r) (hd : 2 ≤ d) : Sp K M_Way_fewestRewritten d bc bs [.ref a0, .int x1, .int x2] (g, m) (some (.int r)) (g, m) := by
  refine sp_of ok_Way_fewestRewritten rfl (Nat.le_of_ble_eq_true rfl) (by simp [Value.category]) (fun Q hq => ?_)
  unfold f_Way_fewestRewritten at e
  refine g_aload_n k_Way_fewestRewritten_0 rfl rfl ?_
  refine p_getr k_Way_fewestRewritten_1 fl_Way_21 rfl (sk_Way s0) (by decide) (sr_Way_3 s0) ?_
  refine g_aload_n k_Way_fewestRewritten_4 rfl rfl ?_
  refine g_iload_n k_Way_fewestRewritten_5 rfl rfl ?_
  refine g_iload_n k_Way_fewestRewritten_6 rfl rfl ?_
  obtain ⟨y1, e_y1, e⟩ := o_b_ex e
  refine g_cv k_Way_fewestRewritten_7 lv_Way_111 (by decide +kernel) (T := F_Way) (N := 9) (ci := 8) rfl (sk_Way s0) (s_Way_placeOf (bc := 0) (bs := 0) s a0 s0 x1 x2 m e_y1 (by omega)) rfl rfl (Nat.le_of_ble_eq_true rfl) (by simp [Value.category]) (by omega) (by omega) (by omega) ?_
  obtain ⟨q2, e⟩ := o_gd_ex e
  refine p_iald k_Way_fewestRewritten_10 (sa_Way_3 s0) (inb_in q2) (j := y1.toNatClampNeg) rfl ?_
  obtain ⟨y3, u_y3, e⟩ := o_let_ex e
  refine G.vy u_y3 ?_
  refine g_istore_n k_Way_fewestRewritten_11 rfl (by decide) ?_
  refine g_iload_n k_Way_fewestRewritten_12 rfl rfl ?_
  refine g_ldc k_Way_fewestRewritten_13 kc_Way_77 ?_
  refine g_icmp_ne (tgt := 22) k_Way_fewestRewritten_15 (by decide) (fun c => ?_) (fun c => ?_)
  · rw [if_pos c] at e
    refine g_iconst (v := (-1)) k_Way_fewestRewritten_18 rfl ?_
    refine g_goto (tgt := 23) k_Way_fewestRewritten_19 (by decide) ?_
    refine g_iret k_Way_fewestRewritten_23 rfl ?_
    exact (by cases e; exact hq)
  · rw [if_neg c] at e
    refine g_iload_n k_Way_fewestRewritten_22 rfl rfl ?_
    refine g_iret k_Way_fewestRewritten_23 rfl ?_
    exact (by cases e; exact hq)
def f_Way_hasBack (a0 : Nat) (x1 : Int32) (x2 : Int32) (m : aM) : Option Int32 :=
  o_b (f_Way_placeOf a0 x1 x2 m) fun y1 =>
  o_gd (inb y1 6912) <|
  o_let ((m (a0 + 4) y1.toNatClampNeg)) fun y3 =>
  o_gd (isb y3) <|
  some y3
theorem s_Way_hasBack {K : aK} {d bc bs : Nat} {g : aG} (s : Sys g) (a0 : Nat) (s0 : ShWay g a0) (x1 : Int32) (x2 : Int32) (m : aM) {r : Int32} (e : f_Way_hasBack a0 x1 x2 m = some r) (hd : 2 ≤ d) : Sp K M_Way_hasBack d bc bs [.ref a0, .int x1, .int x2] (g, m) (some (.int r)) (g, m) := by
  refine sp_of ok_Way_hasBack rfl (Nat.le_of_ble_eq_true rfl) (by simp [Value.category]) (fun Q hq => ?_)
  unfold f_Way_hasBack at e
  refine g_aload_n k_Way_hasBack_0 rfl rfl ?_
  refine p_getr k_Way_hasBack_1 fl_Way_24 rfl (sk_Way s0) (by decide) (sr_Way_4 s0) ?_
  refine g_aload_n k_Way_hasBack_4 rfl rfl ?_
  refine g_iload_n k_Way_hasBack_5 rfl rfl ?_
  refine g_iload_n k_Way_hasBack_6 rfl rfl ?_
  obtain ⟨y1, e_y1, e⟩ := o_b_ex e
  refine g_cv k_Way_hasBack_7 lv_Way_111 (by decide +kernel) (T := F_Way) (N := 9) (ci := 8) rfl (sk_Way s0) (s_Way_placeOf (bc := 0) (bs := 0) s a0 s0 x1 x2 m e_y1 (by omega)) rfl rfl (Nat.le_of_ble_eq_true rfl) (by simp [Value.category]) (by omega) (by omega) (by omega) ?_
  obtain ⟨q2, e⟩ := o_gd_ex e
  refine p_zald k_Way_hasBack_10 (sa_Way_4 s0) (inb_in q2) (j := y1.toNatClampNeg) rfl ?_
  obtain ⟨y3, u_y3, e⟩ := o_let_ex e
  refine G.vy u_y3 ?_
  obtain ⟨q4, e⟩ := o_gd_ex e
  refine g_zret k_Way_hasBack_11 rfl (isb_or q4) ?_
  exact (by cases e; exact hq)
def b_Way_lastBack_85 (F : Nat) (rec_51 : Nat → Int32 → Int32 → Int32 → Int32 → aM → Option Int32) (a0 : Nat) (x3 : Int32) (x4 : Int32) (x6 : Int32) (xt0 : Int32) (m : aM) : Option Int32 :=
  rec_51 a0 x3 x4 xt0 (x6 + 1) m
theorem t_Way_lastBack_85 {K : aK} {d bc bs : Nat} {g : aG} (s : Sys g) {Q : aQ} {r : Int32} (F : Nat) (m : aM) (rec_51 : Nat → Int32 → Int32 → Int32 → Int32 → aM → Option Int32) (hr_51 : ∀ (a0 : Nat) (s0 : ShWay g a0) (x3 : Int32) (x4 : Int32) (x5 : Int32) (x6 : Int32), rec_51 a0 x3 x4 x5 x6 m = some r → G K M_Way_lastBack d bc bs 51 [.ref a0, .double 0, .double 0, .int x3, .int x4, .int x5, .int x6] [] (g, m) Q) (a0 : Nat) (s0 : ShWay g a0) (x3 : Int32) (x4 : Int32) (x6 : Int32) (xt0 : Int32) (hq : Q (.inl (some (.int r))) (g, m)) (e : b_Way_lastBack_85 F rec_51 a0 x3 x4 x6 xt0 m = some r) (hd : 4 ≤ d) : G K M_Way_lastBack d bc bs 85 [.ref a0, .double 0, .double 0, .int x3, .int x4, .double 0, .int x6] [.int xt0] (g, m) Q := by
  unfold b_Way_lastBack_85 at e
  refine g_istore k_Way_lastBack_85 (by decide) ?_
  refine g_iinc (v := _ + 1) k_Way_lastBack_87 rfl rfl (by decide) ?_
  refine g_goto (tgt := 51) k_Way_lastBack_90 (by decide) ?_
  exact (hr_51 a0 s0 x3 x4 xt0 (x6 + 1)  e)
def lb_Way_lastBack_51 (F : Nat) (rec_51 : Nat → Int32 → Int32 → Int32 → Int32 → aM → Option Int32) (a0 : Nat) (x3 : Int32) (x4 : Int32) (x5 : Int32) (x6 : Int32) (m : aM) : Option Int32 :=
  (if x4 < x6 then
  some x5
  else
  o_b (f_Way_bestStep F a0 x3 m) fun y1 =>
  o_b (f_Way_behind a0 x3 y1 m) fun y2 =>
  o_gd (inb y2 6912) <|
  o_let ((m (a0 + 4) y2.toNatClampNeg)) fun y4 =>
  (if y4 = 0 then
  b_Way_lastBack_85 F rec_51 a0 y2 x4 x6 x5 m
  else
  b_Way_lastBack_85 F rec_51 a0 y2 x4 x6 x6 m
  )
  )
theorem tb_Way_lastBack_51 {K : aK} {d bc bs : Nat} {g : aG} (s : Sys g) {Q : aQ} {r : Int32} (F : Nat) (m : aM) (rec_51 : Nat → Int32 → Int32 → Int32 → Int32 → aM → Option Int32) (hr_51 : ∀ (a0 : Nat) (s0 : ShWay g a0) (x3 : Int32) (x4 : Int32) (x5 : Int32) (x6 : Int32), rec_51 a0 x3 x4 x5 x6 m = some r → G K M_Way_lastBack d bc bs 51 [.ref a0, .double 0, .double 0, .int x3, .int x4, .int x5, .int x6] [] (g, m) Q) (a0 : Nat) (s0 : ShWay g a0) (x3 : Int32) (x4 : Int32) (x5 : Int32) (x6 : Int32) (hq : Q (.inl (some (.int r))) (g, m)) (e : lb_Way_lastBack_51 F rec_51 a0 x3 x4 x5 x6 m = some r) (hd : 4 ≤ d) : G K M_Way_lastBack d bc bs 51 [.ref a0, .double 0, .double 0, .int x3, .int x4, .int x5, .int x6] [] (g, m) Q := by
  unfold lb_Way_lastBack_51 at e
  refine g_iload k_Way_lastBack_51 rfl ?_
  refine g_iload k_Way_lastBack_53 rfl ?_
  refine g_icmp_gt (tgt := 93) k_Way_lastBack_55 (by decide) (fun c => ?_) (fun c => ?_)
  · rw [if_pos c] at e
    refine g_iload k_Way_lastBack_93 rfl ?_
    refine g_iret k_Way_lastBack_95 rfl ?_
    exact (by cases e; exact hq)
  · rw [if_neg c] at e
    refine g_aload_n k_Way_lastBack_58 rfl rfl ?_
    refine g_iload_n k_Way_lastBack_59 rfl rfl ?_
    refine g_aload_n k_Way_lastBack_60 rfl rfl ?_
    refine g_iload_n k_Way_lastBack_61 rfl rfl ?_
    obtain ⟨y1, e_y1, e⟩ := o_b_ex e
    refine g_cv k_Way_lastBack_62 lv_Way_117 (by decide +kernel) (T := F_Way) (N := 9) (ci := 8) rfl (sk_Way s0) (s_Way_bestStep (bc := 0) (bs := 0) s F a0 s0 x3 m e_y1 (by omega)) rfl rfl (Nat.le_of_ble_eq_true rfl) (by simp [Value.category]) (by omega) (by omega) (by omega) ?_
    obtain ⟨y2, e_y2, e⟩ := o_b_ex e
    refine g_cv k_Way_lastBack_65 lv_Way_120 (by decide +kernel) (T := F_Way) (N := 9) (ci := 8) rfl (sk_Way s0) (s_Way_behind (bc := 0) (bs := 0) s a0 s0 x3 y1 m e_y2 (by omega)) rfl rfl (Nat.le_of_ble_eq_true rfl) (by simp [Value.category]) (by omega) (by omega) (by omega) ?_
    refine g_istore_n k_Way_lastBack_68 rfl (by decide) ?_
    refine g_aload_n k_Way_lastBack_69 rfl rfl ?_
    refine p_getr k_Way_lastBack_70 fl_Way_24 rfl (sk_Way s0) (by decide) (sr_Way_4 s0) ?_
    refine g_iload_n k_Way_lastBack_73 rfl rfl ?_
    obtain ⟨q3, e⟩ := o_gd_ex e
    refine p_zald k_Way_lastBack_74 (sa_Way_4 s0) (inb_in q3) (j := y2.toNatClampNeg) rfl ?_
    obtain ⟨y4, u_y4, e⟩ := o_let_ex e
    refine G.vy u_y4 ?_
    refine g_if_eq (tgt := 83) k_Way_lastBack_75 (by decide) (fun c => ?_) (fun c => ?_)
    · rw [if_pos c] at e
      refine g_iload k_Way_lastBack_83 rfl ?_
      exact G.wl (wls (wls (wls (wls (wls (wld (wls wl0))))))) (t_Way_lastBack_85 s F m rec_51 hr_51 a0 s0 y2 x4 x6 x5  hq e hd)
    · rw [if_neg c] at e
      refine g_iload k_Way_lastBack_78 rfl ?_
      refine g_goto (tgt := 85) k_Way_lastBack_80 (by decide) ?_
      exact G.wl (wls (wls (wls (wls (wls (wld (wls wl0))))))) (t_Way_lastBack_85 s F m rec_51 hr_51 a0 s0 y2 x4 x6 x6  hq e hd)
def ll_Way_lastBack_51 (F : Nat) : Nat → Nat → Int32 → Int32 → Int32 → Int32 → aM → Option Int32
  | 0, _, _, _, _, _, _ => none
  | N + 1, a0, x3, x4, x5, x6, m => lb_Way_lastBack_51 F (ll_Way_lastBack_51 F N) a0 x3 x4 x5 x6 m
theorem t_Way_lastBack_51 {K : aK} {d bc bs : Nat} {g : aG} (s : Sys g) {Q : aQ} {r : Int32} (F : Nat) (m : aM) : ∀ (N : Nat) (a0 : Nat) (s0 : ShWay g a0) (x3 : Int32) (x4 : Int32) (x5 : Int32) (x6 : Int32), Q (.inl (some (.int r))) (g, m) → ll_Way_lastBack_51 F N a0 x3 x4 x5 x6 m = some r → 4 ≤ d → G K M_Way_lastBack d bc bs 51 [.ref a0, .double 0, .double 0, .int x3, .int x4, .int x5, .int x6] [] (g, m) Q
  | 0, _, _, _, _, _, _ => fun _ e => nomatch e
  | N + 1, a0, s0, x3, x4, x5, x6 => fun hq e hd => tb_Way_lastBack_51 s F m (ll_Way_lastBack_51 F N) (fun a0 s0 x3 x4 x5 x6 e => t_Way_lastBack_51 s F m N a0 s0 x3 x4 x5 x6 hq e hd) a0 s0 x3 x4 x5 x6 hq e hd
def b_Way_lastBack_46 (F : Nat) (a0 : Nat) (x3 : Int32) (x4 : Int32) (xt0 : Int32) (m : aM) : Option Int32 :=
  ll_Way_lastBack_51 F F a0 x3 x4 xt0 1 m
theorem t_Way_lastBack_46 {K : aK} {d bc bs : Nat} {g : aG} (s : Sys g) {Q : aQ} {r : Int32} (F : Nat) (m : aM) (a0 : Nat) (s0 : ShWay g a0) (x3 : Int32) (x4 : Int32) (xt0 : Int32) (hq : Q (.inl (some (.int r))) (g, m)) (e : b_Way_lastBack_46 F a0 x3 x4 xt0 m = some r) (hd : 4 ≤ d) : G K M_Way_lastBack d bc bs 46 [.ref a0, .double 0, .double 0, .int x3, .int x4, .double 0, .double 0] [.int xt0] (g, m) Q := by
  unfold b_Way_lastBack_46 at e
  refine g_istore k_Way_lastBack_46 (by decide) ?_
  refine g_iconst (v := 1) k_Way_lastBack_48 rfl ?_
  refine g_istore k_Way_lastBack_49 (by decide) ?_
  exact (t_Way_lastBack_51 s F m F a0 s0 x3 x4 xt0 1  hq e hd)
def f_Way_lastBack (F : Nat) (a0 : Nat) (x1 : Int32) (x2 : Int32) (m : aM) : Option Int32 :=
  o_b (f_Way_placeOf a0 x1 x2 m) fun y1 =>
  o_gd (inb y1 6912) <|
  o_let ((m (a0 + 2) y1.toNatClampNeg)) fun y3 =>
  (if y3 = 2147483647 then
  some (-1)
  else
  o_gd (inb y1 6912) <|
  o_let ((m (a0 + 2) y1.toNatClampNeg)) fun y5 =>
  o_gd (inb y1 6912) <|
  o_let ((m (a0 + 4) y1.toNatClampNeg)) fun y7 =>
  (if y7 = 0 then
  b_Way_lastBack_46 F a0 y1 (y5 % 2048) (-1) m
  else
  b_Way_lastBack_46 F a0 y1 (y5 % 2048) 0 m
  )
  )
theorem s_Way_lastBack {K : aK} {d bc bs : Nat} {g : aG} (s : Sys g) (F : Nat) (a0 : Nat) (s0 : ShWay g a0) (x1 : Int32) (x2 : Int32) (m : aM) {r : Int32} (e : f_Way_lastBack F a0 x1 x2 m = some r) (hd : 4 ≤ d) : Sp K M_Way_lastBack d bc bs [.ref a0, .int x1, .int x2] (g, m) (some (.int r)) (g, m) := by
  refine sp_of ok_Way_lastBack rfl (Nat.le_of_ble_eq_true rfl) (by simp [Value.category]) (fun Q hq => ?_)
  unfold f_Way_lastBack at e
  refine g_aload_n k_Way_lastBack_0 rfl rfl ?_
  refine g_iload_n k_Way_lastBack_1 rfl rfl ?_
  refine g_iload_n k_Way_lastBack_2 rfl rfl ?_
  obtain ⟨y1, e_y1, e⟩ := o_b_ex e
  refine g_cv k_Way_lastBack_3 lv_Way_111 (by decide +kernel) (T := F_Way) (N := 9) (ci := 8) rfl (sk_Way s0) (s_Way_placeOf (bc := 0) (bs := 0) s a0 s0 x1 x2 m e_y1 (by omega)) rfl rfl (Nat.le_of_ble_eq_true rfl) (by simp [Value.category]) (by omega) (by omega) (by omega) ?_
  refine g_istore_n k_Way_lastBack_6 rfl (by decide) ?_
  refine g_aload_n k_Way_lastBack_7 rfl rfl ?_
  refine p_getr k_Way_lastBack_8 fl_Way_17 rfl (sk_Way s0) (by decide) (sr_Way_2 s0) ?_
  refine g_iload_n k_Way_lastBack_11 rfl rfl ?_
  obtain ⟨q2, e⟩ := o_gd_ex e
  refine p_iald k_Way_lastBack_12 (sa_Way_2 s0) (inb_in q2) (j := y1.toNatClampNeg) rfl ?_
  obtain ⟨y3, u_y3, e⟩ := o_let_ex e
  refine G.vy u_y3 ?_
  refine g_ldc k_Way_lastBack_13 kc_Way_77 ?_
  refine g_icmp_ne (tgt := 20) k_Way_lastBack_15 (by decide) (fun c => ?_) (fun c => ?_)
  · rw [if_pos c] at e
    refine g_iconst (v := (-1)) k_Way_lastBack_18 rfl ?_
    refine g_iret k_Way_lastBack_19 rfl ?_
    exact (by cases e; exact hq)
  · rw [if_neg c] at e
    refine g_aload_n k_Way_lastBack_20 rfl rfl ?_
    refine p_getr k_Way_lastBack_21 fl_Way_17 rfl (sk_Way s0) (by decide) (sr_Way_2 s0) ?_
    refine g_iload_n k_Way_lastBack_24 rfl rfl ?_
    obtain ⟨q4, e⟩ := o_gd_ex e
    refine p_iald k_Way_lastBack_25 (sa_Way_2 s0) (inb_in q4) (j := y1.toNatClampNeg) rfl ?_
    obtain ⟨y5, u_y5, e⟩ := o_let_ex e
    refine G.vy u_y5 ?_
    refine g_sipush (v := 2048) k_Way_lastBack_26 rfl ?_
    refine g_irem k_Way_lastBack_29 (by decide) ?_
    refine g_istore k_Way_lastBack_30 (by decide) ?_
    refine g_aload_n k_Way_lastBack_32 rfl rfl ?_
    refine p_getr k_Way_lastBack_33 fl_Way_24 rfl (sk_Way s0) (by decide) (sr_Way_4 s0) ?_
    refine g_iload_n k_Way_lastBack_36 rfl rfl ?_
    obtain ⟨q6, e⟩ := o_gd_ex e
    refine p_zald k_Way_lastBack_37 (sa_Way_4 s0) (inb_in q6) (j := y1.toNatClampNeg) rfl ?_
    obtain ⟨y7, u_y7, e⟩ := o_let_ex e
    refine G.vy u_y7 ?_
    refine g_if_eq (tgt := 45) k_Way_lastBack_38 (by decide) (fun c => ?_) (fun c => ?_)
    · rw [if_pos c] at e
      refine g_iconst (v := (-1)) k_Way_lastBack_45 rfl ?_
      exact G.wl (wls (wld (wld (wls (wls (wls (wls wl0))))))) (t_Way_lastBack_46 s F m a0 s0 y1 (y5 % 2048) (-1)  hq e hd)
    · rw [if_neg c] at e
      refine g_iconst (v := 0) k_Way_lastBack_41 rfl ?_
      refine g_goto (tgt := 46) k_Way_lastBack_42 (by decide) ?_
      exact G.wl (wls (wld (wld (wls (wls (wls (wls wl0))))))) (t_Way_lastBack_46 s F m a0 s0 y1 (y5 % 2048) 0  hq e hd)
