/-! Lens (made by wip/gen/auto2.py) -/
def f_Len_addOrder (a0 : Nat) (x1 : Int32) (x2 : Int32) (m : aM) : Option (Int32 × aM) :=
  (if (m a0 2) < 400 then
  o_gd (inb (m a0 2) 400) <|
  o_let (a_st m (a0 + 1) ((m a0 2).toNatClampNeg) x1) fun m2 =>
  o_gd (inb (m2 a0 2) 400) <|
  o_let (a_st m2 (a0 + 2) ((m2 a0 2).toNatClampNeg) x2) fun m4 =>
  o_let (a_st m4 a0 2 ((m4 a0 2) + 1)) fun m5 =>
  some (((m5 a0 2) - 1), m5)
  else
  some ((-1), m)
  )
theorem s_Len_addOrder {K : aK} {d bc bs : Nat} {g : aG} (s : Sys g) (a0 : Nat) (s0 : ShLen g a0) (x1 : Int32) (x2 : Int32) (m : aM) {r : Int32} {m' : aM} (e : f_Len_addOrder a0 x1 x2 m = some (r, m')) : Sp K M_Len_addOrder d bc bs [.ref a0, .int x1, .int x2] (g, m) (some (.int r)) (g, m') := by
  refine sp_of ok_Len_addOrder rfl (Nat.le_of_ble_eq_true rfl) (by simp [Value.category]) (fun Q hq => ?_)
  unfold f_Len_addOrder at e
  refine g_aload_n k_Len_addOrder_0 rfl rfl ?_
  refine p_geti k_Len_addOrder_1 fl_Len_41 rfl (sk_Len s0) (by decide) ?_
  refine g_sipush (v := 400) k_Len_addOrder_4 rfl ?_
  refine g_icmp_lt (tgt := 12) k_Len_addOrder_7 (by decide) (fun c => ?_) (fun c => ?_)
  · rw [if_pos c] at e
    refine g_aload_n k_Len_addOrder_12 rfl rfl ?_
    refine p_getr k_Len_addOrder_13 fl_Len_11 rfl (sk_Len s0) (by decide) (sr_Len_0 s0) ?_
    refine g_aload_n k_Len_addOrder_16 rfl rfl ?_
    refine p_geti k_Len_addOrder_17 fl_Len_41 rfl (sk_Len s0) (by decide) ?_
    refine g_iload_n k_Len_addOrder_20 rfl rfl ?_
    obtain ⟨q1, e⟩ := o_gd_ex e
    refine p_iast k_Len_addOrder_21 (sa_Len_0 s0) (inb_in q1) (j := (m a0 2).toNatClampNeg) rfl ?_
    obtain ⟨m2, u_m2, e⟩ := o_let_ex e
    refine G.hm u_m2 ?_
    refine g_aload_n k_Len_addOrder_22 rfl rfl ?_
    refine p_getr k_Len_addOrder_23 fl_Len_15 rfl (sk_Len s0) (by decide) (sr_Len_1 s0) ?_
    refine g_aload_n k_Len_addOrder_26 rfl rfl ?_
    refine p_geti k_Len_addOrder_27 fl_Len_41 rfl (sk_Len s0) (by decide) ?_
    refine g_iload_n k_Len_addOrder_30 rfl rfl ?_
    obtain ⟨q3, e⟩ := o_gd_ex e
    refine p_iast k_Len_addOrder_31 (sa_Len_1 s0) (inb_in q3) (j := (m2 a0 2).toNatClampNeg) rfl ?_
    obtain ⟨m4, u_m4, e⟩ := o_let_ex e
    refine G.hm u_m4 ?_
    refine g_aload_n k_Len_addOrder_32 rfl rfl ?_
    refine g_dup k_Len_addOrder_33 rfl ?_
    refine p_geti k_Len_addOrder_34 fl_Len_41 rfl (sk_Len s0) (by decide) ?_
    refine g_iconst (v := 1) k_Len_addOrder_37 rfl ?_
    refine g_iadd k_Len_addOrder_38 ?_
    refine p_puti k_Len_addOrder_39 fl_Len_41 rfl ⟨R_Len, F_Len, 11, rfl, Or.inl rfl⟩ (sk_Len s0) (by decide) ?_
    obtain ⟨m5, u_m5, e⟩ := o_let_ex e
    refine G.hm u_m5 ?_
    refine g_aload_n k_Len_addOrder_42 rfl rfl ?_
    refine p_geti k_Len_addOrder_43 fl_Len_41 rfl (sk_Len s0) (by decide) ?_
    refine g_iconst (v := 1) k_Len_addOrder_46 rfl ?_
    refine g_isub k_Len_addOrder_47 ?_
    refine g_iret k_Len_addOrder_48 rfl ?_
    exact (by cases e; exact hq)
  · rw [if_neg c] at e
    refine g_iconst (v := (-1)) k_Len_addOrder_10 rfl ?_
    refine g_iret k_Len_addOrder_11 rfl ?_
    exact (by cases e; exact hq)
def b_Len_valueOf_16 (x1 : Int32) (at0 : Nat) (m : aM) : Option Int32 :=
  (if x1 < 0 then
  some 0
  else
  (if 4 ≤ x1 then
  some 0
  else
  o_gd (inb x1 4) <|
  some (m at0 x1.toNatClampNeg)
  )
  )
theorem t_Len_valueOf_16 {K : aK} {d bc bs : Nat} {g : aG} (s : Sys g) {Q : aQ} {r : Int32} (m : aM) (x1 : Int32) (at0 : Nat) (ht0 : g.2.1 at0 = (0, 4)) (hq : Q (.inl (some (.int r))) (g, m)) (e : b_Len_valueOf_16 x1 at0 m = some r) : G K M_Len_valueOf d bc bs 16 [.double 0, .int x1, .double 0, .double 0, .double 0] [.ref at0] (g, m) Q := by
  unfold b_Len_valueOf_16 at e
  refine g_astore k_Len_valueOf_16 (by decide) ?_
  refine g_iload_n k_Len_valueOf_18 rfl rfl ?_
  refine g_if_lt (tgt := 36) k_Len_valueOf_19 (by decide) (fun c => ?_) (fun c => ?_)
  · rw [if_pos c] at e
    refine g_iconst (v := 0) k_Len_valueOf_36 rfl ?_
    refine g_iret k_Len_valueOf_37 rfl ?_
    exact (by cases e; exact hq)
  · rw [if_neg c] at e
    refine g_iload_n k_Len_valueOf_22 rfl rfl ?_
    refine g_aload k_Len_valueOf_23 rfl ?_
    refine p_alen (v := 4) k_Len_valueOf_25 ht0 (by decide) rfl ?_
    refine g_icmp_ge (tgt := 36) k_Len_valueOf_26 (by decide) (fun c => ?_) (fun c => ?_)
    · rw [if_pos c] at e
      refine g_iconst (v := 0) k_Len_valueOf_36 rfl ?_
      refine g_iret k_Len_valueOf_37 rfl ?_
      exact (by cases e; exact hq)
    · rw [if_neg c] at e
      refine g_aload k_Len_valueOf_29 rfl ?_
      refine g_iload_n k_Len_valueOf_31 rfl rfl ?_
      obtain ⟨q1, e⟩ := o_gd_ex e
      refine p_iald k_Len_valueOf_32 ht0 (inb_in q1) (j := x1.toNatClampNeg) rfl ?_
      refine g_goto (tgt := 37) k_Len_valueOf_33 (by decide) ?_
      refine g_iret k_Len_valueOf_37 rfl ?_
      exact (by cases e; exact hq)
def f_Len_valueOf (x0 : Int32) (x1 : Int32) (a2 : Nat) (a3 : Nat) (m : aM) : Option Int32 :=
  (if x0 = 0 then
  some x1
  else
  (if x0 = 1 then
  b_Len_valueOf_16 x1 a2 m
  else
  b_Len_valueOf_16 x1 a3 m
  )
  )
theorem s_Len_valueOf {K : aK} {d bc bs : Nat} {g : aG} (s : Sys g) (x0 : Int32) (x1 : Int32) (a2 : Nat) (h2 : g.2.1 a2 = (0, 4)) (a3 : Nat) (h3 : g.2.1 a3 = (0, 4)) (m : aM) {r : Int32} (e : f_Len_valueOf x0 x1 a2 a3 m = some r) : Sp K M_Len_valueOf d bc bs [.int x0, .int x1, .ref a2, .ref a3] (g, m) (some (.int r)) (g, m) := by
  refine sp_of ok_Len_valueOf rfl (Nat.le_of_ble_eq_true rfl) (by simp [Value.category]) (fun Q hq => ?_)
  unfold f_Len_valueOf at e
  refine g_iload_n k_Len_valueOf_0 rfl rfl ?_
  refine g_if_ne (tgt := 6) k_Len_valueOf_1 (by decide) (fun c => ?_) (fun c => ?_)
  · rw [if_pos c] at e
    refine g_iload_n k_Len_valueOf_4 rfl rfl ?_
    refine g_iret k_Len_valueOf_5 rfl ?_
    exact (by cases e; exact hq)
  · rw [if_neg c] at e
    refine g_iload_n k_Len_valueOf_6 rfl rfl ?_
    refine g_iconst (v := 1) k_Len_valueOf_7 rfl ?_
    refine g_icmp_ne (tgt := 15) k_Len_valueOf_8 (by decide) (fun c => ?_) (fun c => ?_)
    · rw [if_pos c] at e
      refine g_aload_n k_Len_valueOf_11 rfl rfl ?_
      refine g_goto (tgt := 16) k_Len_valueOf_12 (by decide) ?_
      exact G.wl (wld (wls (wld (wld (wls wl0))))) (t_Len_valueOf_16 s m x1 a2 h2  hq e)
    · rw [if_neg c] at e
      refine g_aload_n k_Len_valueOf_15 rfl rfl ?_
      exact G.wl (wld (wls (wld (wld (wls wl0))))) (t_Len_valueOf_16 s m x1 a3 h3  hq e)
def f_Len_join (x0 : Int32) (x1 : Int32) (x2 : Int32) (m : aM) : Option Int32 :=
  (if x0 = 6 then
  some (x1 + x2)
  else
  (if x0 = 7 then
  some (x1 - x2)
  else
  (if x0 = 8 then
  some (x1 * x2)
  else
  (if x0 = 9 then
  (if x2 = 0 then
  some 0
  else
  o_gd (nz x2) <|
  some (x1 / x2)
  )
  else
  (if x0 = 10 then
  (if x2 ≤ x1 then
  some x2
  else
  some x1
  )
  else
  (if x0 = 11 then
  (if x1 ≤ x2 then
  some x2
  else
  some x1
  )
  else
  (if x0 = 12 then
  (if x2 ≤ x1 then
  some 0
  else
  some 1
  )
  else
  (if x0 = 13 then
  (if x1 ≤ x2 then
  some 0
  else
  some 1
  )
  else
  (if x0 = 14 then
  (if x1 = x2 then
  some 1
  else
  some 0
  )
  else
  (if x0 = 15 then
  some (x1 &&& x2)
  else
  some (x1 ||| x2)
  ))))))))))
theorem s_Len_join {K : aK} {d bc bs : Nat} {g : aG} (s : Sys g) (x0 : Int32) (x1 : Int32) (x2 : Int32) (m : aM) {r : Int32} (e : f_Len_join x0 x1 x2 m = some r) : Sp K M_Len_join d bc bs [.int x0, .int x1, .int x2] (g, m) (some (.int r)) (g, m) := by
  refine sp_of ok_Len_join rfl (Nat.le_of_ble_eq_true rfl) (by simp [Value.category]) (fun Q hq => ?_)
  unfold f_Len_join at e
  refine g_iload_n k_Len_join_0 rfl rfl ?_
  by_cases s_6 : x0 = 6
  · rw [if_pos s_6] at e
    refine g_tabIn (off := 55) (tgt := 56) k_Len_join_1 (by rw [s_6]; decide) (by rw [s_6]; decide) (by rw [s_6]; rfl) (by decide) ?_
    refine g_iload_n k_Len_join_56 rfl rfl ?_
    refine g_iload_n k_Len_join_57 rfl rfl ?_
    refine g_iadd k_Len_join_58 ?_
    refine g_iret k_Len_join_59 rfl ?_
    exact (by cases e; exact hq)
  rw [if_neg s_6] at e
  by_cases s_7 : x0 = 7
  · rw [if_pos s_7] at e
    refine g_tabIn (off := 59) (tgt := 60) k_Len_join_1 (by rw [s_7]; decide) (by rw [s_7]; decide) (by rw [s_7]; rfl) (by decide) ?_
    refine g_iload_n k_Len_join_60 rfl rfl ?_
    refine g_iload_n k_Len_join_61 rfl rfl ?_
    refine g_isub k_Len_join_62 ?_
    refine g_iret k_Len_join_63 rfl ?_
    exact (by cases e; exact hq)
  rw [if_neg s_7] at e
  by_cases s_8 : x0 = 8
  · rw [if_pos s_8] at e
    refine g_tabIn (off := 63) (tgt := 64) k_Len_join_1 (by rw [s_8]; decide) (by rw [s_8]; decide) (by rw [s_8]; rfl) (by decide) ?_
    refine g_iload_n k_Len_join_64 rfl rfl ?_
    refine g_iload_n k_Len_join_65 rfl rfl ?_
    refine g_imul k_Len_join_66 ?_
    refine g_iret k_Len_join_67 rfl ?_
    exact (by cases e; exact hq)
  rw [if_neg s_8] at e
  by_cases s_9 : x0 = 9
  · rw [if_pos s_9] at e
    refine g_tabIn (off := 67) (tgt := 68) k_Len_join_1 (by rw [s_9]; decide) (by rw [s_9]; decide) (by rw [s_9]; rfl) (by decide) ?_
    refine g_iload_n k_Len_join_68 rfl rfl ?_
    refine g_if_ne (tgt := 76) k_Len_join_69 (by decide) (fun c => ?_) (fun c => ?_)
    · rw [if_pos c] at e
      refine g_iconst (v := 0) k_Len_join_72 rfl ?_
      refine g_goto (tgt := 79) k_Len_join_73 (by decide) ?_
      refine g_iret k_Len_join_79 rfl ?_
      exact (by cases e; exact hq)
    · rw [if_neg c] at e
      refine g_iload_n k_Len_join_76 rfl rfl ?_
      refine g_iload_n k_Len_join_77 rfl rfl ?_
      obtain ⟨q1, e⟩ := o_gd_ex e
      refine g_idiv k_Len_join_78 (nz_ne q1) ?_
      refine g_iret k_Len_join_79 rfl ?_
      exact (by cases e; exact hq)
  rw [if_neg s_9] at e
  by_cases s_10 : x0 = 10
  · rw [if_pos s_10] at e
    refine g_tabIn (off := 79) (tgt := 80) k_Len_join_1 (by rw [s_10]; decide) (by rw [s_10]; decide) (by rw [s_10]; rfl) (by decide) ?_
    refine g_iload_n k_Len_join_80 rfl rfl ?_
    refine g_iload_n k_Len_join_81 rfl rfl ?_
    refine g_icmp_ge (tgt := 89) k_Len_join_82 (by decide) (fun c => ?_) (fun c => ?_)
    · rw [if_pos c] at e
      refine g_iload_n k_Len_join_89 rfl rfl ?_
      refine g_iret k_Len_join_90 rfl ?_
      exact (by cases e; exact hq)
    · rw [if_neg c] at e
      refine g_iload_n k_Len_join_85 rfl rfl ?_
      refine g_goto (tgt := 90) k_Len_join_86 (by decide) ?_
      refine g_iret k_Len_join_90 rfl ?_
      exact (by cases e; exact hq)
  rw [if_neg s_10] at e
  by_cases s_11 : x0 = 11
  · rw [if_pos s_11] at e
    refine g_tabIn (off := 90) (tgt := 91) k_Len_join_1 (by rw [s_11]; decide) (by rw [s_11]; decide) (by rw [s_11]; rfl) (by decide) ?_
    refine g_iload_n k_Len_join_91 rfl rfl ?_
    refine g_iload_n k_Len_join_92 rfl rfl ?_
    refine g_icmp_le (tgt := 100) k_Len_join_93 (by decide) (fun c => ?_) (fun c => ?_)
    · rw [if_pos c] at e
      refine g_iload_n k_Len_join_100 rfl rfl ?_
      refine g_iret k_Len_join_101 rfl ?_
      exact (by cases e; exact hq)
    · rw [if_neg c] at e
      refine g_iload_n k_Len_join_96 rfl rfl ?_
      refine g_goto (tgt := 101) k_Len_join_97 (by decide) ?_
      refine g_iret k_Len_join_101 rfl ?_
      exact (by cases e; exact hq)
  rw [if_neg s_11] at e
  by_cases s_12 : x0 = 12
  · rw [if_pos s_12] at e
    refine g_tabIn (off := 101) (tgt := 102) k_Len_join_1 (by rw [s_12]; decide) (by rw [s_12]; decide) (by rw [s_12]; rfl) (by decide) ?_
    refine g_iload_n k_Len_join_102 rfl rfl ?_
    refine g_iload_n k_Len_join_103 rfl rfl ?_
    refine g_icmp_ge (tgt := 111) k_Len_join_104 (by decide) (fun c => ?_) (fun c => ?_)
    · rw [if_pos c] at e
      refine g_iconst (v := 0) k_Len_join_111 rfl ?_
      refine g_iret k_Len_join_112 rfl ?_
      exact (by cases e; exact hq)
    · rw [if_neg c] at e
      refine g_iconst (v := 1) k_Len_join_107 rfl ?_
      refine g_goto (tgt := 112) k_Len_join_108 (by decide) ?_
      refine g_iret k_Len_join_112 rfl ?_
      exact (by cases e; exact hq)
  rw [if_neg s_12] at e
  by_cases s_13 : x0 = 13
  · rw [if_pos s_13] at e
    refine g_tabIn (off := 112) (tgt := 113) k_Len_join_1 (by rw [s_13]; decide) (by rw [s_13]; decide) (by rw [s_13]; rfl) (by decide) ?_
    refine g_iload_n k_Len_join_113 rfl rfl ?_
    refine g_iload_n k_Len_join_114 rfl rfl ?_
    refine g_icmp_le (tgt := 122) k_Len_join_115 (by decide) (fun c => ?_) (fun c => ?_)
    · rw [if_pos c] at e
      refine g_iconst (v := 0) k_Len_join_122 rfl ?_
      refine g_iret k_Len_join_123 rfl ?_
      exact (by cases e; exact hq)
    · rw [if_neg c] at e
      refine g_iconst (v := 1) k_Len_join_118 rfl ?_
      refine g_goto (tgt := 123) k_Len_join_119 (by decide) ?_
      refine g_iret k_Len_join_123 rfl ?_
      exact (by cases e; exact hq)
  rw [if_neg s_13] at e
  by_cases s_14 : x0 = 14
  · rw [if_pos s_14] at e
    refine g_tabIn (off := 123) (tgt := 124) k_Len_join_1 (by rw [s_14]; decide) (by rw [s_14]; decide) (by rw [s_14]; rfl) (by decide) ?_
    refine g_iload_n k_Len_join_124 rfl rfl ?_
    refine g_iload_n k_Len_join_125 rfl rfl ?_
    refine g_icmp_ne (tgt := 133) k_Len_join_126 (by decide) (fun c => ?_) (fun c => ?_)
    · rw [if_pos c] at e
      refine g_iconst (v := 1) k_Len_join_129 rfl ?_
      refine g_goto (tgt := 134) k_Len_join_130 (by decide) ?_
      refine g_iret k_Len_join_134 rfl ?_
      exact (by cases e; exact hq)
    · rw [if_neg c] at e
      refine g_iconst (v := 0) k_Len_join_133 rfl ?_
      refine g_iret k_Len_join_134 rfl ?_
      exact (by cases e; exact hq)
  rw [if_neg s_14] at e
  by_cases s_15 : x0 = 15
  · rw [if_pos s_15] at e
    refine g_tabIn (off := 134) (tgt := 135) k_Len_join_1 (by rw [s_15]; decide) (by rw [s_15]; decide) (by rw [s_15]; rfl) (by decide) ?_
    refine g_iload_n k_Len_join_135 rfl rfl ?_
    refine g_iload_n k_Len_join_136 rfl rfl ?_
    refine g_iand k_Len_join_137 ?_
    refine g_iret k_Len_join_138 rfl ?_
    exact (by cases e; exact hq)
  rw [if_neg s_15] at e
  refine g_tabOut (tgt := 139) k_Len_join_1 (by have t_6 := lv_neT (a := 6) s_6 rfl; have t_7 := lv_neT (a := 7) s_7 rfl; have t_8 := lv_neT (a := 8) s_8 rfl; have t_9 := lv_neT (a := 9) s_9 rfl; have t_10 := lv_neT (a := 10) s_10 rfl; have t_11 := lv_neT (a := 11) s_11 rfl; have t_12 := lv_neT (a := 12) s_12 rfl; have t_13 := lv_neT (a := 13) s_13 rfl; have t_14 := lv_neT (a := 14) s_14 rfl; have t_15 := lv_neT (a := 15) s_15 rfl; omega) (by decide) ?_
  refine g_iload_n k_Len_join_139 rfl rfl ?_
  refine g_iload_n k_Len_join_140 rfl rfl ?_
  refine g_ior k_Len_join_141 ?_
  refine g_iret k_Len_join_142 rfl ?_
  exact (by cases e; exact hq)
def b_Len_work_223 (F : Nat) (a0 : Nat) (x5 : Int32) (m : aM) : Option (Int32 × aM) :=
  (if x5 ≤ 0 then
  some (0, m)
  else
  o_gd (inb (x5 - 1) 64) <|
  o_let ((m (a0 + 8) ((x5 - 1).toNatClampNeg))) fun y2 =>
  some (y2, m)
  )
theorem t_Len_work_223 {K : aK} {d bc bs : Nat} {g : aG} (s : Sys g) {Q : aQ} {r : Int32} {m' : aM} (F : Nat) (a0 : Nat) (s0 : ShLen g a0) (x5 : Int32) (m : aM) (hq : Q (.inl (some (.int r))) (g, m')) (e : b_Len_work_223 F a0 x5 m = some (r, m')) (hd : 1 ≤ d) : G K M_Len_work d bc bs 223 [.ref a0, .double 0, .double 0, .double 0, .double 0, .int x5, .double 0, .double 0, .double 0, .double 0] [] (g, m) Q := by
  unfold b_Len_work_223 at e
  refine g_iload k_Len_work_223 rfl ?_
  refine g_if_le (tgt := 240) k_Len_work_225 (by decide) (fun c => ?_) (fun c => ?_)
  · rw [if_pos c] at e
    refine g_iconst (v := 0) k_Len_work_240 rfl ?_
    refine g_iret k_Len_work_241 rfl ?_
    exact (by cases e; exact hq)
  · rw [if_neg c] at e
    refine g_aload_n k_Len_work_228 rfl rfl ?_
    refine p_getr k_Len_work_229 fl_Len_34 rfl (sk_Len s0) (by decide) (sr_Len_9 s0) ?_
    refine g_iload k_Len_work_232 rfl ?_
    refine g_iconst (v := 1) k_Len_work_234 rfl ?_
    refine g_isub k_Len_work_235 ?_
    obtain ⟨q1, e⟩ := o_gd_ex e
    refine p_iald k_Len_work_236 (sa_Len_9 s0) (inb_in q1) (j := (x5 - 1).toNatClampNeg) rfl ?_
    obtain ⟨y2, u_y2, e⟩ := o_let_ex e
    refine G.vy u_y2 ?_
    refine g_goto (tgt := 241) k_Len_work_237 (by decide) ?_
    refine g_iret k_Len_work_241 rfl ?_
    exact (by cases e; exact hq)
def b_Len_work_217 (F : Nat) (rec_9 : Nat → Int32 → Nat → Nat → Int32 → Int32 → Int32 → aM → Option (Int32 × aM)) (a0 : Nat) (x2 : Int32) (a3 : Nat) (a4 : Nat) (x5 : Int32) (x6 : Int32) (x7 : Int32) (m : aM) : Option (Int32 × aM) :=
  rec_9 a0 x2 a3 a4 x5 x6 (x7 + 1) m
theorem t_Len_work_217 {K : aK} {d bc bs : Nat} {g : aG} (s : Sys g) {Q : aQ} {r : Int32} {m' : aM} (F : Nat) (rec_9 : Nat → Int32 → Nat → Nat → Int32 → Int32 → Int32 → aM → Option (Int32 × aM)) (hr_9 : ∀ (a0 : Nat) (s0 : ShLen g a0) (x2 : Int32) (a3 : Nat) (h3 : g.2.1 a3 = (0, 4)) (a4 : Nat) (h4 : g.2.1 a4 = (0, 4)) (x5 : Int32) (x6 : Int32) (x7 : Int32) (m : aM), rec_9 a0 x2 a3 a4 x5 x6 x7 m = some (r, m') → G K M_Len_work d bc bs 9 [.ref a0, .double 0, .int x2, .ref a3, .ref a4, .int x5, .int x6, .int x7, .double 0, .double 0] [] (g, m) Q) (a0 : Nat) (s0 : ShLen g a0) (x2 : Int32) (a3 : Nat) (h3 : g.2.1 a3 = (0, 4)) (a4 : Nat) (h4 : g.2.1 a4 = (0, 4)) (x5 : Int32) (x6 : Int32) (x7 : Int32) (m : aM) (hq : Q (.inl (some (.int r))) (g, m')) (e : b_Len_work_217 F rec_9 a0 x2 a3 a4 x5 x6 x7 m = some (r, m')) (hd : 1 ≤ d) : G K M_Len_work d bc bs 217 [.ref a0, .double 0, .int x2, .ref a3, .ref a4, .int x5, .int x6, .int x7, .double 0, .double 0] [] (g, m) Q := by
  unfold b_Len_work_217 at e
  refine g_iinc (v := _ + 1) k_Len_work_217 rfl rfl (by decide) ?_
  refine g_goto (tgt := 9) k_Len_work_220 (by decide) ?_
  exact (hr_9 a0 s0 x2 a3 h3 a4 h4 x5 x6 (x7 + 1) m e)
def b_Len_work_142 (F : Nat) (rec_9 : Nat → Int32 → Nat → Nat → Int32 → Int32 → Int32 → aM → Option (Int32 × aM)) (a0 : Nat) (x2 : Int32) (a3 : Nat) (a4 : Nat) (x5 : Int32) (x7 : Int32) (xt0 : Int32) (m : aM) : Option (Int32 × aM) :=
  b_Len_work_217 F rec_9 a0 x2 a3 a4 x5 xt0 x7 m
theorem t_Len_work_142 {K : aK} {d bc bs : Nat} {g : aG} (s : Sys g) {Q : aQ} {r : Int32} {m' : aM} (F : Nat) (rec_9 : Nat → Int32 → Nat → Nat → Int32 → Int32 → Int32 → aM → Option (Int32 × aM)) (hr_9 : ∀ (a0 : Nat) (s0 : ShLen g a0) (x2 : Int32) (a3 : Nat) (h3 : g.2.1 a3 = (0, 4)) (a4 : Nat) (h4 : g.2.1 a4 = (0, 4)) (x5 : Int32) (x6 : Int32) (x7 : Int32) (m : aM), rec_9 a0 x2 a3 a4 x5 x6 x7 m = some (r, m') → G K M_Len_work d bc bs 9 [.ref a0, .double 0, .int x2, .ref a3, .ref a4, .int x5, .int x6, .int x7, .double 0, .double 0] [] (g, m) Q) (a0 : Nat) (s0 : ShLen g a0) (x2 : Int32) (a3 : Nat) (h3 : g.2.1 a3 = (0, 4)) (a4 : Nat) (h4 : g.2.1 a4 = (0, 4)) (x5 : Int32) (x7 : Int32) (xt0 : Int32) (m : aM) (hq : Q (.inl (some (.int r))) (g, m')) (e : b_Len_work_142 F rec_9 a0 x2 a3 a4 x5 x7 xt0 m = some (r, m')) (hd : 1 ≤ d) : G K M_Len_work d bc bs 142 [.ref a0, .double 0, .int x2, .ref a3, .ref a4, .int x5, .double 0, .int x7, .double 0, .double 0] [.int xt0] (g, m) Q := by
  unfold b_Len_work_142 at e
  refine g_istore k_Len_work_142 (by decide) ?_
  refine g_goto (tgt := 217) k_Len_work_144 (by decide) ?_
  exact (t_Len_work_217 s F rec_9 hr_9 a0 s0 x2 a3 h3 a4 h4 x5 xt0 x7 m hq e hd)
def lb_Len_work_9 (F : Nat) (rec_9 : Nat → Int32 → Nat → Nat → Int32 → Int32 → Int32 → aM → Option (Int32 × aM)) (a0 : Nat) (x2 : Int32) (a3 : Nat) (a4 : Nat) (x5 : Int32) (x6 : Int32) (x7 : Int32) (m : aM) : Option (Int32 × aM) :=
  (if 400 ≤ x7 then
  b_Len_work_223 F a0 x5 m
  else
  (if x6 < 0 then
  b_Len_work_223 F a0 x5 m
  else
  (if x2 ≤ x6 then
  b_Len_work_223 F a0 x5 m
  else
  (if 400 ≤ x6 then
  b_Len_work_223 F a0 x5 m
  else
  o_gd (inb x6 400) <|
  o_let ((m (a0 + 1) x6.toNatClampNeg)) fun y2 =>
  o_gd (inb x6 400) <|
  o_let ((m (a0 + 2) x6.toNatClampNeg)) fun y4 =>
  (if 2 < y2 then
  (if y2 = 3 then
  b_Len_work_217 F rec_9 a0 x2 a3 a4 x5 y4 x7 m
  else
  (if 1 ≤ x5 then
  (if y2 = 4 then
  o_gd (inb (x5 - 1) 64) <|
  o_let ((m (a0 + 8) ((x5 - 1).toNatClampNeg))) fun y6 =>
  (if y6 = 0 then
  b_Len_work_142 F rec_9 a0 x2 a3 a4 (x5 - 1) x7 y4 m
  else
  b_Len_work_142 F rec_9 a0 x2 a3 a4 (x5 - 1) x7 (x6 + 1) m
  )
  else
  (if y2 = 5 then
  o_gd (inb (x5 - 1) 64) <|
  o_let ((m (a0 + 8) ((x5 - 1).toNatClampNeg))) fun y8 =>
  o_gd (inb (x5 - 1) 64) <|
  o_let (a_st m (a0 + 8) ((x5 - 1).toNatClampNeg) (1 - y8)) fun m10 =>
  b_Len_work_217 F rec_9 a0 x2 a3 a4 x5 (x6 + 1) x7 m10
  else
  (if 2 ≤ x5 then
  o_gd (inb ((x5 - 1) - 1) 64) <|
  o_let ((m (a0 + 8) (((x5 - 1) - 1).toNatClampNeg))) fun y12 =>
  o_gd (inb (x5 - 1) 64) <|
  o_let ((m (a0 + 8) ((x5 - 1).toNatClampNeg))) fun y14 =>
  o_b (f_Len_join y2 y12 y14 m) fun y15 =>
  o_gd (inb ((x5 - 1) - 1) 64) <|
  o_let (a_st m (a0 + 8) (((x5 - 1) - 1).toNatClampNeg) y15) fun m17 =>
  b_Len_work_217 F rec_9 a0 x2 a3 a4 (x5 - 1) (x6 + 1) x7 m17
  else
  some (0, m)
  )
  )
  )
  else
  some (0, m)
  )
  )
  else
  (if x5 < 64 then
  o_b (f_Len_valueOf y2 y4 a3 a4 m) fun y18 =>
  o_gd (inb x5 64) <|
  o_let (a_st m (a0 + 8) x5.toNatClampNeg y18) fun m20 =>
  b_Len_work_217 F rec_9 a0 x2 a3 a4 (x5 + 1) (x6 + 1) x7 m20
  else
  some (0, m)
  )
  )
  )
  )
  )
  )
theorem tb_Len_work_9 {K : aK} {d bc bs : Nat} {g : aG} (s : Sys g) {Q : aQ} {r : Int32} {m' : aM} (F : Nat) (rec_9 : Nat → Int32 → Nat → Nat → Int32 → Int32 → Int32 → aM → Option (Int32 × aM)) (hr_9 : ∀ (a0 : Nat) (s0 : ShLen g a0) (x2 : Int32) (a3 : Nat) (h3 : g.2.1 a3 = (0, 4)) (a4 : Nat) (h4 : g.2.1 a4 = (0, 4)) (x5 : Int32) (x6 : Int32) (x7 : Int32) (m : aM), rec_9 a0 x2 a3 a4 x5 x6 x7 m = some (r, m') → G K M_Len_work d bc bs 9 [.ref a0, .double 0, .int x2, .ref a3, .ref a4, .int x5, .int x6, .int x7, .double 0, .double 0] [] (g, m) Q) (a0 : Nat) (s0 : ShLen g a0) (x2 : Int32) (a3 : Nat) (h3 : g.2.1 a3 = (0, 4)) (a4 : Nat) (h4 : g.2.1 a4 = (0, 4)) (x5 : Int32) (x6 : Int32) (x7 : Int32) (m : aM) (hq : Q (.inl (some (.int r))) (g, m')) (e : lb_Len_work_9 F rec_9 a0 x2 a3 a4 x5 x6 x7 m = some (r, m')) (hd : 1 ≤ d) : G K M_Len_work d bc bs 9 [.ref a0, .double 0, .int x2, .ref a3, .ref a4, .int x5, .int x6, .int x7, .double 0, .double 0] [] (g, m) Q := by
  unfold lb_Len_work_9 at e
  refine g_iload k_Len_work_9 rfl ?_
  refine g_sipush (v := 400) k_Len_work_11 rfl ?_
  refine g_icmp_ge (tgt := 223) k_Len_work_14 (by decide) (fun c => ?_) (fun c => ?_)
  · rw [if_pos c] at e
    exact G.wl (wls (wls (wld (wld (wld (wls (wld (wld (wls (wls wl0)))))))))) (t_Len_work_223 s F a0 s0 x5 m hq e hd)
  · rw [if_neg c] at e
    refine g_iload k_Len_work_17 rfl ?_
    refine g_if_lt (tgt := 223) k_Len_work_19 (by decide) (fun c => ?_) (fun c => ?_)
    · rw [if_pos c] at e
      exact G.wl (wls (wls (wld (wld (wld (wls (wld (wld (wls (wls wl0)))))))))) (t_Len_work_223 s F a0 s0 x5 m hq e hd)
    · rw [if_neg c] at e
      refine g_iload k_Len_work_22 rfl ?_
      refine g_iload_n k_Len_work_24 rfl rfl ?_
      refine g_icmp_ge (tgt := 223) k_Len_work_25 (by decide) (fun c => ?_) (fun c => ?_)
      · rw [if_pos c] at e
        exact G.wl (wls (wls (wld (wld (wld (wls (wld (wld (wls (wls wl0)))))))))) (t_Len_work_223 s F a0 s0 x5 m hq e hd)
      · rw [if_neg c] at e
        refine g_iload k_Len_work_28 rfl ?_
        refine g_sipush (v := 400) k_Len_work_30 rfl ?_
        refine g_icmp_ge (tgt := 223) k_Len_work_33 (by decide) (fun c => ?_) (fun c => ?_)
        · rw [if_pos c] at e
          exact G.wl (wls (wls (wld (wld (wld (wls (wld (wld (wls (wls wl0)))))))))) (t_Len_work_223 s F a0 s0 x5 m hq e hd)
        · rw [if_neg c] at e
          refine g_aload_n k_Len_work_36 rfl rfl ?_
          refine p_getr k_Len_work_37 fl_Len_11 rfl (sk_Len s0) (by decide) (sr_Len_0 s0) ?_
          refine g_iload k_Len_work_40 rfl ?_
          obtain ⟨q1, e⟩ := o_gd_ex e
          refine p_iald k_Len_work_42 (sa_Len_0 s0) (inb_in q1) (j := x6.toNatClampNeg) rfl ?_
          obtain ⟨y2, u_y2, e⟩ := o_let_ex e
          refine G.vy u_y2 ?_
          refine g_istore k_Len_work_43 (by decide) ?_
          refine g_aload_n k_Len_work_45 rfl rfl ?_
          refine p_getr k_Len_work_46 fl_Len_15 rfl (sk_Len s0) (by decide) (sr_Len_1 s0) ?_
          refine g_iload k_Len_work_49 rfl ?_
          obtain ⟨q3, e⟩ := o_gd_ex e
          refine p_iald k_Len_work_51 (sa_Len_1 s0) (inb_in q3) (j := x6.toNatClampNeg) rfl ?_
          obtain ⟨y4, u_y4, e⟩ := o_let_ex e
          refine G.vy u_y4 ?_
          refine g_istore k_Len_work_52 (by decide) ?_
          refine g_iinc (v := _ + 1) k_Len_work_54 rfl rfl (by decide) ?_
          refine g_iload k_Len_work_57 rfl ?_
          refine g_iconst (v := 2) k_Len_work_59 rfl ?_
          refine g_icmp_gt (tgt := 95) k_Len_work_60 (by decide) (fun c => ?_) (fun c => ?_)
          · rw [if_pos c] at e
            refine g_iload k_Len_work_95 rfl ?_
            refine g_iconst (v := 3) k_Len_work_97 rfl ?_
            refine g_icmp_ne (tgt := 108) k_Len_work_98 (by decide) (fun c => ?_) (fun c => ?_)
            · rw [if_pos c] at e
              refine g_iload k_Len_work_101 rfl ?_
              refine g_istore k_Len_work_103 (by decide) ?_
              refine g_goto (tgt := 217) k_Len_work_105 (by decide) ?_
              exact G.wl (wls (wls (wls (wls (wls (wls (wls (wls (wld (wld wl0)))))))))) (t_Len_work_217 s F rec_9 hr_9 a0 s0 x2 a3 h3 a4 h4 x5 y4 x7 m hq e hd)
            · rw [if_neg c] at e
              refine g_iload k_Len_work_108 rfl ?_
              refine g_iconst (v := 1) k_Len_work_110 rfl ?_
              refine g_icmp_ge (tgt := 116) k_Len_work_111 (by decide) (fun c => ?_) (fun c => ?_)
              · rw [if_pos c] at e
                refine g_iload k_Len_work_116 rfl ?_
                refine g_iconst (v := 4) k_Len_work_118 rfl ?_
                refine g_icmp_ne (tgt := 147) k_Len_work_119 (by decide) (fun c => ?_) (fun c => ?_)
                · rw [if_pos c] at e
                  refine g_iinc k_Len_work_122 rfl (i_m1 _) (by decide) ?_
                  refine g_aload_n k_Len_work_125 rfl rfl ?_
                  refine p_getr k_Len_work_126 fl_Len_34 rfl (sk_Len s0) (by decide) (sr_Len_9 s0) ?_
                  refine g_iload k_Len_work_129 rfl ?_
                  obtain ⟨q5, e⟩ := o_gd_ex e
                  refine p_iald k_Len_work_131 (sa_Len_9 s0) (inb_in q5) (j := (x5 - 1).toNatClampNeg) rfl ?_
                  obtain ⟨y6, u_y6, e⟩ := o_let_ex e
                  refine G.vy u_y6 ?_
                  refine g_if_ne (tgt := 140) k_Len_work_132 (by decide) (fun c => ?_) (fun c => ?_)
                  · rw [if_pos c] at e
                    refine g_iload k_Len_work_135 rfl ?_
                    refine g_goto (tgt := 142) k_Len_work_137 (by decide) ?_
                    exact G.wl (wls (wls (wls (wls (wls (wls (wld (wls (wld (wld wl0)))))))))) (t_Len_work_142 s F rec_9 hr_9 a0 s0 x2 a3 h3 a4 h4 (x5 - 1) x7 y4 m hq e hd)
                  · rw [if_neg c] at e
                    refine g_iload k_Len_work_140 rfl ?_
                    exact G.wl (wls (wls (wls (wls (wls (wls (wld (wls (wld (wld wl0)))))))))) (t_Len_work_142 s F rec_9 hr_9 a0 s0 x2 a3 h3 a4 h4 (x5 - 1) x7 (x6 + 1) m hq e hd)
                · rw [if_neg c] at e
                  refine g_iload k_Len_work_147 rfl ?_
                  refine g_iconst (v := 5) k_Len_work_149 rfl ?_
                  refine g_icmp_ne (tgt := 176) k_Len_work_150 (by decide) (fun c => ?_) (fun c => ?_)
                  · rw [if_pos c] at e
                    refine g_aload_n k_Len_work_153 rfl rfl ?_
                    refine p_getr k_Len_work_154 fl_Len_34 rfl (sk_Len s0) (by decide) (sr_Len_9 s0) ?_
                    refine g_iload k_Len_work_157 rfl ?_
                    refine g_iconst (v := 1) k_Len_work_159 rfl ?_
                    refine g_isub k_Len_work_160 ?_
                    refine g_iconst (v := 1) k_Len_work_161 rfl ?_
                    refine g_aload_n k_Len_work_162 rfl rfl ?_
                    refine p_getr k_Len_work_163 fl_Len_34 rfl (sk_Len s0) (by decide) (sr_Len_9 s0) ?_
                    refine g_iload k_Len_work_166 rfl ?_
                    refine g_iconst (v := 1) k_Len_work_168 rfl ?_
                    refine g_isub k_Len_work_169 ?_
                    obtain ⟨q7, e⟩ := o_gd_ex e
                    refine p_iald k_Len_work_170 (sa_Len_9 s0) (inb_in q7) (j := (x5 - 1).toNatClampNeg) rfl ?_
                    obtain ⟨y8, u_y8, e⟩ := o_let_ex e
                    refine G.vy u_y8 ?_
                    refine g_isub k_Len_work_171 ?_
                    obtain ⟨q9, e⟩ := o_gd_ex e
                    refine p_iast k_Len_work_172 (sa_Len_9 s0) (inb_in q9) (j := (x5 - 1).toNatClampNeg) rfl ?_
                    obtain ⟨m10, u_m10, e⟩ := o_let_ex e
                    refine G.hm u_m10 ?_
                    refine g_goto (tgt := 217) k_Len_work_173 (by decide) ?_
                    exact G.wl (wls (wls (wls (wls (wls (wls (wls (wls (wld (wld wl0)))))))))) (t_Len_work_217 s F rec_9 hr_9 a0 s0 x2 a3 h3 a4 h4 x5 (x6 + 1) x7 m10 hq e hd)
                  · rw [if_neg c] at e
                    refine g_iload k_Len_work_176 rfl ?_
                    refine g_iconst (v := 2) k_Len_work_178 rfl ?_
                    refine g_icmp_ge (tgt := 184) k_Len_work_179 (by decide) (fun c => ?_) (fun c => ?_)
                    · rw [if_pos c] at e
                      refine g_iinc k_Len_work_184 rfl (i_m1 _) (by decide) ?_
                      refine g_aload_n k_Len_work_187 rfl rfl ?_
                      refine p_getr k_Len_work_188 fl_Len_34 rfl (sk_Len s0) (by decide) (sr_Len_9 s0) ?_
                      refine g_iload k_Len_work_191 rfl ?_
                      refine g_iconst (v := 1) k_Len_work_193 rfl ?_
                      refine g_isub k_Len_work_194 ?_
                      refine g_iload k_Len_work_195 rfl ?_
                      refine g_aload_n k_Len_work_197 rfl rfl ?_
                      refine p_getr k_Len_work_198 fl_Len_34 rfl (sk_Len s0) (by decide) (sr_Len_9 s0) ?_
                      refine g_iload k_Len_work_201 rfl ?_
                      refine g_iconst (v := 1) k_Len_work_203 rfl ?_
                      refine g_isub k_Len_work_204 ?_
                      obtain ⟨q11, e⟩ := o_gd_ex e
                      refine p_iald k_Len_work_205 (sa_Len_9 s0) (inb_in q11) (j := ((x5 - 1) - 1).toNatClampNeg) rfl ?_
                      obtain ⟨y12, u_y12, e⟩ := o_let_ex e
                      refine G.vy u_y12 ?_
                      refine g_aload_n k_Len_work_206 rfl rfl ?_
                      refine p_getr k_Len_work_207 fl_Len_34 rfl (sk_Len s0) (by decide) (sr_Len_9 s0) ?_
                      refine g_iload k_Len_work_210 rfl ?_
                      obtain ⟨q13, e⟩ := o_gd_ex e
                      refine p_iald k_Len_work_212 (sa_Len_9 s0) (inb_in q13) (j := (x5 - 1).toNatClampNeg) rfl ?_
                      obtain ⟨y14, u_y14, e⟩ := o_let_ex e
                      refine G.vy u_y14 ?_
                      obtain ⟨y15, e_y15, e⟩ := o_b_ex e
                      refine g_cs k_Len_work_213 ls_Len_64 (by decide +kernel) (s_Len_join (bc := 0) (bs := 0) s y2 y12 y14 m e_y15) rfl rfl (Nat.le_of_ble_eq_true rfl) (by simp [Value.category]) (by omega) (by omega) (by omega) ?_
                      obtain ⟨q16, e⟩ := o_gd_ex e
                      refine p_iast k_Len_work_216 (sa_Len_9 s0) (inb_in q16) (j := ((x5 - 1) - 1).toNatClampNeg) rfl ?_
                      obtain ⟨m17, u_m17, e⟩ := o_let_ex e
                      refine G.hm u_m17 ?_
                      exact G.wl (wls (wls (wls (wls (wls (wls (wls (wls (wld (wld wl0)))))))))) (t_Len_work_217 s F rec_9 hr_9 a0 s0 x2 a3 h3 a4 h4 (x5 - 1) (x6 + 1) x7 m17 hq e hd)
                    · rw [if_neg c] at e
                      refine g_iconst (v := 0) k_Len_work_182 rfl ?_
                      refine g_iret k_Len_work_183 rfl ?_
                      exact (by cases e; exact hq)
              · rw [if_neg c] at e
                refine g_iconst (v := 0) k_Len_work_114 rfl ?_
                refine g_iret k_Len_work_115 rfl ?_
                exact (by cases e; exact hq)
          · rw [if_neg c] at e
            refine g_iload k_Len_work_63 rfl ?_
            refine g_bipush (v := 64) k_Len_work_65 rfl ?_
            refine g_icmp_lt (tgt := 72) k_Len_work_67 (by decide) (fun c => ?_) (fun c => ?_)
            · rw [if_pos c] at e
              refine g_aload_n k_Len_work_72 rfl rfl ?_
              refine p_getr k_Len_work_73 fl_Len_34 rfl (sk_Len s0) (by decide) (sr_Len_9 s0) ?_
              refine g_iload k_Len_work_76 rfl ?_
              refine g_iload k_Len_work_78 rfl ?_
              refine g_iload k_Len_work_80 rfl ?_
              refine g_aload_n k_Len_work_82 rfl rfl ?_
              refine g_aload k_Len_work_83 rfl ?_
              obtain ⟨y18, e_y18, e⟩ := o_b_ex e
              refine g_cs k_Len_work_85 ls_Len_61 (by decide +kernel) (s_Len_valueOf (bc := 0) (bs := 0) s y2 y4 a3 h3 a4 h4 m e_y18) rfl rfl (Nat.le_of_ble_eq_true rfl) (by simp [Value.category]) (by omega) (by omega) (by omega) ?_
              obtain ⟨q19, e⟩ := o_gd_ex e
              refine p_iast k_Len_work_88 (sa_Len_9 s0) (inb_in q19) (j := x5.toNatClampNeg) rfl ?_
              obtain ⟨m20, u_m20, e⟩ := o_let_ex e
              refine G.hm u_m20 ?_
              refine g_iinc (v := _ + 1) k_Len_work_89 rfl rfl (by decide) ?_
              refine g_goto (tgt := 217) k_Len_work_92 (by decide) ?_
              exact G.wl (wls (wls (wls (wls (wls (wls (wls (wls (wld (wld wl0)))))))))) (t_Len_work_217 s F rec_9 hr_9 a0 s0 x2 a3 h3 a4 h4 (x5 + 1) (x6 + 1) x7 m20 hq e hd)
            · rw [if_neg c] at e
              refine g_iconst (v := 0) k_Len_work_70 rfl ?_
              refine g_iret k_Len_work_71 rfl ?_
              exact (by cases e; exact hq)
def ll_Len_work_9 (F : Nat) : Nat → Nat → Int32 → Nat → Nat → Int32 → Int32 → Int32 → aM → Option (Int32 × aM)
  | 0, _, _, _, _, _, _, _, _ => none
  | N + 1, a0, x2, a3, a4, x5, x6, x7, m => lb_Len_work_9 F (ll_Len_work_9 F N) a0 x2 a3 a4 x5 x6 x7 m
theorem t_Len_work_9 {K : aK} {d bc bs : Nat} {g : aG} (s : Sys g) {Q : aQ} {r : Int32} {m' : aM} (F : Nat) : ∀ (N : Nat) (a0 : Nat) (s0 : ShLen g a0) (x2 : Int32) (a3 : Nat) (h3 : g.2.1 a3 = (0, 4)) (a4 : Nat) (h4 : g.2.1 a4 = (0, 4)) (x5 : Int32) (x6 : Int32) (x7 : Int32) (m : aM), Q (.inl (some (.int r))) (g, m') → ll_Len_work_9 F N a0 x2 a3 a4 x5 x6 x7 m = some (r, m') → 1 ≤ d → G K M_Len_work d bc bs 9 [.ref a0, .double 0, .int x2, .ref a3, .ref a4, .int x5, .int x6, .int x7, .double 0, .double 0] [] (g, m) Q
  | 0, _, _, _, _, _, _, _, _, _, _, _ => fun _ e => nomatch e
  | N + 1, a0, s0, x2, a3, h3, a4, h4, x5, x6, x7, m => fun hq e hd => tb_Len_work_9 s F (ll_Len_work_9 F N) (fun a0 s0 x2 a3 h3 a4 h4 x5 x6 x7 m e => t_Len_work_9 s F N a0 s0 x2 a3 h3 a4 h4 x5 x6 x7 m hq e hd) a0 s0 x2 a3 h3 a4 h4 x5 x6 x7 m hq e hd
def f_Len_work (F : Nat) (a0 : Nat) (x1 : Int32) (x2 : Int32) (a3 : Nat) (a4 : Nat) (m : aM) : Option (Int32 × aM) :=
  ll_Len_work_9 F F a0 x2 a3 a4 0 x1 0 m
theorem s_Len_work {K : aK} {d bc bs : Nat} {g : aG} (s : Sys g) (F : Nat) (a0 : Nat) (s0 : ShLen g a0) (x1 : Int32) (x2 : Int32) (a3 : Nat) (h3 : g.2.1 a3 = (0, 4)) (a4 : Nat) (h4 : g.2.1 a4 = (0, 4)) (m : aM) {r : Int32} {m' : aM} (e : f_Len_work F a0 x1 x2 a3 a4 m = some (r, m')) (hd : 1 ≤ d) : Sp K M_Len_work d bc bs [.ref a0, .int x1, .int x2, .ref a3, .ref a4] (g, m) (some (.int r)) (g, m') := by
  refine sp_of ok_Len_work rfl (Nat.le_of_ble_eq_true rfl) (by simp [Value.category]) (fun Q hq => ?_)
  unfold f_Len_work at e
  refine g_iconst (v := 0) k_Len_work_0 rfl ?_
  refine g_istore k_Len_work_1 (by decide) ?_
  refine g_iload_n k_Len_work_3 rfl rfl ?_
  refine g_istore k_Len_work_4 (by decide) ?_
  refine g_iconst (v := 0) k_Len_work_6 rfl ?_
  refine g_istore k_Len_work_7 (by decide) ?_
  exact G.wl (wls (wld (wls (wls (wls (wls (wls (wls (wls (wls wl0)))))))))) (t_Len_work_9 s F F a0 s0 x2 a3 h3 a4 h4 0 x1 0 m hq e hd)
def lb_Len_toNew_2 (F : Nat) (rec_2 : Nat → Nat → Nat → Int32 → aM → Option (Int32 × aM)) (a0 : Nat) (a1 : Nat) (a2 : Nat) (x3 : Int32) (m : aM) : Option (Int32 × aM) :=
  (if 4 ≤ x3 then
  some (0, m)
  else
  (if 4 ≤ x3 then
  some (0, m)
  else
  o_gd (inb (4 + x3) 8) <|
  o_let ((m (a0 + 3) ((4 + x3).toNatClampNeg))) fun y2 =>
  o_gd (inb (4 + x3) 8) <|
  o_let ((m (a0 + 4) ((4 + x3).toNatClampNeg))) fun y4 =>
  o_b2 (f_Len_work F a0 y2 y4 a1 a1 m) fun y5 m6 =>
  o_gd (inb x3 4) <|
  o_let (a_st m6 a2 x3.toNatClampNeg y5) fun m8 =>
  rec_2 a0 a1 a2 (x3 + 1) m8
  )
  )
theorem tb_Len_toNew_2 {K : aK} {d bc bs : Nat} {g : aG} (s : Sys g) {Q : aQ} {r : Int32} {m' : aM} (F : Nat) (rec_2 : Nat → Nat → Nat → Int32 → aM → Option (Int32 × aM)) (hr_2 : ∀ (a0 : Nat) (s0 : ShLen g a0) (a1 : Nat) (h1 : g.2.1 a1 = (0, 4)) (a2 : Nat) (h2 : g.2.1 a2 = (0, 4)) (x3 : Int32) (m : aM), rec_2 a0 a1 a2 x3 m = some (r, m') → G K M_Len_toNew d bc bs 2 [.ref a0, .ref a1, .ref a2, .int x3, .double 0] [] (g, m) Q) (a0 : Nat) (s0 : ShLen g a0) (a1 : Nat) (h1 : g.2.1 a1 = (0, 4)) (a2 : Nat) (h2 : g.2.1 a2 = (0, 4)) (x3 : Int32) (m : aM) (hq : Q (.inl none) (g, m')) (e : lb_Len_toNew_2 F rec_2 a0 a1 a2 x3 m = some (r, m')) (hd : 2 ≤ d) : G K M_Len_toNew d bc bs 2 [.ref a0, .ref a1, .ref a2, .int x3, .double 0] [] (g, m) Q := by
  unfold lb_Len_toNew_2 at e
  refine g_iload_n k_Len_toNew_2 rfl rfl ?_
  refine g_iconst (v := 4) k_Len_toNew_3 rfl ?_
  refine g_icmp_ge (tgt := 47) k_Len_toNew_4 (by decide) (fun c => ?_) (fun c => ?_)
  · rw [if_pos c] at e
    refine g_vret k_Len_toNew_47 rfl ?_
    exact (by cases e; exact hq)
  · rw [if_neg c] at e
    refine g_iload_n k_Len_toNew_7 rfl rfl ?_
    refine g_aload_n k_Len_toNew_8 rfl rfl ?_
    refine p_alen (v := 4) k_Len_toNew_9 h2 (by decide) rfl ?_
    refine g_icmp_ge (tgt := 47) k_Len_toNew_10 (by decide) (fun c => ?_) (fun c => ?_)
    · rw [if_pos c] at e
      refine g_vret k_Len_toNew_47 rfl ?_
      exact (by cases e; exact hq)
    · rw [if_neg c] at e
      refine g_iconst (v := 4) k_Len_toNew_13 rfl ?_
      refine g_iload_n k_Len_toNew_14 rfl rfl ?_
      refine g_iadd k_Len_toNew_15 ?_
      refine g_istore k_Len_toNew_16 (by decide) ?_
      refine g_aload_n k_Len_toNew_18 rfl rfl ?_
      refine g_iload_n k_Len_toNew_19 rfl rfl ?_
      refine g_aload_n k_Len_toNew_20 rfl rfl ?_
      refine g_aload_n k_Len_toNew_21 rfl rfl ?_
      refine p_getr k_Len_toNew_22 fl_Len_18 rfl (sk_Len s0) (by decide) (sr_Len_3 s0) ?_
      refine g_iload k_Len_toNew_25 rfl ?_
      obtain ⟨q1, e⟩ := o_gd_ex e
      refine p_iald k_Len_toNew_27 (sa_Len_3 s0) (inb_in q1) (j := (4 + x3).toNatClampNeg) rfl ?_
      obtain ⟨y2, u_y2, e⟩ := o_let_ex e
      refine G.vy u_y2 ?_
      refine g_aload_n k_Len_toNew_28 rfl rfl ?_
      refine p_getr k_Len_toNew_29 fl_Len_21 rfl (sk_Len s0) (by decide) (sr_Len_4 s0) ?_
      refine g_iload k_Len_toNew_32 rfl ?_
      obtain ⟨q3, e⟩ := o_gd_ex e
      refine p_iald k_Len_toNew_34 (sa_Len_4 s0) (inb_in q3) (j := (4 + x3).toNatClampNeg) rfl ?_
      obtain ⟨y4, u_y4, e⟩ := o_let_ex e
      refine G.vy u_y4 ?_
      refine g_aload_n k_Len_toNew_35 rfl rfl ?_
      refine g_aload_n k_Len_toNew_36 rfl rfl ?_
      obtain ⟨y5, m6, e_y5, e⟩ := o_b2_ex e
      refine g_cv k_Len_toNew_37 lv_Len_57 (by decide +kernel) (T := F_Len) (N := 11) (ci := 2) rfl (sk_Len s0) (s_Len_work (bc := 0) (bs := 0) s F a0 s0 y2 y4 a1 h1 a1 h1 m e_y5 (by omega)) rfl rfl (Nat.le_of_ble_eq_true rfl) (by simp [Value.category]) (by omega) (by omega) (by omega) ?_
      obtain ⟨q7, e⟩ := o_gd_ex e
      refine p_iast k_Len_toNew_40 h2 (inb_in q7) (j := x3.toNatClampNeg) rfl ?_
      obtain ⟨m8, u_m8, e⟩ := o_let_ex e
      refine G.hm u_m8 ?_
      refine g_iinc (v := _ + 1) k_Len_toNew_41 rfl rfl (by decide) ?_
      refine g_goto (tgt := 2) k_Len_toNew_44 (by decide) ?_
      exact G.wl (wls (wls (wls (wls (wld wl0))))) (hr_2 a0 s0 a1 h1 a2 h2 (x3 + 1) m8 e)
def ll_Len_toNew_2 (F : Nat) : Nat → Nat → Nat → Nat → Int32 → aM → Option (Int32 × aM)
  | 0, _, _, _, _, _ => none
  | N + 1, a0, a1, a2, x3, m => lb_Len_toNew_2 F (ll_Len_toNew_2 F N) a0 a1 a2 x3 m
theorem t_Len_toNew_2 {K : aK} {d bc bs : Nat} {g : aG} (s : Sys g) {Q : aQ} {r : Int32} {m' : aM} (F : Nat) : ∀ (N : Nat) (a0 : Nat) (s0 : ShLen g a0) (a1 : Nat) (h1 : g.2.1 a1 = (0, 4)) (a2 : Nat) (h2 : g.2.1 a2 = (0, 4)) (x3 : Int32) (m : aM), Q (.inl none) (g, m') → ll_Len_toNew_2 F N a0 a1 a2 x3 m = some (r, m') → 2 ≤ d → G K M_Len_toNew d bc bs 2 [.ref a0, .ref a1, .ref a2, .int x3, .double 0] [] (g, m) Q
  | 0, _, _, _, _, _, _, _, _ => fun _ e => nomatch e
  | N + 1, a0, s0, a1, h1, a2, h2, x3, m => fun hq e hd => tb_Len_toNew_2 s F (ll_Len_toNew_2 F N) (fun a0 s0 a1 h1 a2 h2 x3 m e => t_Len_toNew_2 s F N a0 s0 a1 h1 a2 h2 x3 m hq e hd) a0 s0 a1 h1 a2 h2 x3 m hq e hd
def f_Len_toNew (F : Nat) (a0 : Nat) (a1 : Nat) (a2 : Nat) (m : aM) : Option (Int32 × aM) :=
  ll_Len_toNew_2 F F a0 a1 a2 0 m
theorem s_Len_toNew {K : aK} {d bc bs : Nat} {g : aG} (s : Sys g) (F : Nat) (a0 : Nat) (s0 : ShLen g a0) (a1 : Nat) (h1 : g.2.1 a1 = (0, 4)) (a2 : Nat) (h2 : g.2.1 a2 = (0, 4)) (m : aM) {r : Int32} {m' : aM} (e : f_Len_toNew F a0 a1 a2 m = some (r, m')) (hd : 2 ≤ d) : Sp K M_Len_toNew d bc bs [.ref a0, .ref a1, .ref a2] (g, m) none (g, m') := by
  refine sp_of ok_Len_toNew rfl (Nat.le_of_ble_eq_true rfl) (by simp [Value.category]) (fun Q hq => ?_)
  unfold f_Len_toNew at e
  refine g_iconst (v := 0) k_Len_toNew_0 rfl ?_
  refine g_istore_n k_Len_toNew_1 rfl (by decide) ?_
  exact (t_Len_toNew_2 s F F a0 s0 a1 h1 a2 h2 0 m hq e hd)
def b_Len_toBeside_37 (F : Nat) (rec_2 : Nat → Nat → Nat → Int32 → aM → Option (Int32 × aM)) (a0 : Nat) (a1 : Nat) (a2 : Nat) (x3 : Int32) (xt0 : Int32) (xt1 : Int32) (at2 : Nat) (m : aM) : Option (Int32 × aM) :=
  o_gd (inb xt1 4) <|
  o_let (a_st m at2 xt1.toNatClampNeg xt0) fun m2 =>
  rec_2 a0 a1 a2 (x3 + 1) m2
theorem t_Len_toBeside_37 {K : aK} {d bc bs : Nat} {g : aG} (s : Sys g) {Q : aQ} {r : Int32} {m' : aM} (F : Nat) (rec_2 : Nat → Nat → Nat → Int32 → aM → Option (Int32 × aM)) (hr_2 : ∀ (a0 : Nat) (s0 : ShLen g a0) (a1 : Nat) (h1 : g.2.1 a1 = (0, 4)) (a2 : Nat) (h2 : g.2.1 a2 = (0, 4)) (x3 : Int32) (m : aM), rec_2 a0 a1 a2 x3 m = some (r, m') → G K M_Len_toBeside d bc bs 2 [.ref a0, .ref a1, .ref a2, .int x3] [] (g, m) Q) (a0 : Nat) (s0 : ShLen g a0) (a1 : Nat) (h1 : g.2.1 a1 = (0, 4)) (a2 : Nat) (h2 : g.2.1 a2 = (0, 4)) (x3 : Int32) (xt0 : Int32) (xt1 : Int32) (at2 : Nat) (ht2 : g.2.1 at2 = (0, 4)) (m : aM) (hq : Q (.inl none) (g, m')) (e : b_Len_toBeside_37 F rec_2 a0 a1 a2 x3 xt0 xt1 at2 m = some (r, m')) : G K M_Len_toBeside d bc bs 37 [.ref a0, .ref a1, .ref a2, .int x3] [.int xt0, .int xt1, .ref at2] (g, m) Q := by
  unfold b_Len_toBeside_37 at e
  obtain ⟨q1, e⟩ := o_gd_ex e
  refine p_iast k_Len_toBeside_37 ht2 (inb_in q1) (j := xt1.toNatClampNeg) rfl ?_
  obtain ⟨m2, u_m2, e⟩ := o_let_ex e
  refine G.hm u_m2 ?_
  refine g_iinc (v := _ + 1) k_Len_toBeside_38 rfl rfl (by decide) ?_
  refine g_goto (tgt := 2) k_Len_toBeside_41 (by decide) ?_
  exact (hr_2 a0 s0 a1 h1 a2 h2 (x3 + 1) m2 e)
def lb_Len_toBeside_2 (F : Nat) (rec_2 : Nat → Nat → Nat → Int32 → aM → Option (Int32 × aM)) (a0 : Nat) (a1 : Nat) (a2 : Nat) (x3 : Int32) (m : aM) : Option (Int32 × aM) :=
  (if 4 ≤ x3 then
  some (0, m)
  else
  (if 4 ≤ x3 then
  some (0, m)
  else
  (if 4 ≤ x3 then
  some (0, m)
  else
  o_gd (inb x3 4) <|
  o_let ((m (a0 + 7) x3.toNatClampNeg)) fun y2 =>
  (if y2 = 0 then
  b_Len_toBeside_37 F rec_2 a0 a1 a2 x3 0 x3 a2 m
  else
  o_gd (inb x3 4) <|
  b_Len_toBeside_37 F rec_2 a0 a1 a2 x3 (m a1 x3.toNatClampNeg) x3 a2 m
  )
  )
  )
  )
theorem tb_Len_toBeside_2 {K : aK} {d bc bs : Nat} {g : aG} (s : Sys g) {Q : aQ} {r : Int32} {m' : aM} (F : Nat) (rec_2 : Nat → Nat → Nat → Int32 → aM → Option (Int32 × aM)) (hr_2 : ∀ (a0 : Nat) (s0 : ShLen g a0) (a1 : Nat) (h1 : g.2.1 a1 = (0, 4)) (a2 : Nat) (h2 : g.2.1 a2 = (0, 4)) (x3 : Int32) (m : aM), rec_2 a0 a1 a2 x3 m = some (r, m') → G K M_Len_toBeside d bc bs 2 [.ref a0, .ref a1, .ref a2, .int x3] [] (g, m) Q) (a0 : Nat) (s0 : ShLen g a0) (a1 : Nat) (h1 : g.2.1 a1 = (0, 4)) (a2 : Nat) (h2 : g.2.1 a2 = (0, 4)) (x3 : Int32) (m : aM) (hq : Q (.inl none) (g, m')) (e : lb_Len_toBeside_2 F rec_2 a0 a1 a2 x3 m = some (r, m')) : G K M_Len_toBeside d bc bs 2 [.ref a0, .ref a1, .ref a2, .int x3] [] (g, m) Q := by
  unfold lb_Len_toBeside_2 at e
  refine g_iload_n k_Len_toBeside_2 rfl rfl ?_
  refine g_iconst (v := 4) k_Len_toBeside_3 rfl ?_
  refine g_icmp_ge (tgt := 44) k_Len_toBeside_4 (by decide) (fun c => ?_) (fun c => ?_)
  · rw [if_pos c] at e
    refine g_vret k_Len_toBeside_44 rfl ?_
    exact (by cases e; exact hq)
  · rw [if_neg c] at e
    refine g_iload_n k_Len_toBeside_7 rfl rfl ?_
    refine g_aload_n k_Len_toBeside_8 rfl rfl ?_
    refine p_alen (v := 4) k_Len_toBeside_9 h1 (by decide) rfl ?_
    refine g_icmp_ge (tgt := 44) k_Len_toBeside_10 (by decide) (fun c => ?_) (fun c => ?_)
    · rw [if_pos c] at e
      refine g_vret k_Len_toBeside_44 rfl ?_
      exact (by cases e; exact hq)
    · rw [if_neg c] at e
      refine g_iload_n k_Len_toBeside_13 rfl rfl ?_
      refine g_aload_n k_Len_toBeside_14 rfl rfl ?_
      refine p_alen (v := 4) k_Len_toBeside_15 h2 (by decide) rfl ?_
      refine g_icmp_ge (tgt := 44) k_Len_toBeside_16 (by decide) (fun c => ?_) (fun c => ?_)
      · rw [if_pos c] at e
        refine g_vret k_Len_toBeside_44 rfl ?_
        exact (by cases e; exact hq)
      · rw [if_neg c] at e
        refine g_aload_n k_Len_toBeside_19 rfl rfl ?_
        refine g_iload_n k_Len_toBeside_20 rfl rfl ?_
        refine g_aload_n k_Len_toBeside_21 rfl rfl ?_
        refine p_getr k_Len_toBeside_22 fl_Len_30 rfl (sk_Len s0) (by decide) (sr_Len_8 s0) ?_
        refine g_iload_n k_Len_toBeside_25 rfl rfl ?_
        obtain ⟨q1, e⟩ := o_gd_ex e
        refine p_zald k_Len_toBeside_26 (sa_Len_8 s0) (inb_in q1) (j := x3.toNatClampNeg) rfl ?_
        obtain ⟨y2, u_y2, e⟩ := o_let_ex e
        refine G.vy u_y2 ?_
        refine g_if_eq (tgt := 36) k_Len_toBeside_27 (by decide) (fun c => ?_) (fun c => ?_)
        · rw [if_pos c] at e
          refine g_iconst (v := 0) k_Len_toBeside_36 rfl ?_
          exact (t_Len_toBeside_37 s F rec_2 hr_2 a0 s0 a1 h1 a2 h2 x3 0 x3 a2 h2 m hq e)
        · rw [if_neg c] at e
          refine g_aload_n k_Len_toBeside_30 rfl rfl ?_
          refine g_iload_n k_Len_toBeside_31 rfl rfl ?_
          obtain ⟨q3, e⟩ := o_gd_ex e
          refine p_iald k_Len_toBeside_32 h1 (inb_in q3) (j := x3.toNatClampNeg) rfl ?_
          refine g_goto (tgt := 37) k_Len_toBeside_33 (by decide) ?_
          exact (t_Len_toBeside_37 s F rec_2 hr_2 a0 s0 a1 h1 a2 h2 x3 (m a1 x3.toNatClampNeg) x3 a2 h2 m hq e)
def ll_Len_toBeside_2 (F : Nat) : Nat → Nat → Nat → Nat → Int32 → aM → Option (Int32 × aM)
  | 0, _, _, _, _, _ => none
  | N + 1, a0, a1, a2, x3, m => lb_Len_toBeside_2 F (ll_Len_toBeside_2 F N) a0 a1 a2 x3 m
theorem t_Len_toBeside_2 {K : aK} {d bc bs : Nat} {g : aG} (s : Sys g) {Q : aQ} {r : Int32} {m' : aM} (F : Nat) : ∀ (N : Nat) (a0 : Nat) (s0 : ShLen g a0) (a1 : Nat) (h1 : g.2.1 a1 = (0, 4)) (a2 : Nat) (h2 : g.2.1 a2 = (0, 4)) (x3 : Int32) (m : aM), Q (.inl none) (g, m') → ll_Len_toBeside_2 F N a0 a1 a2 x3 m = some (r, m') → G K M_Len_toBeside d bc bs 2 [.ref a0, .ref a1, .ref a2, .int x3] [] (g, m) Q
  | 0, _, _, _, _, _, _, _, _ => fun _ e => nomatch e
  | N + 1, a0, s0, a1, h1, a2, h2, x3, m => fun hq e => tb_Len_toBeside_2 s F (ll_Len_toBeside_2 F N) (fun a0 s0 a1 h1 a2 h2 x3 m e => t_Len_toBeside_2 s F N a0 s0 a1 h1 a2 h2 x3 m hq e) a0 s0 a1 h1 a2 h2 x3 m hq e
def f_Len_toBeside (F : Nat) (a0 : Nat) (a1 : Nat) (a2 : Nat) (m : aM) : Option (Int32 × aM) :=
  ll_Len_toBeside_2 F F a0 a1 a2 0 m
theorem s_Len_toBeside {K : aK} {d bc bs : Nat} {g : aG} (s : Sys g) (F : Nat) (a0 : Nat) (s0 : ShLen g a0) (a1 : Nat) (h1 : g.2.1 a1 = (0, 4)) (a2 : Nat) (h2 : g.2.1 a2 = (0, 4)) (m : aM) {r : Int32} {m' : aM} (e : f_Len_toBeside F a0 a1 a2 m = some (r, m')) : Sp K M_Len_toBeside d bc bs [.ref a0, .ref a1, .ref a2] (g, m) none (g, m') := by
  refine sp_of ok_Len_toBeside rfl (Nat.le_of_ble_eq_true rfl) (by simp [Value.category]) (fun Q hq => ?_)
  unfold f_Len_toBeside at e
  refine g_iconst (v := 0) k_Len_toBeside_0 rfl ?_
  refine g_istore_n k_Len_toBeside_1 rfl (by decide) ?_
  exact (t_Len_toBeside_2 s F F a0 s0 a1 h1 a2 h2 0 m hq e)
def f_Len_isKept (a0 : Nat) (x1 : Int32) (m : aM) : Option Int32 :=
  (if x1 < 0 then
  some 0
  else
  (if 4 ≤ x1 then
  some 0
  else
  o_gd (inb x1 4) <|
  o_let ((m (a0 + 7) x1.toNatClampNeg)) fun y2 =>
  (if y2 = 0 then
  some 0
  else
  some 1
  )
  )
  )
theorem s_Len_isKept {K : aK} {d bc bs : Nat} {g : aG} (s : Sys g) (a0 : Nat) (s0 : ShLen g a0) (x1 : Int32) (m : aM) {r : Int32} (e : f_Len_isKept a0 x1 m = some r) : Sp K M_Len_isKept d bc bs [.ref a0, .int x1] (g, m) (some (.int r)) (g, m) := by
  refine sp_of ok_Len_isKept rfl (Nat.le_of_ble_eq_true rfl) (by simp [Value.category]) (fun Q hq => ?_)
  unfold f_Len_isKept at e
  refine g_iload_n k_Len_isKept_0 rfl rfl ?_
  refine g_if_lt (tgt := 22) k_Len_isKept_1 (by decide) (fun c => ?_) (fun c => ?_)
  · rw [if_pos c] at e
    refine g_iconst (v := 0) k_Len_isKept_22 rfl ?_
    refine g_zret k_Len_isKept_23 rfl (by decide) ?_
    exact (by cases e; exact hq)
  · rw [if_neg c] at e
    refine g_iload_n k_Len_isKept_4 rfl rfl ?_
    refine g_iconst (v := 4) k_Len_isKept_5 rfl ?_
    refine g_icmp_ge (tgt := 22) k_Len_isKept_6 (by decide) (fun c => ?_) (fun c => ?_)
    · rw [if_pos c] at e
      refine g_iconst (v := 0) k_Len_isKept_22 rfl ?_
      refine g_zret k_Len_isKept_23 rfl (by decide) ?_
      exact (by cases e; exact hq)
    · rw [if_neg c] at e
      refine g_aload_n k_Len_isKept_9 rfl rfl ?_
      refine p_getr k_Len_isKept_10 fl_Len_30 rfl (sk_Len s0) (by decide) (sr_Len_8 s0) ?_
      refine g_iload_n k_Len_isKept_13 rfl rfl ?_
      obtain ⟨q1, e⟩ := o_gd_ex e
      refine p_zald k_Len_isKept_14 (sa_Len_8 s0) (inb_in q1) (j := x1.toNatClampNeg) rfl ?_
      obtain ⟨y2, u_y2, e⟩ := o_let_ex e
      refine G.vy u_y2 ?_
      refine g_if_eq (tgt := 22) k_Len_isKept_15 (by decide) (fun c => ?_) (fun c => ?_)
      · rw [if_pos c] at e
        refine g_iconst (v := 0) k_Len_isKept_22 rfl ?_
        refine g_zret k_Len_isKept_23 rfl (by decide) ?_
        exact (by cases e; exact hq)
      · rw [if_neg c] at e
        refine g_iconst (v := 1) k_Len_isKept_18 rfl ?_
        refine g_goto (tgt := 23) k_Len_isKept_19 (by decide) ?_
        refine g_zret k_Len_isKept_23 rfl (by decide) ?_
        exact (by cases e; exact hq)
def lb_Len_isRight_2 (F : Nat) (rec_2 : Nat → Nat → Nat → Int32 → aM → Option (Int32 × aM)) (a0 : Nat) (a1 : Nat) (a2 : Nat) (x3 : Int32) (m : aM) : Option (Int32 × aM) :=
  (if (m a0 7) ≤ x3 then
  some (1, m)
  else
  (if 16 ≤ x3 then
  some (1, m)
  else
  o_gd (inb x3 16) <|
  o_let ((m (a0 + 5) x3.toNatClampNeg)) fun y2 =>
  o_gd (inb x3 16) <|
  o_let ((m (a0 + 6) x3.toNatClampNeg)) fun y4 =>
  o_b2 (f_Len_work F a0 y2 y4 a2 a1 m) fun y5 m6 =>
  (if y5 = 0 then
  some (0, m6)
  else
  rec_2 a0 a1 a2 (x3 + 1) m6
  )
  )
  )
theorem tb_Len_isRight_2 {K : aK} {d bc bs : Nat} {g : aG} (s : Sys g) {Q : aQ} {r : Int32} {m' : aM} (F : Nat) (rec_2 : Nat → Nat → Nat → Int32 → aM → Option (Int32 × aM)) (hr_2 : ∀ (a0 : Nat) (s0 : ShLen g a0) (a1 : Nat) (h1 : g.2.1 a1 = (0, 4)) (a2 : Nat) (h2 : g.2.1 a2 = (0, 4)) (x3 : Int32) (m : aM), rec_2 a0 a1 a2 x3 m = some (r, m') → G K M_Len_isRight d bc bs 2 [.ref a0, .ref a1, .ref a2, .int x3] [] (g, m) Q) (a0 : Nat) (s0 : ShLen g a0) (a1 : Nat) (h1 : g.2.1 a1 = (0, 4)) (a2 : Nat) (h2 : g.2.1 a2 = (0, 4)) (x3 : Int32) (m : aM) (hq : Q (.inl (some (.int r))) (g, m')) (e : lb_Len_isRight_2 F rec_2 a0 a1 a2 x3 m = some (r, m')) (hd : 2 ≤ d) : G K M_Len_isRight d bc bs 2 [.ref a0, .ref a1, .ref a2, .int x3] [] (g, m) Q := by
  unfold lb_Len_isRight_2 at e
  refine g_iload_n k_Len_isRight_2 rfl rfl ?_
  refine g_aload_n k_Len_isRight_3 rfl rfl ?_
  refine p_geti k_Len_isRight_4 fl_Len_45 rfl (sk_Len s0) (by decide) ?_
  refine g_icmp_ge (tgt := 45) k_Len_isRight_7 (by decide) (fun c => ?_) (fun c => ?_)
  · rw [if_pos c] at e
    refine g_iconst (v := 1) k_Len_isRight_45 rfl ?_
    refine g_zret k_Len_isRight_46 rfl (by decide) ?_
    exact (by cases e; exact hq)
  · rw [if_neg c] at e
    refine g_iload_n k_Len_isRight_10 rfl rfl ?_
    refine g_bipush (v := 16) k_Len_isRight_11 rfl ?_
    refine g_icmp_ge (tgt := 45) k_Len_isRight_13 (by decide) (fun c => ?_) (fun c => ?_)
    · rw [if_pos c] at e
      refine g_iconst (v := 1) k_Len_isRight_45 rfl ?_
      refine g_zret k_Len_isRight_46 rfl (by decide) ?_
      exact (by cases e; exact hq)
    · rw [if_neg c] at e
      refine g_aload_n k_Len_isRight_16 rfl rfl ?_
      refine g_aload_n k_Len_isRight_17 rfl rfl ?_
      refine p_getr k_Len_isRight_18 fl_Len_24 rfl (sk_Len s0) (by decide) (sr_Len_5 s0) ?_
      refine g_iload_n k_Len_isRight_21 rfl rfl ?_
      obtain ⟨q1, e⟩ := o_gd_ex e
      refine p_iald k_Len_isRight_22 (sa_Len_5 s0) (inb_in q1) (j := x3.toNatClampNeg) rfl ?_
      obtain ⟨y2, u_y2, e⟩ := o_let_ex e
      refine G.vy u_y2 ?_
      refine g_aload_n k_Len_isRight_23 rfl rfl ?_
      refine p_getr k_Len_isRight_24 fl_Len_27 rfl (sk_Len s0) (by decide) (sr_Len_6 s0) ?_
      refine g_iload_n k_Len_isRight_27 rfl rfl ?_
      obtain ⟨q3, e⟩ := o_gd_ex e
      refine p_iald k_Len_isRight_28 (sa_Len_6 s0) (inb_in q3) (j := x3.toNatClampNeg) rfl ?_
      obtain ⟨y4, u_y4, e⟩ := o_let_ex e
      refine G.vy u_y4 ?_
      refine g_aload_n k_Len_isRight_29 rfl rfl ?_
      refine g_aload_n k_Len_isRight_30 rfl rfl ?_
      obtain ⟨y5, m6, e_y5, e⟩ := o_b2_ex e
      refine g_cv k_Len_isRight_31 lv_Len_57 (by decide +kernel) (T := F_Len) (N := 11) (ci := 2) rfl (sk_Len s0) (s_Len_work (bc := 0) (bs := 0) s F a0 s0 y2 y4 a2 h2 a1 h1 m e_y5 (by omega)) rfl rfl (Nat.le_of_ble_eq_true rfl) (by simp [Value.category]) (by omega) (by omega) (by omega) ?_
      refine g_if_ne (tgt := 39) k_Len_isRight_34 (by decide) (fun c => ?_) (fun c => ?_)
      · rw [if_pos c] at e
        refine g_iconst (v := 0) k_Len_isRight_37 rfl ?_
        refine g_zret k_Len_isRight_38 rfl (by decide) ?_
        exact (by cases e; exact hq)
      · rw [if_neg c] at e
        refine g_iinc (v := _ + 1) k_Len_isRight_39 rfl rfl (by decide) ?_
        refine g_goto (tgt := 2) k_Len_isRight_42 (by decide) ?_
        exact (hr_2 a0 s0 a1 h1 a2 h2 (x3 + 1) m6 e)
def ll_Len_isRight_2 (F : Nat) : Nat → Nat → Nat → Nat → Int32 → aM → Option (Int32 × aM)
  | 0, _, _, _, _, _ => none
  | N + 1, a0, a1, a2, x3, m => lb_Len_isRight_2 F (ll_Len_isRight_2 F N) a0 a1 a2 x3 m
theorem t_Len_isRight_2 {K : aK} {d bc bs : Nat} {g : aG} (s : Sys g) {Q : aQ} {r : Int32} {m' : aM} (F : Nat) : ∀ (N : Nat) (a0 : Nat) (s0 : ShLen g a0) (a1 : Nat) (h1 : g.2.1 a1 = (0, 4)) (a2 : Nat) (h2 : g.2.1 a2 = (0, 4)) (x3 : Int32) (m : aM), Q (.inl (some (.int r))) (g, m') → ll_Len_isRight_2 F N a0 a1 a2 x3 m = some (r, m') → 2 ≤ d → G K M_Len_isRight d bc bs 2 [.ref a0, .ref a1, .ref a2, .int x3] [] (g, m) Q
  | 0, _, _, _, _, _, _, _, _ => fun _ e => nomatch e
  | N + 1, a0, s0, a1, h1, a2, h2, x3, m => fun hq e hd => tb_Len_isRight_2 s F (ll_Len_isRight_2 F N) (fun a0 s0 a1 h1 a2 h2 x3 m e => t_Len_isRight_2 s F N a0 s0 a1 h1 a2 h2 x3 m hq e hd) a0 s0 a1 h1 a2 h2 x3 m hq e hd
def f_Len_isRight (F : Nat) (a0 : Nat) (a1 : Nat) (a2 : Nat) (m : aM) : Option (Int32 × aM) :=
  ll_Len_isRight_2 F F a0 a1 a2 0 m
theorem s_Len_isRight {K : aK} {d bc bs : Nat} {g : aG} (s : Sys g) (F : Nat) (a0 : Nat) (s0 : ShLen g a0) (a1 : Nat) (h1 : g.2.1 a1 = (0, 4)) (a2 : Nat) (h2 : g.2.1 a2 = (0, 4)) (m : aM) {r : Int32} {m' : aM} (e : f_Len_isRight F a0 a1 a2 m = some (r, m')) (hd : 2 ≤ d) : Sp K M_Len_isRight d bc bs [.ref a0, .ref a1, .ref a2] (g, m) (some (.int r)) (g, m') := by
  refine sp_of ok_Len_isRight rfl (Nat.le_of_ble_eq_true rfl) (by simp [Value.category]) (fun Q hq => ?_)
  unfold f_Len_isRight at e
  refine g_iconst (v := 0) k_Len_isRight_0 rfl ?_
  refine g_istore_n k_Len_isRight_1 rfl (by decide) ?_
  exact (t_Len_isRight_2 s F F a0 s0 a1 h1 a2 h2 0 m hq e hd)
def lb_Len_empty_45 (F : Nat) (rec_45 : Nat → Int32 → aM → Option (Int32 × aM)) (a0 : Nat) (x1 : Int32) (m : aM) : Option (Int32 × aM) :=
  (if 4 ≤ x1 then
  some (0, m)
  else
  o_gd (inb x1 4) <|
  o_let (a_st m (a0 + 7) x1.toNatClampNeg 0) fun m2 =>
  rec_45 a0 (x1 + 1) m2
  )
theorem tb_Len_empty_45 {K : aK} {d bc bs : Nat} {g : aG} (s : Sys g) {Q : aQ} {r : Int32} {m' : aM} (F : Nat) (rec_45 : Nat → Int32 → aM → Option (Int32 × aM)) (hr_45 : ∀ (a0 : Nat) (s0 : ShLen g a0) (x1 : Int32) (m : aM), rec_45 a0 x1 m = some (r, m') → G K M_Len_empty d bc bs 45 [.ref a0, .int x1] [] (g, m) Q) (a0 : Nat) (s0 : ShLen g a0) (x1 : Int32) (m : aM) (hq : Q (.inl none) (g, m')) (e : lb_Len_empty_45 F rec_45 a0 x1 m = some (r, m')) : G K M_Len_empty d bc bs 45 [.ref a0, .int x1] [] (g, m) Q := by
  unfold lb_Len_empty_45 at e
  refine g_iload_n k_Len_empty_45 rfl rfl ?_
  refine g_iconst (v := 4) k_Len_empty_46 rfl ?_
  refine g_icmp_ge (tgt := 63) k_Len_empty_47 (by decide) (fun c => ?_) (fun c => ?_)
  · rw [if_pos c] at e
    refine g_vret k_Len_empty_63 rfl ?_
    exact (by cases e; exact hq)
  · rw [if_neg c] at e
    refine g_aload_n k_Len_empty_50 rfl rfl ?_
    refine p_getr k_Len_empty_51 fl_Len_30 rfl (sk_Len s0) (by decide) (sr_Len_8 s0) ?_
    refine g_iload_n k_Len_empty_54 rfl rfl ?_
    refine g_iconst (v := 0) k_Len_empty_55 rfl ?_
    obtain ⟨q1, e⟩ := o_gd_ex e
    refine p_zast k_Len_empty_56 (sa_Len_8 s0) (inb_in q1) (j := x1.toNatClampNeg) rfl (by decide) ?_
    obtain ⟨m2, u_m2, e⟩ := o_let_ex e
    refine G.hm u_m2 ?_
    refine g_iinc (v := _ + 1) k_Len_empty_57 rfl rfl (by decide) ?_
    refine g_goto (tgt := 45) k_Len_empty_60 (by decide) ?_
    exact (hr_45 a0 s0 (x1 + 1) m2 e)
def ll_Len_empty_45 (F : Nat) : Nat → Nat → Int32 → aM → Option (Int32 × aM)
  | 0, _, _, _ => none
  | N + 1, a0, x1, m => lb_Len_empty_45 F (ll_Len_empty_45 F N) a0 x1 m
theorem t_Len_empty_45 {K : aK} {d bc bs : Nat} {g : aG} (s : Sys g) {Q : aQ} {r : Int32} {m' : aM} (F : Nat) : ∀ (N : Nat) (a0 : Nat) (s0 : ShLen g a0) (x1 : Int32) (m : aM), Q (.inl none) (g, m') → ll_Len_empty_45 F N a0 x1 m = some (r, m') → G K M_Len_empty d bc bs 45 [.ref a0, .int x1] [] (g, m) Q
  | 0, _, _, _, _ => fun _ e => nomatch e
  | N + 1, a0, s0, x1, m => fun hq e => tb_Len_empty_45 s F (ll_Len_empty_45 F N) (fun a0 s0 x1 m e => t_Len_empty_45 s F N a0 s0 x1 m hq e) a0 s0 x1 m hq e
def lb_Len_empty_17 (F : Nat) (rec_17 : Nat → Int32 → aM → Option (Int32 × aM)) (a0 : Nat) (x1 : Int32) (m : aM) : Option (Int32 × aM) :=
  (if 8 ≤ x1 then
  ll_Len_empty_45 F F a0 0 m
  else
  o_gd (inb x1 8) <|
  o_let (a_st m (a0 + 3) x1.toNatClampNeg 0) fun m2 =>
  o_gd (inb x1 8) <|
  o_let (a_st m2 (a0 + 4) x1.toNatClampNeg 0) fun m4 =>
  rec_17 a0 (x1 + 1) m4
  )
theorem tb_Len_empty_17 {K : aK} {d bc bs : Nat} {g : aG} (s : Sys g) {Q : aQ} {r : Int32} {m' : aM} (F : Nat) (rec_17 : Nat → Int32 → aM → Option (Int32 × aM)) (hr_17 : ∀ (a0 : Nat) (s0 : ShLen g a0) (x1 : Int32) (m : aM), rec_17 a0 x1 m = some (r, m') → G K M_Len_empty d bc bs 17 [.ref a0, .int x1] [] (g, m) Q) (a0 : Nat) (s0 : ShLen g a0) (x1 : Int32) (m : aM) (hq : Q (.inl none) (g, m')) (e : lb_Len_empty_17 F rec_17 a0 x1 m = some (r, m')) : G K M_Len_empty d bc bs 17 [.ref a0, .int x1] [] (g, m) Q := by
  unfold lb_Len_empty_17 at e
  refine g_iload_n k_Len_empty_17 rfl rfl ?_
  refine g_bipush (v := 8) k_Len_empty_18 rfl ?_
  refine g_icmp_ge (tgt := 43) k_Len_empty_20 (by decide) (fun c => ?_) (fun c => ?_)
  · rw [if_pos c] at e
    refine g_iconst (v := 0) k_Len_empty_43 rfl ?_
    refine g_istore_n k_Len_empty_44 rfl (by decide) ?_
    exact (t_Len_empty_45 s F F a0 s0 0 m hq e)
  · rw [if_neg c] at e
    refine g_aload_n k_Len_empty_23 rfl rfl ?_
    refine p_getr k_Len_empty_24 fl_Len_18 rfl (sk_Len s0) (by decide) (sr_Len_3 s0) ?_
    refine g_iload_n k_Len_empty_27 rfl rfl ?_
    refine g_iconst (v := 0) k_Len_empty_28 rfl ?_
    obtain ⟨q1, e⟩ := o_gd_ex e
    refine p_iast k_Len_empty_29 (sa_Len_3 s0) (inb_in q1) (j := x1.toNatClampNeg) rfl ?_
    obtain ⟨m2, u_m2, e⟩ := o_let_ex e
    refine G.hm u_m2 ?_
    refine g_aload_n k_Len_empty_30 rfl rfl ?_
    refine p_getr k_Len_empty_31 fl_Len_21 rfl (sk_Len s0) (by decide) (sr_Len_4 s0) ?_
    refine g_iload_n k_Len_empty_34 rfl rfl ?_
    refine g_iconst (v := 0) k_Len_empty_35 rfl ?_
    obtain ⟨q3, e⟩ := o_gd_ex e
    refine p_iast k_Len_empty_36 (sa_Len_4 s0) (inb_in q3) (j := x1.toNatClampNeg) rfl ?_
    obtain ⟨m4, u_m4, e⟩ := o_let_ex e
    refine G.hm u_m4 ?_
    refine g_iinc (v := _ + 1) k_Len_empty_37 rfl rfl (by decide) ?_
    refine g_goto (tgt := 17) k_Len_empty_40 (by decide) ?_
    exact (hr_17 a0 s0 (x1 + 1) m4 e)
def ll_Len_empty_17 (F : Nat) : Nat → Nat → Int32 → aM → Option (Int32 × aM)
  | 0, _, _, _ => none
  | N + 1, a0, x1, m => lb_Len_empty_17 F (ll_Len_empty_17 F N) a0 x1 m
theorem t_Len_empty_17 {K : aK} {d bc bs : Nat} {g : aG} (s : Sys g) {Q : aQ} {r : Int32} {m' : aM} (F : Nat) : ∀ (N : Nat) (a0 : Nat) (s0 : ShLen g a0) (x1 : Int32) (m : aM), Q (.inl none) (g, m') → ll_Len_empty_17 F N a0 x1 m = some (r, m') → G K M_Len_empty d bc bs 17 [.ref a0, .int x1] [] (g, m) Q
  | 0, _, _, _, _ => fun _ e => nomatch e
  | N + 1, a0, s0, x1, m => fun hq e => tb_Len_empty_17 s F (ll_Len_empty_17 F N) (fun a0 s0 x1 m e => t_Len_empty_17 s F N a0 s0 x1 m hq e) a0 s0 x1 m hq e
def f_Len_empty (F : Nat) (a0 : Nat) (m : aM) : Option (Int32 × aM) :=
  o_let (a_st m a0 2 0) fun m1 =>
  o_let (a_st m1 a0 7 0) fun m2 =>
  o_let (a_st m2 a0 10 0) fun m3 =>
  ll_Len_empty_17 F F a0 0 m3
theorem s_Len_empty {K : aK} {d bc bs : Nat} {g : aG} (s : Sys g) (F : Nat) (a0 : Nat) (s0 : ShLen g a0) (m : aM) {r : Int32} {m' : aM} (e : f_Len_empty F a0 m = some (r, m')) : Sp K M_Len_empty d bc bs [.ref a0] (g, m) none (g, m') := by
  refine sp_of ok_Len_empty rfl (Nat.le_of_ble_eq_true rfl) (by simp [Value.category]) (fun Q hq => ?_)
  unfold f_Len_empty at e
  refine g_aload_n k_Len_empty_0 rfl rfl ?_
  refine g_iconst (v := 0) k_Len_empty_1 rfl ?_
  refine p_puti k_Len_empty_2 fl_Len_41 rfl ⟨R_Len, F_Len, 11, rfl, Or.inl rfl⟩ (sk_Len s0) (by decide) ?_
  obtain ⟨m1, u_m1, e⟩ := o_let_ex e
  refine G.hm u_m1 ?_
  refine g_aload_n k_Len_empty_5 rfl rfl ?_
  refine g_iconst (v := 0) k_Len_empty_6 rfl ?_
  refine p_puti k_Len_empty_7 fl_Len_45 rfl ⟨R_Len, F_Len, 11, rfl, Or.inl rfl⟩ (sk_Len s0) (by decide) ?_
  obtain ⟨m2, u_m2, e⟩ := o_let_ex e
  refine G.hm u_m2 ?_
  refine g_aload_n k_Len_empty_10 rfl rfl ?_
  refine g_iconst (v := 0) k_Len_empty_11 rfl ?_
  refine p_puti k_Len_empty_12 fl_Len_48 rfl ⟨R_Len, F_Len, 11, rfl, Or.inl rfl⟩ (sk_Len s0) (by decide) ?_
  obtain ⟨m3, u_m3, e⟩ := o_let_ex e
  refine G.hm u_m3 ?_
  refine g_iconst (v := 0) k_Len_empty_15 rfl ?_
  refine g_istore_n k_Len_empty_16 rfl (by decide) ?_
  exact (t_Len_empty_17 s F F a0 s0 0 m3 hq e)
def f_Len_keepLetter (a0 : Nat) (x1 : Int32) (m : aM) : Option (Int32 × aM) :=
  (if x1 < 0 then
  some (0, m)
  else
  (if 4 ≤ x1 then
  some (0, m)
  else
  o_gd (inb x1 4) <|
  o_let (a_st m (a0 + 7) x1.toNatClampNeg 1) fun m2 =>
  some (0, m2)
  )
  )
theorem s_Len_keepLetter {K : aK} {d bc bs : Nat} {g : aG} (s : Sys g) (a0 : Nat) (s0 : ShLen g a0) (x1 : Int32) (m : aM) {r : Int32} {m' : aM} (e : f_Len_keepLetter a0 x1 m = some (r, m')) : Sp K M_Len_keepLetter d bc bs [.ref a0, .int x1] (g, m) none (g, m') := by
  refine sp_of ok_Len_keepLetter rfl (Nat.le_of_ble_eq_true rfl) (by simp [Value.category]) (fun Q hq => ?_)
  unfold f_Len_keepLetter at e
  refine g_iload_n k_Len_keepLetter_0 rfl rfl ?_
  refine g_if_lt (tgt := 16) k_Len_keepLetter_1 (by decide) (fun c => ?_) (fun c => ?_)
  · rw [if_pos c] at e
    refine g_vret k_Len_keepLetter_16 rfl ?_
    exact (by cases e; exact hq)
  · rw [if_neg c] at e
    refine g_iload_n k_Len_keepLetter_4 rfl rfl ?_
    refine g_iconst (v := 4) k_Len_keepLetter_5 rfl ?_
    refine g_icmp_ge (tgt := 16) k_Len_keepLetter_6 (by decide) (fun c => ?_) (fun c => ?_)
    · rw [if_pos c] at e
      refine g_vret k_Len_keepLetter_16 rfl ?_
      exact (by cases e; exact hq)
    · rw [if_neg c] at e
      refine g_aload_n k_Len_keepLetter_9 rfl rfl ?_
      refine p_getr k_Len_keepLetter_10 fl_Len_30 rfl (sk_Len s0) (by decide) (sr_Len_8 s0) ?_
      refine g_iload_n k_Len_keepLetter_13 rfl rfl ?_
      refine g_iconst (v := 1) k_Len_keepLetter_14 rfl ?_
      obtain ⟨q1, e⟩ := o_gd_ex e
      refine p_zast k_Len_keepLetter_15 (sa_Len_8 s0) (inb_in q1) (j := x1.toNatClampNeg) rfl (by decide) ?_
      obtain ⟨m2, u_m2, e⟩ := o_let_ex e
      refine G.hm u_m2 ?_
      refine g_vret k_Len_keepLetter_16 rfl ?_
      exact (by cases e; exact hq)
def f_Len_here (a0 : Nat) (m : aM) : Option Int32 :=
  some (m a0 2)
theorem s_Len_here {K : aK} {d bc bs : Nat} {g : aG} (s : Sys g) (a0 : Nat) (s0 : ShLen g a0) (m : aM) {r : Int32} (e : f_Len_here a0 m = some r) : Sp K M_Len_here d bc bs [.ref a0] (g, m) (some (.int r)) (g, m) := by
  refine sp_of ok_Len_here rfl (Nat.le_of_ble_eq_true rfl) (by simp [Value.category]) (fun Q hq => ?_)
  unfold f_Len_here at e
  refine g_aload_n k_Len_here_0 rfl rfl ?_
  refine p_geti k_Len_here_1 fl_Len_41 rfl (sk_Len s0) (by decide) ?_
  refine g_iret k_Len_here_4 rfl ?_
  exact (by cases e; exact hq)
def f_Len_jumpHere (a0 : Nat) (x1 : Int32) (m : aM) : Option (Int32 × aM) :=
  (if x1 < 0 then
  some (0, m)
  else
  (if (m a0 2) ≤ x1 then
  some (0, m)
  else
  o_gd (inb x1 400) <|
  o_let (a_st m (a0 + 2) x1.toNatClampNeg (m a0 2)) fun m2 =>
  some (0, m2)
  )
  )
theorem s_Len_jumpHere {K : aK} {d bc bs : Nat} {g : aG} (s : Sys g) (a0 : Nat) (s0 : ShLen g a0) (x1 : Int32) (m : aM) {r : Int32} {m' : aM} (e : f_Len_jumpHere a0 x1 m = some (r, m')) : Sp K M_Len_jumpHere d bc bs [.ref a0, .int x1] (g, m) none (g, m') := by
  refine sp_of ok_Len_jumpHere rfl (Nat.le_of_ble_eq_true rfl) (by simp [Value.category]) (fun Q hq => ?_)
  unfold f_Len_jumpHere at e
  refine g_iload_n k_Len_jumpHere_0 rfl rfl ?_
  refine g_if_lt (tgt := 22) k_Len_jumpHere_1 (by decide) (fun c => ?_) (fun c => ?_)
  · rw [if_pos c] at e
    refine g_vret k_Len_jumpHere_22 rfl ?_
    exact (by cases e; exact hq)
  · rw [if_neg c] at e
    refine g_iload_n k_Len_jumpHere_4 rfl rfl ?_
    refine g_aload_n k_Len_jumpHere_5 rfl rfl ?_
    refine p_geti k_Len_jumpHere_6 fl_Len_41 rfl (sk_Len s0) (by decide) ?_
    refine g_icmp_ge (tgt := 22) k_Len_jumpHere_9 (by decide) (fun c => ?_) (fun c => ?_)
    · rw [if_pos c] at e
      refine g_vret k_Len_jumpHere_22 rfl ?_
      exact (by cases e; exact hq)
    · rw [if_neg c] at e
      refine g_aload_n k_Len_jumpHere_12 rfl rfl ?_
      refine p_getr k_Len_jumpHere_13 fl_Len_15 rfl (sk_Len s0) (by decide) (sr_Len_1 s0) ?_
      refine g_iload_n k_Len_jumpHere_16 rfl rfl ?_
      refine g_aload_n k_Len_jumpHere_17 rfl rfl ?_
      refine p_geti k_Len_jumpHere_18 fl_Len_41 rfl (sk_Len s0) (by decide) ?_
      obtain ⟨q1, e⟩ := o_gd_ex e
      refine p_iast k_Len_jumpHere_21 (sa_Len_1 s0) (inb_in q1) (j := x1.toNatClampNeg) rfl ?_
      obtain ⟨m2, u_m2, e⟩ := o_let_ex e
      refine G.hm u_m2 ?_
      refine g_vret k_Len_jumpHere_22 rfl ?_
      exact (by cases e; exact hq)
def f_Len_endLaw (a0 : Nat) (x1 : Int32) (m : aM) : Option (Int32 × aM) :=
  (if 16 ≤ (m a0 7) then
  some (0, m)
  else
  o_gd (inb (m a0 7) 16) <|
  o_let (a_st m (a0 + 5) ((m a0 7).toNatClampNeg) x1) fun m2 =>
  o_gd (inb (m2 a0 7) 16) <|
  o_let (a_st m2 (a0 + 6) ((m2 a0 7).toNatClampNeg) (m2 a0 2)) fun m4 =>
  o_let (a_st m4 a0 7 ((m4 a0 7) + 1)) fun m5 =>
  some (0, m5)
  )
theorem s_Len_endLaw {K : aK} {d bc bs : Nat} {g : aG} (s : Sys g) (a0 : Nat) (s0 : ShLen g a0) (x1 : Int32) (m : aM) {r : Int32} {m' : aM} (e : f_Len_endLaw a0 x1 m = some (r, m')) : Sp K M_Len_endLaw d bc bs [.ref a0, .int x1] (g, m) none (g, m') := by
  refine sp_of ok_Len_endLaw rfl (Nat.le_of_ble_eq_true rfl) (by simp [Value.category]) (fun Q hq => ?_)
  unfold f_Len_endLaw at e
  refine g_aload_n k_Len_endLaw_0 rfl rfl ?_
  refine p_geti k_Len_endLaw_1 fl_Len_45 rfl (sk_Len s0) (by decide) ?_
  refine g_bipush (v := 16) k_Len_endLaw_4 rfl ?_
  refine g_icmp_ge (tgt := 42) k_Len_endLaw_6 (by decide) (fun c => ?_) (fun c => ?_)
  · rw [if_pos c] at e
    refine g_vret k_Len_endLaw_42 rfl ?_
    exact (by cases e; exact hq)
  · rw [if_neg c] at e
    refine g_aload_n k_Len_endLaw_9 rfl rfl ?_
    refine p_getr k_Len_endLaw_10 fl_Len_24 rfl (sk_Len s0) (by decide) (sr_Len_5 s0) ?_
    refine g_aload_n k_Len_endLaw_13 rfl rfl ?_
    refine p_geti k_Len_endLaw_14 fl_Len_45 rfl (sk_Len s0) (by decide) ?_
    refine g_iload_n k_Len_endLaw_17 rfl rfl ?_
    obtain ⟨q1, e⟩ := o_gd_ex e
    refine p_iast k_Len_endLaw_18 (sa_Len_5 s0) (inb_in q1) (j := (m a0 7).toNatClampNeg) rfl ?_
    obtain ⟨m2, u_m2, e⟩ := o_let_ex e
    refine G.hm u_m2 ?_
    refine g_aload_n k_Len_endLaw_19 rfl rfl ?_
    refine p_getr k_Len_endLaw_20 fl_Len_27 rfl (sk_Len s0) (by decide) (sr_Len_6 s0) ?_
    refine g_aload_n k_Len_endLaw_23 rfl rfl ?_
    refine p_geti k_Len_endLaw_24 fl_Len_45 rfl (sk_Len s0) (by decide) ?_
    refine g_aload_n k_Len_endLaw_27 rfl rfl ?_
    refine p_geti k_Len_endLaw_28 fl_Len_41 rfl (sk_Len s0) (by decide) ?_
    obtain ⟨q3, e⟩ := o_gd_ex e
    refine p_iast k_Len_endLaw_31 (sa_Len_6 s0) (inb_in q3) (j := (m2 a0 7).toNatClampNeg) rfl ?_
    obtain ⟨m4, u_m4, e⟩ := o_let_ex e
    refine G.hm u_m4 ?_
    refine g_aload_n k_Len_endLaw_32 rfl rfl ?_
    refine g_dup k_Len_endLaw_33 rfl ?_
    refine p_geti k_Len_endLaw_34 fl_Len_45 rfl (sk_Len s0) (by decide) ?_
    refine g_iconst (v := 1) k_Len_endLaw_37 rfl ?_
    refine g_iadd k_Len_endLaw_38 ?_
    refine p_puti k_Len_endLaw_39 fl_Len_45 rfl ⟨R_Len, F_Len, 11, rfl, Or.inl rfl⟩ (sk_Len s0) (by decide) ?_
    obtain ⟨m5, u_m5, e⟩ := o_let_ex e
    refine G.hm u_m5 ?_
    refine g_vret k_Len_endLaw_42 rfl ?_
    exact (by cases e; exact hq)
def f_Len_endLetter (a0 : Nat) (x1 : Int32) (x2 : Int32) (m : aM) : Option (Int32 × aM) :=
  (if x1 < 0 then
  some (0, m)
  else
  (if 8 ≤ x1 then
  some (0, m)
  else
  o_gd (inb x1 8) <|
  o_let (a_st m (a0 + 3) x1.toNatClampNeg x2) fun m2 =>
  o_gd (inb x1 8) <|
  o_let (a_st m2 (a0 + 4) x1.toNatClampNeg (m2 a0 2)) fun m4 =>
  some (0, m4)
  )
  )
theorem s_Len_endLetter {K : aK} {d bc bs : Nat} {g : aG} (s : Sys g) (a0 : Nat) (s0 : ShLen g a0) (x1 : Int32) (x2 : Int32) (m : aM) {r : Int32} {m' : aM} (e : f_Len_endLetter a0 x1 x2 m = some (r, m')) : Sp K M_Len_endLetter d bc bs [.ref a0, .int x1, .int x2] (g, m) none (g, m') := by
  refine sp_of ok_Len_endLetter rfl (Nat.le_of_ble_eq_true rfl) (by simp [Value.category]) (fun Q hq => ?_)
  unfold f_Len_endLetter at e
  refine g_iload_n k_Len_endLetter_0 rfl rfl ?_
  refine g_if_lt (tgt := 27) k_Len_endLetter_1 (by decide) (fun c => ?_) (fun c => ?_)
  · rw [if_pos c] at e
    refine g_vret k_Len_endLetter_27 rfl ?_
    exact (by cases e; exact hq)
  · rw [if_neg c] at e
    refine g_iload_n k_Len_endLetter_4 rfl rfl ?_
    refine g_bipush (v := 8) k_Len_endLetter_5 rfl ?_
    refine g_icmp_ge (tgt := 27) k_Len_endLetter_7 (by decide) (fun c => ?_) (fun c => ?_)
    · rw [if_pos c] at e
      refine g_vret k_Len_endLetter_27 rfl ?_
      exact (by cases e; exact hq)
    · rw [if_neg c] at e
      refine g_aload_n k_Len_endLetter_10 rfl rfl ?_
      refine p_getr k_Len_endLetter_11 fl_Len_18 rfl (sk_Len s0) (by decide) (sr_Len_3 s0) ?_
      refine g_iload_n k_Len_endLetter_14 rfl rfl ?_
      refine g_iload_n k_Len_endLetter_15 rfl rfl ?_
      obtain ⟨q1, e⟩ := o_gd_ex e
      refine p_iast k_Len_endLetter_16 (sa_Len_3 s0) (inb_in q1) (j := x1.toNatClampNeg) rfl ?_
      obtain ⟨m2, u_m2, e⟩ := o_let_ex e
      refine G.hm u_m2 ?_
      refine g_aload_n k_Len_endLetter_17 rfl rfl ?_
      refine p_getr k_Len_endLetter_18 fl_Len_21 rfl (sk_Len s0) (by decide) (sr_Len_4 s0) ?_
      refine g_iload_n k_Len_endLetter_21 rfl rfl ?_
      refine g_aload_n k_Len_endLetter_22 rfl rfl ?_
      refine p_geti k_Len_endLetter_23 fl_Len_41 rfl (sk_Len s0) (by decide) ?_
      obtain ⟨q3, e⟩ := o_gd_ex e
      refine p_iast k_Len_endLetter_26 (sa_Len_4 s0) (inb_in q3) (j := x1.toNatClampNeg) rfl ?_
      obtain ⟨m4, u_m4, e⟩ := o_let_ex e
      refine G.hm u_m4 ?_
      refine g_vret k_Len_endLetter_27 rfl ?_
      exact (by cases e; exact hq)
def lb_Len_become_94 (F : Nat) (rec_94 : Nat → Nat → Int32 → aM → Option (Int32 × aM)) (a0 : Nat) (a1 : Nat) (x2 : Int32) (m : aM) : Option (Int32 × aM) :=
  (if 4 ≤ x2 then
  o_let (a_st m a0 2 (m a1 2)) fun m1 =>
  o_let (a_st m1 a0 7 (m1 a1 7)) fun m2 =>
  o_let (a_st m2 a0 10 (m2 a1 10)) fun m3 =>
  some (0, m3)
  else
  o_gd (inb x2 4) <|
  o_let ((m (a1 + 7) x2.toNatClampNeg)) fun y5 =>
  o_gd (inb x2 4) <|
  o_gd (isb y5) <|
  o_let (a_st m (a0 + 7) x2.toNatClampNeg y5) fun m8 =>
  rec_94 a0 a1 (x2 + 1) m8
  )
theorem tb_Len_become_94 {K : aK} {d bc bs : Nat} {g : aG} (s : Sys g) {Q : aQ} {r : Int32} {m' : aM} (F : Nat) (rec_94 : Nat → Nat → Int32 → aM → Option (Int32 × aM)) (hr_94 : ∀ (a0 : Nat) (s0 : ShLen g a0) (a1 : Nat) (s1 : ShLen g a1) (x2 : Int32) (m : aM), rec_94 a0 a1 x2 m = some (r, m') → G K M_Len_become d bc bs 94 [.ref a0, .ref a1, .int x2] [] (g, m) Q) (a0 : Nat) (s0 : ShLen g a0) (a1 : Nat) (s1 : ShLen g a1) (x2 : Int32) (m : aM) (hq : Q (.inl none) (g, m')) (e : lb_Len_become_94 F rec_94 a0 a1 x2 m = some (r, m')) (hd : 1 ≤ d) : G K M_Len_become d bc bs 94 [.ref a0, .ref a1, .int x2] [] (g, m) Q := by
  unfold lb_Len_become_94 at e
  refine g_iload_n k_Len_become_94 rfl rfl ?_
  refine g_iconst (v := 4) k_Len_become_95 rfl ?_
  refine g_icmp_ge (tgt := 117) k_Len_become_96 (by decide) (fun c => ?_) (fun c => ?_)
  · rw [if_pos c] at e
    refine g_aload_n k_Len_become_117 rfl rfl ?_
    refine g_aload_n k_Len_become_118 rfl rfl ?_
    refine p_geti k_Len_become_119 fl_Len_41 rfl (sk_Len s1) (by decide) ?_
    refine p_puti k_Len_become_122 fl_Len_41 rfl ⟨R_Len, F_Len, 11, rfl, Or.inl rfl⟩ (sk_Len s0) (by decide) ?_
    obtain ⟨m1, u_m1, e⟩ := o_let_ex e
    refine G.hm u_m1 ?_
    refine g_aload_n k_Len_become_125 rfl rfl ?_
    refine g_aload_n k_Len_become_126 rfl rfl ?_
    refine p_geti k_Len_become_127 fl_Len_45 rfl (sk_Len s1) (by decide) ?_
    refine p_puti k_Len_become_130 fl_Len_45 rfl ⟨R_Len, F_Len, 11, rfl, Or.inl rfl⟩ (sk_Len s0) (by decide) ?_
    obtain ⟨m2, u_m2, e⟩ := o_let_ex e
    refine G.hm u_m2 ?_
    refine g_aload_n k_Len_become_133 rfl rfl ?_
    refine g_aload_n k_Len_become_134 rfl rfl ?_
    refine p_geti k_Len_become_135 fl_Len_48 rfl (sk_Len s1) (by decide) ?_
    refine p_puti k_Len_become_138 fl_Len_48 rfl ⟨R_Len, F_Len, 11, rfl, Or.inl rfl⟩ (sk_Len s0) (by decide) ?_
    obtain ⟨m3, u_m3, e⟩ := o_let_ex e
    refine G.hm u_m3 ?_
    refine g_vret k_Len_become_141 rfl ?_
    exact (by cases e; exact hq)
  · rw [if_neg c] at e
    refine g_aload_n k_Len_become_99 rfl rfl ?_
    refine p_getr k_Len_become_100 fl_Len_30 rfl (sk_Len s0) (by decide) (sr_Len_8 s0) ?_
    refine g_iload_n k_Len_become_103 rfl rfl ?_
    refine g_aload_n k_Len_become_104 rfl rfl ?_
    refine p_getr k_Len_become_105 fl_Len_30 rfl (sk_Len s1) (by decide) (sr_Len_8 s1) ?_
    refine g_iload_n k_Len_become_108 rfl rfl ?_
    obtain ⟨q4, e⟩ := o_gd_ex e
    refine p_zald k_Len_become_109 (sa_Len_8 s1) (inb_in q4) (j := x2.toNatClampNeg) rfl ?_
    obtain ⟨y5, u_y5, e⟩ := o_let_ex e
    refine G.vy u_y5 ?_
    obtain ⟨q6, e⟩ := o_gd_ex e
    obtain ⟨q7, e⟩ := o_gd_ex e
    refine p_zast k_Len_become_110 (sa_Len_8 s0) (inb_in q6) (j := x2.toNatClampNeg) rfl (isb_or q7) ?_
    obtain ⟨m8, u_m8, e⟩ := o_let_ex e
    refine G.hm u_m8 ?_
    refine g_iinc (v := _ + 1) k_Len_become_111 rfl rfl (by decide) ?_
    refine g_goto (tgt := 94) k_Len_become_114 (by decide) ?_
    exact (hr_94 a0 s0 a1 s1 (x2 + 1) m8 e)
def ll_Len_become_94 (F : Nat) : Nat → Nat → Nat → Int32 → aM → Option (Int32 × aM)
  | 0, _, _, _, _ => none
  | N + 1, a0, a1, x2, m => lb_Len_become_94 F (ll_Len_become_94 F N) a0 a1 x2 m
theorem t_Len_become_94 {K : aK} {d bc bs : Nat} {g : aG} (s : Sys g) {Q : aQ} {r : Int32} {m' : aM} (F : Nat) : ∀ (N : Nat) (a0 : Nat) (s0 : ShLen g a0) (a1 : Nat) (s1 : ShLen g a1) (x2 : Int32) (m : aM), Q (.inl none) (g, m') → ll_Len_become_94 F N a0 a1 x2 m = some (r, m') → 1 ≤ d → G K M_Len_become d bc bs 94 [.ref a0, .ref a1, .int x2] [] (g, m) Q
  | 0, _, _, _, _, _, _ => fun _ e => nomatch e
  | N + 1, a0, s0, a1, s1, x2, m => fun hq e hd => tb_Len_become_94 s F (ll_Len_become_94 F N) (fun a0 s0 a1 s1 x2 m e => t_Len_become_94 s F N a0 s0 a1 s1 x2 m hq e hd) a0 s0 a1 s1 x2 m hq e hd
def f_Len_become (F : Nat) (a0 : Nat) (a1 : Nat) (m : aM) : Option (Int32 × aM) :=
  o_gd (cpg 0 0 400 400 400) <|
  o_let (a_sf m (a0 + 1) (va_cpy (m (a1 + 1)) (m (a0 + 1)) (0 : Int32).toNatClampNeg (0 : Int32).toNatClampNeg (400 : Int32).toNatClampNeg)) fun m2 =>
  o_gd (cpg 0 0 400 400 400) <|
  o_let (a_sf m2 (a0 + 2) (va_cpy (m2 (a1 + 2)) (m2 (a0 + 2)) (0 : Int32).toNatClampNeg (0 : Int32).toNatClampNeg (400 : Int32).toNatClampNeg)) fun m4 =>
  o_gd (cpg 0 0 8 8 8) <|
  o_let (a_sf m4 (a0 + 3) (va_cpy (m4 (a1 + 3)) (m4 (a0 + 3)) (0 : Int32).toNatClampNeg (0 : Int32).toNatClampNeg (8 : Int32).toNatClampNeg)) fun m6 =>
  o_gd (cpg 0 0 8 8 8) <|
  o_let (a_sf m6 (a0 + 4) (va_cpy (m6 (a1 + 4)) (m6 (a0 + 4)) (0 : Int32).toNatClampNeg (0 : Int32).toNatClampNeg (8 : Int32).toNatClampNeg)) fun m8 =>
  o_gd (cpg 0 0 16 16 16) <|
  o_let (a_sf m8 (a0 + 5) (va_cpy (m8 (a1 + 5)) (m8 (a0 + 5)) (0 : Int32).toNatClampNeg (0 : Int32).toNatClampNeg (16 : Int32).toNatClampNeg)) fun m10 =>
  o_gd (cpg 0 0 16 16 16) <|
  o_let (a_sf m10 (a0 + 6) (va_cpy (m10 (a1 + 6)) (m10 (a0 + 6)) (0 : Int32).toNatClampNeg (0 : Int32).toNatClampNeg (16 : Int32).toNatClampNeg)) fun m12 =>
  ll_Len_become_94 F F a0 a1 0 m12
theorem s_Len_become {K : aK} {d bc bs : Nat} {g : aG} (s : Sys g) (F : Nat) (a0 : Nat) (s0 : ShLen g a0) (a1 : Nat) (s1 : ShLen g a1) (m : aM) {r : Int32} {m' : aM} (e : f_Len_become F a0 a1 m = some (r, m')) (hd : 1 ≤ d) : Sp K M_Len_become d bc bs [.ref a0, .ref a1] (g, m) none (g, m') := by
  refine sp_of ok_Len_become rfl (Nat.le_of_ble_eq_true rfl) (by simp [Value.category]) (fun Q hq => ?_)
  unfold f_Len_become at e
  refine g_aload_n k_Len_become_0 rfl rfl ?_
  refine p_getr k_Len_become_1 fl_Len_11 rfl (sk_Len s1) (by decide) (sr_Len_0 s1) ?_
  refine g_iconst (v := 0) k_Len_become_4 rfl ?_
  refine g_aload_n k_Len_become_5 rfl rfl ?_
  refine p_getr k_Len_become_6 fl_Len_11 rfl (sk_Len s0) (by decide) (sr_Len_0 s0) ?_
  refine g_iconst (v := 0) k_Len_become_9 rfl ?_
  refine g_sipush (v := 400) k_Len_become_10 rfl ?_
  obtain ⟨q1, e⟩ := o_gd_ex e
  refine p_cp k_Len_become_13 yw_Len_51 (sa_Len_0 s1) (sa_Len_0 s0) (cpg_of q1).1 (cpg_of q1).2.1 (cpg_of q1).2.2.1 (cpg_of q1).2.2.2.1 (cpg_of q1).2.2.2.2 (Nat.le_of_ble_eq_true rfl) (by omega) ?_
  obtain ⟨m2, u_m2, e⟩ := o_let_ex e
  refine G.hm u_m2 ?_
  refine g_aload_n k_Len_become_16 rfl rfl ?_
  refine p_getr k_Len_become_17 fl_Len_15 rfl (sk_Len s1) (by decide) (sr_Len_1 s1) ?_
  refine g_iconst (v := 0) k_Len_become_20 rfl ?_
  refine g_aload_n k_Len_become_21 rfl rfl ?_
  refine p_getr k_Len_become_22 fl_Len_15 rfl (sk_Len s0) (by decide) (sr_Len_1 s0) ?_
  refine g_iconst (v := 0) k_Len_become_25 rfl ?_
  refine g_sipush (v := 400) k_Len_become_26 rfl ?_
  obtain ⟨q3, e⟩ := o_gd_ex e
  refine p_cp k_Len_become_29 yw_Len_51 (sa_Len_1 s1) (sa_Len_1 s0) (cpg_of q3).1 (cpg_of q3).2.1 (cpg_of q3).2.2.1 (cpg_of q3).2.2.2.1 (cpg_of q3).2.2.2.2 (Nat.le_of_ble_eq_true rfl) (by omega) ?_
  obtain ⟨m4, u_m4, e⟩ := o_let_ex e
  refine G.hm u_m4 ?_
  refine g_aload_n k_Len_become_32 rfl rfl ?_
  refine p_getr k_Len_become_33 fl_Len_18 rfl (sk_Len s1) (by decide) (sr_Len_3 s1) ?_
  refine g_iconst (v := 0) k_Len_become_36 rfl ?_
  refine g_aload_n k_Len_become_37 rfl rfl ?_
  refine p_getr k_Len_become_38 fl_Len_18 rfl (sk_Len s0) (by decide) (sr_Len_3 s0) ?_
  refine g_iconst (v := 0) k_Len_become_41 rfl ?_
  refine g_bipush (v := 8) k_Len_become_42 rfl ?_
  obtain ⟨q5, e⟩ := o_gd_ex e
  refine p_cp k_Len_become_44 yw_Len_51 (sa_Len_3 s1) (sa_Len_3 s0) (cpg_of q5).1 (cpg_of q5).2.1 (cpg_of q5).2.2.1 (cpg_of q5).2.2.2.1 (cpg_of q5).2.2.2.2 (Nat.le_of_ble_eq_true rfl) (by omega) ?_
  obtain ⟨m6, u_m6, e⟩ := o_let_ex e
  refine G.hm u_m6 ?_
  refine g_aload_n k_Len_become_47 rfl rfl ?_
  refine p_getr k_Len_become_48 fl_Len_21 rfl (sk_Len s1) (by decide) (sr_Len_4 s1) ?_
  refine g_iconst (v := 0) k_Len_become_51 rfl ?_
  refine g_aload_n k_Len_become_52 rfl rfl ?_
  refine p_getr k_Len_become_53 fl_Len_21 rfl (sk_Len s0) (by decide) (sr_Len_4 s0) ?_
  refine g_iconst (v := 0) k_Len_become_56 rfl ?_
  refine g_bipush (v := 8) k_Len_become_57 rfl ?_
  obtain ⟨q7, e⟩ := o_gd_ex e
  refine p_cp k_Len_become_59 yw_Len_51 (sa_Len_4 s1) (sa_Len_4 s0) (cpg_of q7).1 (cpg_of q7).2.1 (cpg_of q7).2.2.1 (cpg_of q7).2.2.2.1 (cpg_of q7).2.2.2.2 (Nat.le_of_ble_eq_true rfl) (by omega) ?_
  obtain ⟨m8, u_m8, e⟩ := o_let_ex e
  refine G.hm u_m8 ?_
  refine g_aload_n k_Len_become_62 rfl rfl ?_
  refine p_getr k_Len_become_63 fl_Len_24 rfl (sk_Len s1) (by decide) (sr_Len_5 s1) ?_
  refine g_iconst (v := 0) k_Len_become_66 rfl ?_
  refine g_aload_n k_Len_become_67 rfl rfl ?_
  refine p_getr k_Len_become_68 fl_Len_24 rfl (sk_Len s0) (by decide) (sr_Len_5 s0) ?_
  refine g_iconst (v := 0) k_Len_become_71 rfl ?_
  refine g_bipush (v := 16) k_Len_become_72 rfl ?_
  obtain ⟨q9, e⟩ := o_gd_ex e
  refine p_cp k_Len_become_74 yw_Len_51 (sa_Len_5 s1) (sa_Len_5 s0) (cpg_of q9).1 (cpg_of q9).2.1 (cpg_of q9).2.2.1 (cpg_of q9).2.2.2.1 (cpg_of q9).2.2.2.2 (Nat.le_of_ble_eq_true rfl) (by omega) ?_
  obtain ⟨m10, u_m10, e⟩ := o_let_ex e
  refine G.hm u_m10 ?_
  refine g_aload_n k_Len_become_77 rfl rfl ?_
  refine p_getr k_Len_become_78 fl_Len_27 rfl (sk_Len s1) (by decide) (sr_Len_6 s1) ?_
  refine g_iconst (v := 0) k_Len_become_81 rfl ?_
  refine g_aload_n k_Len_become_82 rfl rfl ?_
  refine p_getr k_Len_become_83 fl_Len_27 rfl (sk_Len s0) (by decide) (sr_Len_6 s0) ?_
  refine g_iconst (v := 0) k_Len_become_86 rfl ?_
  refine g_bipush (v := 16) k_Len_become_87 rfl ?_
  obtain ⟨q11, e⟩ := o_gd_ex e
  refine p_cp k_Len_become_89 yw_Len_51 (sa_Len_6 s1) (sa_Len_6 s0) (cpg_of q11).1 (cpg_of q11).2.1 (cpg_of q11).2.2.1 (cpg_of q11).2.2.2.1 (cpg_of q11).2.2.2.2 (Nat.le_of_ble_eq_true rfl) (by omega) ?_
  obtain ⟨m12, u_m12, e⟩ := o_let_ex e
  refine G.hm u_m12 ?_
  refine g_iconst (v := 0) k_Len_become_92 rfl ?_
  refine g_istore_n k_Len_become_93 rfl (by decide) ?_
  exact (t_Len_become_94 s F F a0 s0 a1 s1 0 m12 hq e hd)
def b_Len_toOld_70 (F : Nat) (rec_3 : Nat → Nat → Nat → Nat → Int32 → aM → Option (Int32 × aM)) (a0 : Nat) (a1 : Nat) (a2 : Nat) (a3 : Nat) (x4 : Int32) (xt0 : Int32) (xt1 : Int32) (at2 : Nat) (m : aM) : Option (Int32 × aM) :=
  o_gd (inb xt1 4) <|
  o_let (a_st m at2 xt1.toNatClampNeg xt0) fun m2 =>
  rec_3 a0 a1 a2 a3 (x4 + 1) m2
theorem t_Len_toOld_70 {K : aK} {d bc bs : Nat} {g : aG} (s : Sys g) {Q : aQ} {r : Int32} {m' : aM} (F : Nat) (rec_3 : Nat → Nat → Nat → Nat → Int32 → aM → Option (Int32 × aM)) (hr_3 : ∀ (a0 : Nat) (s0 : ShLen g a0) (a1 : Nat) (h1 : g.2.1 a1 = (0, 4)) (a2 : Nat) (h2 : g.2.1 a2 = (0, 4)) (a3 : Nat) (h3 : g.2.1 a3 = (0, 4)) (x4 : Int32) (m : aM), rec_3 a0 a1 a2 a3 x4 m = some (r, m') → G K M_Len_toOld d bc bs 3 [.ref a0, .ref a1, .ref a2, .ref a3, .int x4] [] (g, m) Q) (a0 : Nat) (s0 : ShLen g a0) (a1 : Nat) (h1 : g.2.1 a1 = (0, 4)) (a2 : Nat) (h2 : g.2.1 a2 = (0, 4)) (a3 : Nat) (h3 : g.2.1 a3 = (0, 4)) (x4 : Int32) (xt0 : Int32) (xt1 : Int32) (at2 : Nat) (ht2 : g.2.1 at2 = (0, 4)) (m : aM) (hq : Q (.inl none) (g, m')) (e : b_Len_toOld_70 F rec_3 a0 a1 a2 a3 x4 xt0 xt1 at2 m = some (r, m')) (hd : 2 ≤ d) : G K M_Len_toOld d bc bs 70 [.ref a0, .ref a1, .ref a2, .ref a3, .int x4] [.int xt0, .int xt1, .ref at2] (g, m) Q := by
  unfold b_Len_toOld_70 at e
  obtain ⟨q1, e⟩ := o_gd_ex e
  refine p_iast k_Len_toOld_70 ht2 (inb_in q1) (j := xt1.toNatClampNeg) rfl ?_
  obtain ⟨m2, u_m2, e⟩ := o_let_ex e
  refine G.hm u_m2 ?_
  refine g_iinc (v := _ + 1) k_Len_toOld_71 rfl rfl (by decide) ?_
  refine g_goto (tgt := 3) k_Len_toOld_74 (by decide) ?_
  exact (hr_3 a0 s0 a1 h1 a2 h2 a3 h3 (x4 + 1) m2 e)
def lb_Len_toOld_3 (F : Nat) (rec_3 : Nat → Nat → Nat → Nat → Int32 → aM → Option (Int32 × aM)) (a0 : Nat) (a1 : Nat) (a2 : Nat) (a3 : Nat) (x4 : Int32) (m : aM) : Option (Int32 × aM) :=
  (if 4 ≤ x4 then
  some (0, m)
  else
  (if 4 ≤ x4 then
  some (0, m)
  else
  (if 4 ≤ x4 then
  some (0, m)
  else
  o_gd (inb x4 8) <|
  o_let ((m (a0 + 3) x4.toNatClampNeg)) fun y2 =>
  o_gd (inb x4 8) <|
  o_let ((m (a0 + 4) x4.toNatClampNeg)) fun y4 =>
  (if y4 ≤ y2 then
  o_gd (inb x4 4) <|
  b_Len_toOld_70 F rec_3 a0 a1 a2 a3 x4 (m a2 x4.toNatClampNeg) x4 a3 m
  else
  o_gd (inb x4 8) <|
  o_let ((m (a0 + 3) x4.toNatClampNeg)) fun y7 =>
  o_gd (inb x4 8) <|
  o_let ((m (a0 + 4) x4.toNatClampNeg)) fun y9 =>
  o_b2 (f_Len_work F a0 y7 y9 a2 a1 m) fun y10 m11 =>
  b_Len_toOld_70 F rec_3 a0 a1 a2 a3 x4 y10 x4 a3 m11
  )
  )
  )
  )
theorem tb_Len_toOld_3 {K : aK} {d bc bs : Nat} {g : aG} (s : Sys g) {Q : aQ} {r : Int32} {m' : aM} (F : Nat) (rec_3 : Nat → Nat → Nat → Nat → Int32 → aM → Option (Int32 × aM)) (hr_3 : ∀ (a0 : Nat) (s0 : ShLen g a0) (a1 : Nat) (h1 : g.2.1 a1 = (0, 4)) (a2 : Nat) (h2 : g.2.1 a2 = (0, 4)) (a3 : Nat) (h3 : g.2.1 a3 = (0, 4)) (x4 : Int32) (m : aM), rec_3 a0 a1 a2 a3 x4 m = some (r, m') → G K M_Len_toOld d bc bs 3 [.ref a0, .ref a1, .ref a2, .ref a3, .int x4] [] (g, m) Q) (a0 : Nat) (s0 : ShLen g a0) (a1 : Nat) (h1 : g.2.1 a1 = (0, 4)) (a2 : Nat) (h2 : g.2.1 a2 = (0, 4)) (a3 : Nat) (h3 : g.2.1 a3 = (0, 4)) (x4 : Int32) (m : aM) (hq : Q (.inl none) (g, m')) (e : lb_Len_toOld_3 F rec_3 a0 a1 a2 a3 x4 m = some (r, m')) (hd : 2 ≤ d) : G K M_Len_toOld d bc bs 3 [.ref a0, .ref a1, .ref a2, .ref a3, .int x4] [] (g, m) Q := by
  unfold lb_Len_toOld_3 at e
  refine g_iload k_Len_toOld_3 rfl ?_
  refine g_iconst (v := 4) k_Len_toOld_5 rfl ?_
  refine g_icmp_ge (tgt := 77) k_Len_toOld_6 (by decide) (fun c => ?_) (fun c => ?_)
  · rw [if_pos c] at e
    refine g_vret k_Len_toOld_77 rfl ?_
    exact (by cases e; exact hq)
  · rw [if_neg c] at e
    refine g_iload k_Len_toOld_9 rfl ?_
    refine g_aload_n k_Len_toOld_11 rfl rfl ?_
    refine p_alen (v := 4) k_Len_toOld_12 h2 (by decide) rfl ?_
    refine g_icmp_ge (tgt := 77) k_Len_toOld_13 (by decide) (fun c => ?_) (fun c => ?_)
    · rw [if_pos c] at e
      refine g_vret k_Len_toOld_77 rfl ?_
      exact (by cases e; exact hq)
    · rw [if_neg c] at e
      refine g_iload k_Len_toOld_16 rfl ?_
      refine g_aload_n k_Len_toOld_18 rfl rfl ?_
      refine p_alen (v := 4) k_Len_toOld_19 h3 (by decide) rfl ?_
      refine g_icmp_ge (tgt := 77) k_Len_toOld_20 (by decide) (fun c => ?_) (fun c => ?_)
      · rw [if_pos c] at e
        refine g_vret k_Len_toOld_77 rfl ?_
        exact (by cases e; exact hq)
      · rw [if_neg c] at e
        refine g_aload_n k_Len_toOld_23 rfl rfl ?_
        refine g_iload k_Len_toOld_24 rfl ?_
        refine g_aload_n k_Len_toOld_26 rfl rfl ?_
        refine p_getr k_Len_toOld_27 fl_Len_18 rfl (sk_Len s0) (by decide) (sr_Len_3 s0) ?_
        refine g_iload k_Len_toOld_30 rfl ?_
        obtain ⟨q1, e⟩ := o_gd_ex e
        refine p_iald k_Len_toOld_32 (sa_Len_3 s0) (inb_in q1) (j := x4.toNatClampNeg) rfl ?_
        obtain ⟨y2, u_y2, e⟩ := o_let_ex e
        refine G.vy u_y2 ?_
        refine g_aload_n k_Len_toOld_33 rfl rfl ?_
        refine p_getr k_Len_toOld_34 fl_Len_21 rfl (sk_Len s0) (by decide) (sr_Len_4 s0) ?_
        refine g_iload k_Len_toOld_37 rfl ?_
        obtain ⟨q3, e⟩ := o_gd_ex e
        refine p_iald k_Len_toOld_39 (sa_Len_4 s0) (inb_in q3) (j := x4.toNatClampNeg) rfl ?_
        obtain ⟨y4, u_y4, e⟩ := o_let_ex e
        refine G.vy u_y4 ?_
        refine g_icmp_ge (tgt := 66) k_Len_toOld_40 (by decide) (fun c => ?_) (fun c => ?_)
        · rw [if_pos c] at e
          refine g_aload_n k_Len_toOld_66 rfl rfl ?_
          refine g_iload k_Len_toOld_67 rfl ?_
          obtain ⟨q5, e⟩ := o_gd_ex e
          refine p_iald k_Len_toOld_69 h2 (inb_in q5) (j := x4.toNatClampNeg) rfl ?_
          exact (t_Len_toOld_70 s F rec_3 hr_3 a0 s0 a1 h1 a2 h2 a3 h3 x4 (m a2 x4.toNatClampNeg) x4 a3 h3 m hq e hd)
        · rw [if_neg c] at e
          refine g_aload_n k_Len_toOld_43 rfl rfl ?_
          refine g_aload_n k_Len_toOld_44 rfl rfl ?_
          refine p_getr k_Len_toOld_45 fl_Len_18 rfl (sk_Len s0) (by decide) (sr_Len_3 s0) ?_
          refine g_iload k_Len_toOld_48 rfl ?_
          obtain ⟨q6, e⟩ := o_gd_ex e
          refine p_iald k_Len_toOld_50 (sa_Len_3 s0) (inb_in q6) (j := x4.toNatClampNeg) rfl ?_
          obtain ⟨y7, u_y7, e⟩ := o_let_ex e
          refine G.vy u_y7 ?_
          refine g_aload_n k_Len_toOld_51 rfl rfl ?_
          refine p_getr k_Len_toOld_52 fl_Len_21 rfl (sk_Len s0) (by decide) (sr_Len_4 s0) ?_
          refine g_iload k_Len_toOld_55 rfl ?_
          obtain ⟨q8, e⟩ := o_gd_ex e
          refine p_iald k_Len_toOld_57 (sa_Len_4 s0) (inb_in q8) (j := x4.toNatClampNeg) rfl ?_
          obtain ⟨y9, u_y9, e⟩ := o_let_ex e
          refine G.vy u_y9 ?_
          refine g_aload_n k_Len_toOld_58 rfl rfl ?_
          refine g_aload_n k_Len_toOld_59 rfl rfl ?_
          obtain ⟨y10, m11, e_y10, e⟩ := o_b2_ex e
          refine g_cv k_Len_toOld_60 lv_Len_57 (by decide +kernel) (T := F_Len) (N := 11) (ci := 2) rfl (sk_Len s0) (s_Len_work (bc := 0) (bs := 0) s F a0 s0 y7 y9 a2 h2 a1 h1 m e_y10 (by omega)) rfl rfl (Nat.le_of_ble_eq_true rfl) (by simp [Value.category]) (by omega) (by omega) (by omega) ?_
          refine g_goto (tgt := 70) k_Len_toOld_63 (by decide) ?_
          exact (t_Len_toOld_70 s F rec_3 hr_3 a0 s0 a1 h1 a2 h2 a3 h3 x4 y10 x4 a3 h3 m11 hq e hd)
def ll_Len_toOld_3 (F : Nat) : Nat → Nat → Nat → Nat → Nat → Int32 → aM → Option (Int32 × aM)
  | 0, _, _, _, _, _, _ => none
  | N + 1, a0, a1, a2, a3, x4, m => lb_Len_toOld_3 F (ll_Len_toOld_3 F N) a0 a1 a2 a3 x4 m
theorem t_Len_toOld_3 {K : aK} {d bc bs : Nat} {g : aG} (s : Sys g) {Q : aQ} {r : Int32} {m' : aM} (F : Nat) : ∀ (N : Nat) (a0 : Nat) (s0 : ShLen g a0) (a1 : Nat) (h1 : g.2.1 a1 = (0, 4)) (a2 : Nat) (h2 : g.2.1 a2 = (0, 4)) (a3 : Nat) (h3 : g.2.1 a3 = (0, 4)) (x4 : Int32) (m : aM), Q (.inl none) (g, m') → ll_Len_toOld_3 F N a0 a1 a2 a3 x4 m = some (r, m') → 2 ≤ d → G K M_Len_toOld d bc bs 3 [.ref a0, .ref a1, .ref a2, .ref a3, .int x4] [] (g, m) Q
  | 0, _, _, _, _, _, _, _, _, _, _ => fun _ e => nomatch e
  | N + 1, a0, s0, a1, h1, a2, h2, a3, h3, x4, m => fun hq e hd => tb_Len_toOld_3 s F (ll_Len_toOld_3 F N) (fun a0 s0 a1 h1 a2 h2 a3 h3 x4 m e => t_Len_toOld_3 s F N a0 s0 a1 h1 a2 h2 a3 h3 x4 m hq e hd) a0 s0 a1 h1 a2 h2 a3 h3 x4 m hq e hd
def f_Len_toOld (F : Nat) (a0 : Nat) (a1 : Nat) (a2 : Nat) (a3 : Nat) (m : aM) : Option (Int32 × aM) :=
  ll_Len_toOld_3 F F a0 a1 a2 a3 0 m
theorem s_Len_toOld {K : aK} {d bc bs : Nat} {g : aG} (s : Sys g) (F : Nat) (a0 : Nat) (s0 : ShLen g a0) (a1 : Nat) (h1 : g.2.1 a1 = (0, 4)) (a2 : Nat) (h2 : g.2.1 a2 = (0, 4)) (a3 : Nat) (h3 : g.2.1 a3 = (0, 4)) (m : aM) {r : Int32} {m' : aM} (e : f_Len_toOld F a0 a1 a2 a3 m = some (r, m')) (hd : 2 ≤ d) : Sp K M_Len_toOld d bc bs [.ref a0, .ref a1, .ref a2, .ref a3] (g, m) none (g, m') := by
  refine sp_of ok_Len_toOld rfl (Nat.le_of_ble_eq_true rfl) (by simp [Value.category]) (fun Q hq => ?_)
  unfold f_Len_toOld at e
  refine g_iconst (v := 0) k_Len_toOld_0 rfl ?_
  refine g_istore k_Len_toOld_1 (by decide) ?_
  exact (t_Len_toOld_3 s F F a0 s0 a1 h1 a2 h2 a3 h3 0 m hq e hd)
