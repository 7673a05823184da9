/-! the reference, further -/
def b_Mod_row_173 (F : Nat) (x1 : Int32) (x2 : Int32) (m : aM) : Option (Int32 × aM) :=
  o_gd (inb x1 40) <|
  o_gd (inb (x2 - 5) 4) <|
  o_let ((m (8561 + x1.toNatClampNeg) ((x2 - 5).toNatClampNeg))) fun y3 =>
  some (y3, m)
theorem t_Mod_row_173 {K : aK} {d bc bs : Nat} {g : aG} (s : SyM g) {Q : aQ} {r : Int32} {m' : aM} (F : Nat) (x1 : Int32) (x2 : Int32) (m : aM) (hq : Q (.inl (some (.int r))) (g, m')) (e : b_Mod_row_173 F x1 x2 m = some (r, m')) (hd : 401 ≤ d) : G K M_Mod_row d bc bs 173 [.ref 242, .int x1, .int x2] [] (g, m) Q := by
  unfold b_Mod_row_173 at e
  refine g_aload_n k_Mod_row_173 rfl rfl ?_
  refine p_getr k_Mod_row_174 fl_Mod_117 rfl (sk_Mod s) (by decide) (sr_Mod_57 s) ?_
  refine g_iload_n k_Mod_row_177 rfl rfl ?_
  obtain ⟨q1, e⟩ := o_gd_ex e
  refine p_aald k_Mod_row_178 (sa_Mod_57 s) (by decide) (by decide) (inb_in q1) (j := x1.toNatClampNeg) rfl (si_Mod_57 s _ (vp_lt (inb_in q1))).1 ?_
  refine g_iload_n k_Mod_row_179 rfl rfl ?_
  refine g_iconst (v := 5) k_Mod_row_180 rfl ?_
  refine g_isub k_Mod_row_181 ?_
  obtain ⟨q2, e⟩ := o_gd_ex e
  refine p_iald k_Mod_row_182 (si_Mod_57 s _ (vp_lt (inb_in q1))).2 (inb_in q2) (j := (x2 - 5).toNatClampNeg) rfl ?_
  obtain ⟨y3, u_y3, e⟩ := o_let_ex e
  refine G.vy u_y3 ?_
  refine g_iret k_Mod_row_183 rfl ?_
  exact (by cases e; exact hq)
def b_Mod_row_42 (F : Nat) (x1 : Int32) (x2 : Int32) (xt0 : Int32) (m : aM) : Option (Int32 × aM) :=
  o_b2 (f_Mod_bad xt0 2 m) fun y1 m2 =>
  (if y1 = 0 then
  o_gd (inb x1 40) <|
  (if (m2 8473 x1.toNatClampNeg) = 0 then
  some ((-1), m2)
  else
  (if x2 = 0 then
  o_gd (inb x1 40) <|
  some ((m2 8475 x1.toNatClampNeg), m2)
  else
  (if 4 ≤ x2 then
  (if x2 = 4 then
  o_b2 (f_Mod_isOdd F x1 m2) fun y5 m6 =>
  (if y5 = 0 then
  some (0, m6)
  else
  some (1, m6)
  )
  else
  o_gd (inb x1 40) <|
  (if (m2 8475 x1.toNatClampNeg) = 1 then
  b_Mod_row_173 F x1 x2 m2
  else
  o_gd (inb x1 40) <|
  (if (m2 8475 x1.toNatClampNeg) = 2 then
  b_Mod_row_173 F x1 x2 m2
  else
  o_b (f_Mod_isKept (x2 - 5) m2) fun y9 =>
  (if y9 = 0 then
  some (0, m2)
  else
  o_gd (inb x1 40) <|
  o_gd (inb (x2 - 5) 4) <|
  o_let ((m2 (8479 + x1.toNatClampNeg) ((x2 - 5).toNatClampNeg))) fun y12 =>
  some (y12, m2)
  )
  )
  )
  )
  else
  (if x2 = 1 then
  o_gd (inb x1 40) <|
  (if (m2 8474 x1.toNatClampNeg) = 0 then
  some (0, m2)
  else
  some (1, m2)
  )
  else
  o_gd (inb x1 40) <|
  (if (m2 8474 x1.toNatClampNeg) = 0 then
  some ((-1), m2)
  else
  (if x2 = 2 then
  o_gd (inb x1 40) <|
  some ((m2 8476 x1.toNatClampNeg), m2)
  else
  o_gd (inb x1 40) <|
  some ((m2 8477 x1.toNatClampNeg), m2)
  )
  )
  )
  )
  )
  )
  else
  some (0, m2)
  )
theorem t_Mod_row_42 {K : aK} {d bc bs : Nat} {g : aG} (s : SyM g) {Q : aQ} {r : Int32} {m' : aM} (F : Nat) (x1 : Int32) (x2 : Int32) (xt0 : Int32) (m : aM) (hq : Q (.inl (some (.int r))) (g, m')) (e : b_Mod_row_42 F x1 x2 xt0 m = some (r, m')) (hd : 401 ≤ d) : G K M_Mod_row d bc bs 42 [.ref 242, .int x1, .int x2] [.int xt0, .ref 242] (g, m) Q := by
  unfold b_Mod_row_42 at e
  refine g_iconst (v := 2) k_Mod_row_42 rfl ?_
  obtain ⟨y1, m2, e_y1, e⟩ := o_b2_ex e
  refine g_cv k_Mod_row_43 lv_Mod_240 (by decide +kernel) (T := F_Mod) (N := 61) (ci := 10) rfl (sk_Mod s) (s_Mod_bad (bc := 0) (bs := 0) s xt0 2 m e_y1) rfl rfl (Nat.le_of_ble_eq_true rfl) (by simp [Value.category]) (by omega) (by omega) (by omega) ?_
  refine g_if_eq (tgt := 51) k_Mod_row_46 (by decide) (fun c => ?_) (fun c => ?_)
  · rw [if_pos c] at e
    refine g_aload_n k_Mod_row_51 rfl rfl ?_
    refine p_getr k_Mod_row_52 fl_Mod_96 rfl (sk_Mod s) (by decide) (sr_Mod_50 s) ?_
    refine g_iload_n k_Mod_row_55 rfl rfl ?_
    obtain ⟨q3, e⟩ := o_gd_ex e
    refine p_zald k_Mod_row_56 (sa_Mod_50 s) (inb_in q3) (j := x1.toNatClampNeg) rfl ?_
    refine g_if_ne (tgt := 62) k_Mod_row_57 (by decide) (fun c => ?_) (fun c => ?_)
    · rw [if_pos c] at e
      refine g_iconst (v := (-1)) k_Mod_row_60 rfl ?_
      refine g_iret k_Mod_row_61 rfl ?_
      exact (by cases e; exact hq)
    · rw [if_neg c] at e
      refine g_iload_n k_Mod_row_62 rfl rfl ?_
      refine g_if_ne (tgt := 73) k_Mod_row_63 (by decide) (fun c => ?_) (fun c => ?_)
      · rw [if_pos c] at e
        refine g_aload_n k_Mod_row_66 rfl rfl ?_
        refine p_getr k_Mod_row_67 fl_Mod_102 rfl (sk_Mod s) (by decide) (sr_Mod_52 s) ?_
        refine g_iload_n k_Mod_row_70 rfl rfl ?_
        obtain ⟨q4, e⟩ := o_gd_ex e
        refine p_iald k_Mod_row_71 (sa_Mod_52 s) (inb_in q4) (j := x1.toNatClampNeg) rfl ?_
        refine g_iret k_Mod_row_72 rfl ?_
        exact (by cases e; exact hq)
      · rw [if_neg c] at e
        refine g_iload_n k_Mod_row_73 rfl rfl ?_
        refine g_iconst (v := 4) k_Mod_row_74 rfl ?_
        refine g_icmp_ge (tgt := 134) k_Mod_row_75 (by decide) (fun c => ?_) (fun c => ?_)
        · rw [if_pos c] at e
          refine g_iload_n k_Mod_row_134 rfl rfl ?_
          refine g_iconst (v := 4) k_Mod_row_135 rfl ?_
          refine g_icmp_ne (tgt := 153) k_Mod_row_136 (by decide) (fun c => ?_) (fun c => ?_)
          · rw [if_pos c] at e
            refine g_aload_n k_Mod_row_139 rfl rfl ?_
            refine g_iload_n k_Mod_row_140 rfl rfl ?_
            obtain ⟨y5, m6, e_y5, e⟩ := o_b2_ex e
            refine g_cv k_Mod_row_141 lv_Mod_348 (by decide +kernel) (T := F_Mod) (N := 61) (ci := 10) rfl (sk_Mod s) (s_Mod_isOdd (bc := 0) (bs := 0) s F x1 m2 e_y5 (by omega)) rfl rfl (Nat.le_of_ble_eq_true rfl) (by simp [Value.category]) (by omega) (by omega) (by omega) ?_
            refine g_if_eq (tgt := 151) k_Mod_row_144 (by decide) (fun c => ?_) (fun c => ?_)
            · rw [if_pos c] at e
              refine g_iconst (v := 0) k_Mod_row_151 rfl ?_
              refine g_iret k_Mod_row_152 rfl ?_
              exact (by cases e; exact hq)
            · rw [if_neg c] at e
              refine g_iconst (v := 1) k_Mod_row_147 rfl ?_
              refine g_goto (tgt := 152) k_Mod_row_148 (by decide) ?_
              refine g_iret k_Mod_row_152 rfl ?_
              exact (by cases e; exact hq)
          · rw [if_neg c] at e
            refine g_aload_n k_Mod_row_153 rfl rfl ?_
            refine p_getr k_Mod_row_154 fl_Mod_102 rfl (sk_Mod s) (by decide) (sr_Mod_52 s) ?_
            refine g_iload_n k_Mod_row_157 rfl rfl ?_
            obtain ⟨q7, e⟩ := o_gd_ex e
            refine p_iald k_Mod_row_158 (sa_Mod_52 s) (inb_in q7) (j := x1.toNatClampNeg) rfl ?_
            refine g_iconst (v := 1) k_Mod_row_159 rfl ?_
            refine g_icmp_eq (tgt := 173) k_Mod_row_160 (by decide) (fun c => ?_) (fun c => ?_)
            · rw [if_pos c] at e
              exact (t_Mod_row_173 s F x1 x2 m2 hq e hd)
            · rw [if_neg c] at e
              refine g_aload_n k_Mod_row_163 rfl rfl ?_
              refine p_getr k_Mod_row_164 fl_Mod_102 rfl (sk_Mod s) (by decide) (sr_Mod_52 s) ?_
              refine g_iload_n k_Mod_row_167 rfl rfl ?_
              obtain ⟨q8, e⟩ := o_gd_ex e
              refine p_iald k_Mod_row_168 (sa_Mod_52 s) (inb_in q8) (j := x1.toNatClampNeg) rfl ?_
              refine g_iconst (v := 2) k_Mod_row_169 rfl ?_
              refine g_icmp_ne (tgt := 184) k_Mod_row_170 (by decide) (fun c => ?_) (fun c => ?_)
              · rw [if_pos c] at e
                exact (t_Mod_row_173 s F x1 x2 m2 hq e hd)
              · rw [if_neg c] at e
                refine g_aload_n k_Mod_row_184 rfl rfl ?_
                refine g_iload_n k_Mod_row_185 rfl rfl ?_
                refine g_iconst (v := 5) k_Mod_row_186 rfl ?_
                refine g_isub k_Mod_row_187 ?_
                obtain ⟨y9, e_y9, e⟩ := o_b_ex e
                refine g_cv k_Mod_row_188 lv_Mod_274 (by decide +kernel) (T := F_Mod) (N := 61) (ci := 10) rfl (sk_Mod s) (s_Mod_isKept (bc := 0) (bs := 0) s (x2 - 5) m2 e_y9) rfl rfl (Nat.le_of_ble_eq_true rfl) (by simp [Value.category]) (by omega) (by omega) (by omega) ?_
                refine g_if_eq (tgt := 207) k_Mod_row_191 (by decide) (fun c => ?_) (fun c => ?_)
                · rw [if_pos c] at e
                  refine g_iconst (v := 0) k_Mod_row_207 rfl ?_
                  refine g_iret k_Mod_row_208 rfl ?_
                  exact (by cases e; exact hq)
                · rw [if_neg c] at e
                  refine g_aload_n k_Mod_row_194 rfl rfl ?_
                  refine p_getr k_Mod_row_195 fl_Mod_111 rfl (sk_Mod s) (by decide) (sr_Mod_55 s) ?_
                  refine g_iload_n k_Mod_row_198 rfl rfl ?_
                  obtain ⟨q10, e⟩ := o_gd_ex e
                  refine p_aald k_Mod_row_199 (sa_Mod_55 s) (by decide) (by decide) (inb_in q10) (j := x1.toNatClampNeg) rfl (si_Mod_55 s _ (vp_lt (inb_in q10))).1 ?_
                  refine g_iload_n k_Mod_row_200 rfl rfl ?_
                  refine g_iconst (v := 5) k_Mod_row_201 rfl ?_
                  refine g_isub k_Mod_row_202 ?_
                  obtain ⟨q11, e⟩ := o_gd_ex e
                  refine p_iald k_Mod_row_203 (si_Mod_55 s _ (vp_lt (inb_in q10))).2 (inb_in q11) (j := (x2 - 5).toNatClampNeg) rfl ?_
                  obtain ⟨y12, u_y12, e⟩ := o_let_ex e
                  refine G.vy u_y12 ?_
                  refine g_goto (tgt := 208) k_Mod_row_204 (by decide) ?_
                  refine g_iret k_Mod_row_208 rfl ?_
                  exact (by cases e; exact hq)
        · rw [if_neg c] at e
          refine g_iload_n k_Mod_row_78 rfl rfl ?_
          refine g_iconst (v := 1) k_Mod_row_79 rfl ?_
          refine g_icmp_ne (tgt := 100) k_Mod_row_80 (by decide) (fun c => ?_) (fun c => ?_)
          · rw [if_pos c] at e
            refine g_aload_n k_Mod_row_83 rfl rfl ?_
            refine p_getr k_Mod_row_84 fl_Mod_99 rfl (sk_Mod s) (by decide) (sr_Mod_51 s) ?_
            refine g_iload_n k_Mod_row_87 rfl rfl ?_
            obtain ⟨q13, e⟩ := o_gd_ex e
            refine p_zald k_Mod_row_88 (sa_Mod_51 s) (inb_in q13) (j := x1.toNatClampNeg) rfl ?_
            refine g_if_eq (tgt := 96) k_Mod_row_89 (by decide) (fun c => ?_) (fun c => ?_)
            · rw [if_pos c] at e
              refine g_iconst (v := 0) k_Mod_row_96 rfl ?_
              refine g_goto (tgt := 133) k_Mod_row_97 (by decide) ?_
              refine g_iret k_Mod_row_133 rfl ?_
              exact (by cases e; exact hq)
            · rw [if_neg c] at e
              refine g_iconst (v := 1) k_Mod_row_92 rfl ?_
              refine g_goto (tgt := 133) k_Mod_row_93 (by decide) ?_
              refine g_iret k_Mod_row_133 rfl ?_
              exact (by cases e; exact hq)
          · rw [if_neg c] at e
            refine g_aload_n k_Mod_row_100 rfl rfl ?_
            refine p_getr k_Mod_row_101 fl_Mod_99 rfl (sk_Mod s) (by decide) (sr_Mod_51 s) ?_
            refine g_iload_n k_Mod_row_104 rfl rfl ?_
            obtain ⟨q14, e⟩ := o_gd_ex e
            refine p_zald k_Mod_row_105 (sa_Mod_51 s) (inb_in q14) (j := x1.toNatClampNeg) rfl ?_
            refine g_if_ne (tgt := 113) k_Mod_row_106 (by decide) (fun c => ?_) (fun c => ?_)
            · rw [if_pos c] at e
              refine g_iconst (v := (-1)) k_Mod_row_109 rfl ?_
              refine g_goto (tgt := 133) k_Mod_row_110 (by decide) ?_
              refine g_iret k_Mod_row_133 rfl ?_
              exact (by cases e; exact hq)
            · rw [if_neg c] at e
              refine g_iload_n k_Mod_row_113 rfl rfl ?_
              refine g_iconst (v := 2) k_Mod_row_114 rfl ?_
              refine g_icmp_ne (tgt := 127) k_Mod_row_115 (by decide) (fun c => ?_) (fun c => ?_)
              · rw [if_pos c] at e
                refine g_aload_n k_Mod_row_118 rfl rfl ?_
                refine p_getr k_Mod_row_119 fl_Mod_105 rfl (sk_Mod s) (by decide) (sr_Mod_53 s) ?_
                refine g_iload_n k_Mod_row_122 rfl rfl ?_
                obtain ⟨q15, e⟩ := o_gd_ex e
                refine p_iald k_Mod_row_123 (sa_Mod_53 s) (inb_in q15) (j := x1.toNatClampNeg) rfl ?_
                refine g_goto (tgt := 133) k_Mod_row_124 (by decide) ?_
                refine g_iret k_Mod_row_133 rfl ?_
                exact (by cases e; exact hq)
              · rw [if_neg c] at e
                refine g_aload_n k_Mod_row_127 rfl rfl ?_
                refine p_getr k_Mod_row_128 fl_Mod_108 rfl (sk_Mod s) (by decide) (sr_Mod_54 s) ?_
                refine g_iload_n k_Mod_row_131 rfl rfl ?_
                obtain ⟨q16, e⟩ := o_gd_ex e
                refine p_iald k_Mod_row_132 (sa_Mod_54 s) (inb_in q16) (j := x1.toNatClampNeg) rfl ?_
                refine g_iret k_Mod_row_133 rfl ?_
                exact (by cases e; exact hq)
  · rw [if_neg c] at e
    refine g_iconst (v := 0) k_Mod_row_49 rfl ?_
    refine g_iret k_Mod_row_50 rfl ?_
    exact (by cases e; exact hq)
def b_Mod_row_19 (F : Nat) (x1 : Int32) (x2 : Int32) (xt0 : Int32) (m : aM) : Option (Int32 × aM) :=
  o_b2 (f_Mod_bad xt0 1 m) fun y1 m2 =>
  (if y1 = 0 then
  o_b (f_Mod_in x2 0 8 m2) fun y3 =>
  (if y3 = 0 then
  b_Mod_row_42 F x1 x2 1 m2
  else
  b_Mod_row_42 F x1 x2 0 m2
  )
  else
  some (0, m2)
  )
theorem t_Mod_row_19 {K : aK} {d bc bs : Nat} {g : aG} (s : SyM g) {Q : aQ} {r : Int32} {m' : aM} (F : Nat) (x1 : Int32) (x2 : Int32) (xt0 : Int32) (m : aM) (hq : Q (.inl (some (.int r))) (g, m')) (e : b_Mod_row_19 F x1 x2 xt0 m = some (r, m')) (hd : 401 ≤ d) : G K M_Mod_row d bc bs 19 [.ref 242, .int x1, .int x2] [.int xt0, .ref 242] (g, m) Q := by
  unfold b_Mod_row_19 at e
  refine g_iconst (v := 1) k_Mod_row_19 rfl ?_
  obtain ⟨y1, m2, e_y1, e⟩ := o_b2_ex e
  refine g_cv k_Mod_row_20 lv_Mod_240 (by decide +kernel) (T := F_Mod) (N := 61) (ci := 10) rfl (sk_Mod s) (s_Mod_bad (bc := 0) (bs := 0) s xt0 1 m e_y1) rfl rfl (Nat.le_of_ble_eq_true rfl) (by simp [Value.category]) (by omega) (by omega) (by omega) ?_
  refine g_if_ne (tgt := 49) k_Mod_row_23 (by decide) (fun c => ?_) (fun c => ?_)
  · rw [if_pos c] at e
    refine g_aload_n k_Mod_row_26 rfl rfl ?_
    refine g_iload_n k_Mod_row_27 rfl rfl ?_
    refine g_iconst (v := 0) k_Mod_row_28 rfl ?_
    refine g_bipush (v := 8) k_Mod_row_29 rfl ?_
    obtain ⟨y3, e_y3, e⟩ := o_b_ex e
    refine g_cs k_Mod_row_31 ls_Mod_236 (by decide +kernel) (s_Mod_in (bc := 0) (bs := 0) s x2 0 8 m2 e_y3) rfl rfl (Nat.le_of_ble_eq_true rfl) (by simp [Value.category]) (by omega) (by omega) (by omega) ?_
    refine g_if_ne (tgt := 41) k_Mod_row_34 (by decide) (fun c => ?_) (fun c => ?_)
    · rw [if_pos c] at e
      refine g_iconst (v := 1) k_Mod_row_37 rfl ?_
      refine g_goto (tgt := 42) k_Mod_row_38 (by decide) ?_
      exact (t_Mod_row_42 s F x1 x2 1 m2 hq e hd)
    · rw [if_neg c] at e
      refine g_iconst (v := 0) k_Mod_row_41 rfl ?_
      exact (t_Mod_row_42 s F x1 x2 0 m2 hq e hd)
  · rw [if_neg c] at e
    refine g_iconst (v := 0) k_Mod_row_49 rfl ?_
    refine g_iret k_Mod_row_50 rfl ?_
    exact (by cases e; exact hq)
def f_Mod_row (F : Nat) (x1 : Int32) (x2 : Int32) (m : aM) : Option (Int32 × aM) :=
  o_let (a_st m 242 0 0) fun m1 =>
  o_b (f_Mod_isKey x1 m1) fun y2 =>
  (if y2 = 0 then
  b_Mod_row_19 F x1 x2 1 m1
  else
  b_Mod_row_19 F x1 x2 0 m1
  )
theorem s_Mod_row {K : aK} {d bc bs : Nat} {g : aG} (s : SyM g) (F : Nat) (x1 : Int32) (x2 : Int32) (m : aM) {r : Int32} {m' : aM} (e : f_Mod_row F x1 x2 m = some (r, m')) (hd : 401 ≤ d) : Sp K M_Mod_row d bc bs [.ref 242, .int x1, .int x2] (g, m) (some (.int r)) (g, m') := by
  refine sp_of ok_Mod_row rfl (Nat.le_of_ble_eq_true rfl) (by simp [Value.category]) (fun Q hq => ?_)
  unfold f_Mod_row at e
  refine g_aload_n k_Mod_row_0 rfl rfl ?_
  refine g_iconst (v := 0) k_Mod_row_1 rfl ?_
  refine p_puti k_Mod_row_2 fl_Mod_131 rfl ⟨R_Mod, F_Mod, 61, rfl, Or.inl rfl⟩ (sk_Mod s) (by decide) ?_
  obtain ⟨m1, u_m1, e⟩ := o_let_ex e
  refine G.hm u_m1 ?_
  refine g_aload_n k_Mod_row_5 rfl rfl ?_
  refine g_aload_n k_Mod_row_6 rfl rfl ?_
  refine g_iload_n k_Mod_row_7 rfl rfl ?_
  obtain ⟨y2, e_y2, e⟩ := o_b_ex e
  refine g_cv k_Mod_row_8 lv_Mod_369 (by decide +kernel) (T := F_Mod) (N := 61) (ci := 10) rfl (sk_Mod s) (s_Mod_isKey (bc := 0) (bs := 0) s x1 m1 e_y2 (by omega)) rfl rfl (Nat.le_of_ble_eq_true rfl) (by simp [Value.category]) (by omega) (by omega) (by omega) ?_
  refine g_if_ne (tgt := 18) k_Mod_row_11 (by decide) (fun c => ?_) (fun c => ?_)
  · rw [if_pos c] at e
    refine g_iconst (v := 1) k_Mod_row_14 rfl ?_
    refine g_goto (tgt := 19) k_Mod_row_15 (by decide) ?_
    exact (t_Mod_row_19 s F x1 x2 1 m1 hq e hd)
  · rw [if_neg c] at e
    refine g_iconst (v := 0) k_Mod_row_18 rfl ?_
    exact (t_Mod_row_19 s F x1 x2 0 m1 hq e hd)
def b_Mod_quiet_22 (x1 : Int32) (xt0 : Int32) (m : aM) : Option (Int32 × aM) :=
  o_b2 (f_Mod_bad xt0 1 m) fun y1 m2 =>
  (if y1 = 0 then
  o_let (a_st m2 242 48 x1) fun m3 =>
  some ((m2 242 48), m3)
  else
  some (0, m2)
  )
theorem t_Mod_quiet_22 {K : aK} {d bc bs : Nat} {g : aG} (s : SyM g) {Q : aQ} {r : Int32} {m' : aM} (x1 : Int32) (xt0 : Int32) (m : aM) (hq : Q (.inl (some (.int r))) (g, m')) (e : b_Mod_quiet_22 x1 xt0 m = some (r, m')) (hd : 1 ≤ d) : G K M_Mod_quiet d bc bs 22 [.ref 242, .int x1, .double 0] [.int xt0, .ref 242] (g, m) Q := by
  unfold b_Mod_quiet_22 at e
  refine g_iconst (v := 1) k_Mod_quiet_22 rfl ?_
  obtain ⟨y1, m2, e_y1, e⟩ := o_b2_ex e
  refine g_cv k_Mod_quiet_23 lv_Mod_240 (by decide +kernel) (T := F_Mod) (N := 61) (ci := 10) rfl (sk_Mod s) (s_Mod_bad (bc := 0) (bs := 0) s xt0 1 m e_y1) rfl rfl (Nat.le_of_ble_eq_true rfl) (by simp [Value.category]) (by omega) (by omega) (by omega) ?_
  refine g_if_eq (tgt := 31) k_Mod_quiet_26 (by decide) (fun c => ?_) (fun c => ?_)
  · rw [if_pos c] at e
    refine g_aload_n k_Mod_quiet_31 rfl rfl ?_
    refine p_geti k_Mod_quiet_32 fl_Mod_93 rfl (sk_Mod s) (by decide) ?_
    refine g_istore_n k_Mod_quiet_35 rfl (by decide) ?_
    refine g_aload_n k_Mod_quiet_36 rfl rfl ?_
    refine g_iload_n k_Mod_quiet_37 rfl rfl ?_
    refine p_puti k_Mod_quiet_38 fl_Mod_93 rfl ⟨R_Mod, F_Mod, 61, rfl, Or.inl rfl⟩ (sk_Mod s) (by decide) ?_
    obtain ⟨m3, u_m3, e⟩ := o_let_ex e
    refine G.hm u_m3 ?_
    refine g_iload_n k_Mod_quiet_41 rfl rfl ?_
    refine g_iret k_Mod_quiet_42 rfl ?_
    exact (by cases e; exact hq)
  · rw [if_neg c] at e
    refine g_iconst (v := 0) k_Mod_quiet_29 rfl ?_
    refine g_iret k_Mod_quiet_30 rfl ?_
    exact (by cases e; exact hq)
def f_Mod_quiet (x1 : Int32) (m : aM) : Option (Int32 × aM) :=
  o_let (a_st m 242 0 0) fun m1 =>
  o_b (f_Mod_in x1 0 1000 m1) fun y2 =>
  (if y2 = 0 then
  b_Mod_quiet_22 x1 1 m1
  else
  b_Mod_quiet_22 x1 0 m1
  )
theorem s_Mod_quiet {K : aK} {d bc bs : Nat} {g : aG} (s : SyM g) (x1 : Int32) (m : aM) {r : Int32} {m' : aM} (e : f_Mod_quiet x1 m = some (r, m')) (hd : 1 ≤ d) : Sp K M_Mod_quiet d bc bs [.ref 242, .int x1] (g, m) (some (.int r)) (g, m') := by
  refine sp_of ok_Mod_quiet rfl (Nat.le_of_ble_eq_true rfl) (by simp [Value.category]) (fun Q hq => ?_)
  unfold f_Mod_quiet at e
  refine g_aload_n k_Mod_quiet_0 rfl rfl ?_
  refine g_iconst (v := 0) k_Mod_quiet_1 rfl ?_
  refine p_puti k_Mod_quiet_2 fl_Mod_131 rfl ⟨R_Mod, F_Mod, 61, rfl, Or.inl rfl⟩ (sk_Mod s) (by decide) ?_
  obtain ⟨m1, u_m1, e⟩ := o_let_ex e
  refine G.hm u_m1 ?_
  refine g_aload_n k_Mod_quiet_5 rfl rfl ?_
  refine g_iload_n k_Mod_quiet_6 rfl rfl ?_
  refine g_iconst (v := 0) k_Mod_quiet_7 rfl ?_
  refine g_sipush (v := 1000) k_Mod_quiet_8 rfl ?_
  obtain ⟨y2, e_y2, e⟩ := o_b_ex e
  refine g_cs k_Mod_quiet_11 ls_Mod_236 (by decide +kernel) (s_Mod_in (bc := 0) (bs := 0) s x1 0 1000 m1 e_y2) rfl rfl (Nat.le_of_ble_eq_true rfl) (by simp [Value.category]) (by omega) (by omega) (by omega) ?_
  refine g_if_ne (tgt := 21) k_Mod_quiet_14 (by decide) (fun c => ?_) (fun c => ?_)
  · rw [if_pos c] at e
    refine g_iconst (v := 1) k_Mod_quiet_17 rfl ?_
    refine g_goto (tgt := 22) k_Mod_quiet_18 (by decide) ?_
    exact (t_Mod_quiet_22 s x1 1 m1 hq e hd)
  · rw [if_neg c] at e
    refine g_iconst (v := 0) k_Mod_quiet_21 rfl ?_
    exact (t_Mod_quiet_22 s x1 0 m1 hq e hd)
def b_Mod_asked_39 (x1 : Int32) (x2 : Int32) (x3 : Int32) (x4 : Int32) (xt0 : Int32) (m : aM) : Option (Int32 × aM) :=
  o_b2 (f_Mod_bad xt0 1 m) fun y1 m2 =>
  (if y1 = 0 then
  (if x4 = 0 then
  o_gd (inb x1 8) <|
  o_gd (inb x2 2) <|
  o_gd (inb x3 4) <|
  o_let ((m2 (8644 + 3 * x1.toNatClampNeg + x2.toNatClampNeg) x3.toNatClampNeg)) fun y6 =>
  some (y6, m2)
  else
  o_gd (inb x1 8) <|
  o_gd (inb x2 2) <|
  o_gd (inb x3 4) <|
  o_let ((m2 (8669 + 3 * x1.toNatClampNeg + x2.toNatClampNeg) x3.toNatClampNeg)) fun y10 =>
  some (y10, m2)
  )
  else
  some (0, m2)
  )
theorem t_Mod_asked_39 {K : aK} {d bc bs : Nat} {g : aG} (s : SyM g) {Q : aQ} {r : Int32} {m' : aM} (x1 : Int32) (x2 : Int32) (x3 : Int32) (x4 : Int32) (xt0 : Int32) (m : aM) (hq : Q (.inl (some (.int r))) (g, m')) (e : b_Mod_asked_39 x1 x2 x3 x4 xt0 m = some (r, m')) (hd : 1 ≤ d) : G K M_Mod_asked d bc bs 39 [.ref 242, .int x1, .int x2, .int x3, .int x4] [.int xt0, .ref 242] (g, m) Q := by
  unfold b_Mod_asked_39 at e
  refine g_iconst (v := 1) k_Mod_asked_39 rfl ?_
  obtain ⟨y1, m2, e_y1, e⟩ := o_b2_ex e
  refine g_cv k_Mod_asked_40 lv_Mod_240 (by decide +kernel) (T := F_Mod) (N := 61) (ci := 10) rfl (sk_Mod s) (s_Mod_bad (bc := 0) (bs := 0) s xt0 1 m e_y1) rfl rfl (Nat.le_of_ble_eq_true rfl) (by simp [Value.category]) (by omega) (by omega) (by omega) ?_
  refine g_if_eq (tgt := 48) k_Mod_asked_43 (by decide) (fun c => ?_) (fun c => ?_)
  · rw [if_pos c] at e
    refine g_iload k_Mod_asked_48 rfl ?_
    refine g_if_eq (tgt := 66) k_Mod_asked_50 (by decide) (fun c => ?_) (fun c => ?_)
    · rw [if_pos c] at e
      refine g_aload_n k_Mod_asked_66 rfl rfl ?_
      refine p_getr k_Mod_asked_67 fl_Mod_125 rfl (sk_Mod s) (by decide) (sr_Mod_59 s) ?_
      refine g_iload_n k_Mod_asked_70 rfl rfl ?_
      obtain ⟨q3, e⟩ := o_gd_ex e
      refine p_aald k_Mod_asked_71 (sa_Mod_59 s) (by decide) (by decide) (inb_in q3) (j := x1.toNatClampNeg) rfl (si_Mod_59 s _ (vp_lt (inb_in q3))).1 ?_
      refine g_iload_n k_Mod_asked_72 rfl rfl ?_
      obtain ⟨q4, e⟩ := o_gd_ex e
      refine p_aald k_Mod_asked_73 (si_Mod_59 s _ (vp_lt (inb_in q3))).2 (by decide) (by decide) (inb_in q4) (j := x2.toNatClampNeg) rfl (sj_Mod_59 s _ _ (vp_lt (inb_in q3)) (vp_lt (inb_in q4))).1 ?_
      refine g_iload_n k_Mod_asked_74 rfl rfl ?_
      obtain ⟨q5, e⟩ := o_gd_ex e
      refine p_iald k_Mod_asked_75 (sj_Mod_59 s _ _ (vp_lt (inb_in q3)) (vp_lt (inb_in q4))).2 (inb_in q5) (j := x3.toNatClampNeg) rfl ?_
      obtain ⟨y6, u_y6, e⟩ := o_let_ex e
      refine G.vy u_y6 ?_
      refine g_iret k_Mod_asked_76 rfl ?_
      exact (by cases e; exact hq)
    · rw [if_neg c] at e
      refine g_aload_n k_Mod_asked_53 rfl rfl ?_
      refine p_getr k_Mod_asked_54 fl_Mod_128 rfl (sk_Mod s) (by decide) (sr_Mod_60 s) ?_
      refine g_iload_n k_Mod_asked_57 rfl rfl ?_
      obtain ⟨q7, e⟩ := o_gd_ex e
      refine p_aald k_Mod_asked_58 (sa_Mod_60 s) (by decide) (by decide) (inb_in q7) (j := x1.toNatClampNeg) rfl (si_Mod_60 s _ (vp_lt (inb_in q7))).1 ?_
      refine g_iload_n k_Mod_asked_59 rfl rfl ?_
      obtain ⟨q8, e⟩ := o_gd_ex e
      refine p_aald k_Mod_asked_60 (si_Mod_60 s _ (vp_lt (inb_in q7))).2 (by decide) (by decide) (inb_in q8) (j := x2.toNatClampNeg) rfl (sj_Mod_60 s _ _ (vp_lt (inb_in q7)) (vp_lt (inb_in q8))).1 ?_
      refine g_iload_n k_Mod_asked_61 rfl rfl ?_
      obtain ⟨q9, e⟩ := o_gd_ex e
      refine p_iald k_Mod_asked_62 (sj_Mod_60 s _ _ (vp_lt (inb_in q7)) (vp_lt (inb_in q8))).2 (inb_in q9) (j := x3.toNatClampNeg) rfl ?_
      obtain ⟨y10, u_y10, e⟩ := o_let_ex e
      refine G.vy u_y10 ?_
      refine g_goto (tgt := 76) k_Mod_asked_63 (by decide) ?_
      refine g_iret k_Mod_asked_76 rfl ?_
      exact (by cases e; exact hq)
  · rw [if_neg c] at e
    refine g_iconst (v := 0) k_Mod_asked_46 rfl ?_
    refine g_iret k_Mod_asked_47 rfl ?_
    exact (by cases e; exact hq)
def b_Mod_asked_34 (x1 : Int32) (x2 : Int32) (x3 : Int32) (x4 : Int32) (m : aM) : Option (Int32 × aM) :=
  b_Mod_asked_39 x1 x2 x3 x4 1 m
theorem t_Mod_asked_34 {K : aK} {d bc bs : Nat} {g : aG} (s : SyM g) {Q : aQ} {r : Int32} {m' : aM} (x1 : Int32) (x2 : Int32) (x3 : Int32) (x4 : Int32) (m : aM) (hq : Q (.inl (some (.int r))) (g, m')) (e : b_Mod_asked_34 x1 x2 x3 x4 m = some (r, m')) (hd : 1 ≤ d) : G K M_Mod_asked d bc bs 34 [.ref 242, .int x1, .int x2, .int x3, .int x4] [.ref 242] (g, m) Q := by
  unfold b_Mod_asked_34 at e
  refine g_iconst (v := 1) k_Mod_asked_34 rfl ?_
  refine g_goto (tgt := 39) k_Mod_asked_35 (by decide) ?_
  exact (t_Mod_asked_39 s x1 x2 x3 x4 1 m hq e hd)
def f_Mod_asked (x1 : Int32) (x2 : Int32) (x3 : Int32) (x4 : Int32) (m : aM) : Option (Int32 × aM) :=
  o_let (a_st m 242 0 0) fun m1 =>
  o_b (f_Mod_in x1 0 7 m1) fun y2 =>
  (if y2 = 0 then
  b_Mod_asked_34 x1 x2 x3 x4 m1
  else
  o_b (f_Mod_in x2 0 1 m1) fun y3 =>
  (if y3 = 0 then
  b_Mod_asked_34 x1 x2 x3 x4 m1
  else
  o_b (f_Mod_in x3 0 3 m1) fun y4 =>
  (if y4 = 0 then
  b_Mod_asked_34 x1 x2 x3 x4 m1
  else
  b_Mod_asked_39 x1 x2 x3 x4 0 m1
  )
  )
  )
theorem s_Mod_asked {K : aK} {d bc bs : Nat} {g : aG} (s : SyM g) (x1 : Int32) (x2 : Int32) (x3 : Int32) (x4 : Int32) (m : aM) {r : Int32} {m' : aM} (e : f_Mod_asked x1 x2 x3 x4 m = some (r, m')) (hd : 1 ≤ d) : Sp K M_Mod_asked d bc bs [.ref 242, .int x1, .int x2, .int x3, .int x4] (g, m) (some (.int r)) (g, m') := by
  refine sp_of ok_Mod_asked rfl (Nat.le_of_ble_eq_true rfl) (by simp [Value.category]) (fun Q hq => ?_)
  unfold f_Mod_asked at e
  refine g_aload_n k_Mod_asked_0 rfl rfl ?_
  refine g_iconst (v := 0) k_Mod_asked_1 rfl ?_
  refine p_puti k_Mod_asked_2 fl_Mod_131 rfl ⟨R_Mod, F_Mod, 61, rfl, Or.inl rfl⟩ (sk_Mod s) (by decide) ?_
  obtain ⟨m1, u_m1, e⟩ := o_let_ex e
  refine G.hm u_m1 ?_
  refine g_aload_n k_Mod_asked_5 rfl rfl ?_
  refine g_iload_n k_Mod_asked_6 rfl rfl ?_
  refine g_iconst (v := 0) k_Mod_asked_7 rfl ?_
  refine g_bipush (v := 7) k_Mod_asked_8 rfl ?_
  obtain ⟨y2, e_y2, e⟩ := o_b_ex e
  refine g_cs k_Mod_asked_10 ls_Mod_236 (by decide +kernel) (s_Mod_in (bc := 0) (bs := 0) s x1 0 7 m1 e_y2) rfl rfl (Nat.le_of_ble_eq_true rfl) (by simp [Value.category]) (by omega) (by omega) (by omega) ?_
  refine g_if_eq (tgt := 34) k_Mod_asked_13 (by decide) (fun c => ?_) (fun c => ?_)
  · rw [if_pos c] at e
    exact (t_Mod_asked_34 s x1 x2 x3 x4 m1 hq e hd)
  · rw [if_neg c] at e
    refine g_iload_n k_Mod_asked_16 rfl rfl ?_
    refine g_iconst (v := 0) k_Mod_asked_17 rfl ?_
    refine g_iconst (v := 1) k_Mod_asked_18 rfl ?_
    obtain ⟨y3, e_y3, e⟩ := o_b_ex e
    refine g_cs k_Mod_asked_19 ls_Mod_236 (by decide +kernel) (s_Mod_in (bc := 0) (bs := 0) s x2 0 1 m1 e_y3) rfl rfl (Nat.le_of_ble_eq_true rfl) (by simp [Value.category]) (by omega) (by omega) (by omega) ?_
    refine g_if_eq (tgt := 34) k_Mod_asked_22 (by decide) (fun c => ?_) (fun c => ?_)
    · rw [if_pos c] at e
      exact (t_Mod_asked_34 s x1 x2 x3 x4 m1 hq e hd)
    · rw [if_neg c] at e
      refine g_iload_n k_Mod_asked_25 rfl rfl ?_
      refine g_iconst (v := 0) k_Mod_asked_26 rfl ?_
      refine g_iconst (v := 3) k_Mod_asked_27 rfl ?_
      obtain ⟨y4, e_y4, e⟩ := o_b_ex e
      refine g_cs k_Mod_asked_28 ls_Mod_236 (by decide +kernel) (s_Mod_in (bc := 0) (bs := 0) s x3 0 3 m1 e_y4) rfl rfl (Nat.le_of_ble_eq_true rfl) (by simp [Value.category]) (by omega) (by omega) (by omega) ?_
      refine g_if_ne (tgt := 38) k_Mod_asked_31 (by decide) (fun c => ?_) (fun c => ?_)
      · rw [if_pos c] at e
        exact (t_Mod_asked_34 s x1 x2 x3 x4 m1 hq e hd)
      · rw [if_neg c] at e
        refine g_iconst (v := 0) k_Mod_asked_38 rfl ?_
        exact (t_Mod_asked_39 s x1 x2 x3 x4 0 m1 hq e hd)
def b_Mod_still_61 (F : Nat) (rec_34 : Int32 → Int32 → Int32 → Int32 → aM → Option (Int32 × aM)) (x1 : Int32) (x2 : Int32) (x4 : Int32) (xt0 : Int32) (xt1 : Int32) (m : aM) : Option (Int32 × aM) :=
  rec_34 x1 x2 (xt1 ||| xt0) (x4 + 1) m
theorem t_Mod_still_61 {K : aK} {d bc bs : Nat} {g : aG} (s : SyM g) {Q : aQ} {r : Int32} {m' : aM} (F : Nat) (rec_34 : Int32 → Int32 → Int32 → Int32 → aM → Option (Int32 × aM)) (hr_34 : ∀ (x1 : Int32) (x2 : Int32) (x3 : Int32) (x4 : Int32) (m : aM), rec_34 x1 x2 x3 x4 m = some (r, m') → G K M_Mod_still d bc bs 34 [.ref 242, .int x1, .int x2, .int x3, .int x4] [] (g, m) Q) (x1 : Int32) (x2 : Int32) (x4 : Int32) (xt0 : Int32) (xt1 : Int32) (m : aM) (hq : Q (.inl (some (.int r))) (g, m')) (e : b_Mod_still_61 F rec_34 x1 x2 x4 xt0 xt1 m = some (r, m')) (hd : 1 ≤ d) : G K M_Mod_still d bc bs 61 [.ref 242, .int x1, .int x2, .double 0, .int x4] [.int xt0, .int xt1] (g, m) Q := by
  unfold b_Mod_still_61 at e
  refine g_ior k_Mod_still_61 ?_
  refine g_istore_n k_Mod_still_62 rfl (by decide) ?_
  refine g_iinc (v := _ + 1) k_Mod_still_63 rfl rfl (by decide) ?_
  refine g_goto (tgt := 34) k_Mod_still_66 (by decide) ?_
  exact (hr_34 x1 x2 (xt1 ||| xt0) (x4 + 1) m e)
def lb_Mod_still_34 (F : Nat) (rec_34 : Int32 → Int32 → Int32 → Int32 → aM → Option (Int32 × aM)) (x1 : Int32) (x2 : Int32) (x3 : Int32) (x4 : Int32) (m : aM) : Option (Int32 × aM) :=
  (if 8 ≤ x4 then
  some (x3, m)
  else
  o_b (f_Mod_isAskedFrom x4 x1 x2 m) fun y1 =>
  (if y1 = 0 then
  b_Mod_still_61 F rec_34 x1 x2 x4 0 x3 m
  else
  o_let (((1 : Int32) <<< (x4 &&& 31))) fun y2 =>
  b_Mod_still_61 F rec_34 x1 x2 x4 y2 x3 m
  )
  )
theorem tb_Mod_still_34 {K : aK} {d bc bs : Nat} {g : aG} (s : SyM g) {Q : aQ} {r : Int32} {m' : aM} (F : Nat) (rec_34 : Int32 → Int32 → Int32 → Int32 → aM → Option (Int32 × aM)) (hr_34 : ∀ (x1 : Int32) (x2 : Int32) (x3 : Int32) (x4 : Int32) (m : aM), rec_34 x1 x2 x3 x4 m = some (r, m') → G K M_Mod_still d bc bs 34 [.ref 242, .int x1, .int x2, .int x3, .int x4] [] (g, m) Q) (x1 : Int32) (x2 : Int32) (x3 : Int32) (x4 : Int32) (m : aM) (hq : Q (.inl (some (.int r))) (g, m')) (e : lb_Mod_still_34 F rec_34 x1 x2 x3 x4 m = some (r, m')) (hd : 1 ≤ d) : G K M_Mod_still d bc bs 34 [.ref 242, .int x1, .int x2, .int x3, .int x4] [] (g, m) Q := by
  unfold lb_Mod_still_34 at e
  refine g_iload k_Mod_still_34 rfl ?_
  refine g_bipush (v := 8) k_Mod_still_36 rfl ?_
  refine g_icmp_ge (tgt := 69) k_Mod_still_38 (by decide) (fun c => ?_) (fun c => ?_)
  · rw [if_pos c] at e
    refine g_iload_n k_Mod_still_69 rfl rfl ?_
    refine g_iret k_Mod_still_70 rfl ?_
    exact (by cases e; exact hq)
  · rw [if_neg c] at e
    refine g_iload_n k_Mod_still_41 rfl rfl ?_
    refine g_aload_n k_Mod_still_42 rfl rfl ?_
    refine g_iload k_Mod_still_43 rfl ?_
    refine g_iload_n k_Mod_still_45 rfl rfl ?_
    refine g_iload_n k_Mod_still_46 rfl rfl ?_
    obtain ⟨y1, e_y1, e⟩ := o_b_ex e
    refine g_cv k_Mod_still_47 lv_Mod_354 (by decide +kernel) (T := F_Mod) (N := 61) (ci := 10) rfl (sk_Mod s) (s_Mod_isAskedFrom (bc := 0) (bs := 0) s x4 x1 x2 m e_y1) rfl rfl (Nat.le_of_ble_eq_true rfl) (by simp [Value.category]) (by omega) (by omega) (by omega) ?_
    refine g_if_eq (tgt := 60) k_Mod_still_50 (by decide) (fun c => ?_) (fun c => ?_)
    · rw [if_pos c] at e
      refine g_iconst (v := 0) k_Mod_still_60 rfl ?_
      exact G.wl (wls (wls (wls (wld (wls wl0))))) (t_Mod_still_61 s F rec_34 hr_34 x1 x2 x4 0 x3 m hq e hd)
    · rw [if_neg c] at e
      refine g_iconst (v := 1) k_Mod_still_53 rfl ?_
      refine g_iload k_Mod_still_54 rfl ?_
      refine g_ishl k_Mod_still_56 ?_
      obtain ⟨y2, u_y2, e⟩ := o_let_ex e
      refine G.vy u_y2 ?_
      refine g_goto (tgt := 61) k_Mod_still_57 (by decide) ?_
      exact G.wl (wls (wls (wls (wld (wls wl0))))) (t_Mod_still_61 s F rec_34 hr_34 x1 x2 x4 y2 x3 m hq e hd)
def ll_Mod_still_34 (F : Nat) : Nat → Int32 → Int32 → Int32 → Int32 → aM → Option (Int32 × aM)
  | 0, _, _, _, _, _ => none
  | N + 1, x1, x2, x3, x4, m => lb_Mod_still_34 F (ll_Mod_still_34 F N) x1 x2 x3 x4 m
theorem t_Mod_still_34 {K : aK} {d bc bs : Nat} {g : aG} (s : SyM g) {Q : aQ} {r : Int32} {m' : aM} (F : Nat) : ∀ (N : Nat) (x1 : Int32) (x2 : Int32) (x3 : Int32) (x4 : Int32) (m : aM), Q (.inl (some (.int r))) (g, m') → ll_Mod_still_34 F N x1 x2 x3 x4 m = some (r, m') → 1 ≤ d → G K M_Mod_still d bc bs 34 [.ref 242, .int x1, .int x2, .int x3, .int x4] [] (g, m) Q
  | 0, _, _, _, _, _ => fun _ e => nomatch e
  | N + 1, x1, x2, x3, x4, m => fun hq e hd => tb_Mod_still_34 s F (ll_Mod_still_34 F N) (fun x1 x2 x3 x4 m e => t_Mod_still_34 s F N x1 x2 x3 x4 m hq e hd) x1 x2 x3 x4 m hq e hd
def b_Mod_still_20 (F : Nat) (x1 : Int32) (x2 : Int32) (xt0 : Int32) (m : aM) : Option (Int32 × aM) :=
  o_b2 (f_Mod_bad xt0 1 m) fun y1 m2 =>
  (if y1 = 0 then
  ll_Mod_still_34 F F x1 x2 0 0 m2
  else
  some (0, m2)
  )
theorem t_Mod_still_20 {K : aK} {d bc bs : Nat} {g : aG} (s : SyM g) {Q : aQ} {r : Int32} {m' : aM} (F : Nat) (x1 : Int32) (x2 : Int32) (xt0 : Int32) (m : aM) (hq : Q (.inl (some (.int r))) (g, m')) (e : b_Mod_still_20 F x1 x2 xt0 m = some (r, m')) (hd : 1 ≤ d) : G K M_Mod_still d bc bs 20 [.ref 242, .int x1, .int x2, .double 0, .double 0] [.int xt0, .ref 242] (g, m) Q := by
  unfold b_Mod_still_20 at e
  refine g_iconst (v := 1) k_Mod_still_20 rfl ?_
  obtain ⟨y1, m2, e_y1, e⟩ := o_b2_ex e
  refine g_cv k_Mod_still_21 lv_Mod_240 (by decide +kernel) (T := F_Mod) (N := 61) (ci := 10) rfl (sk_Mod s) (s_Mod_bad (bc := 0) (bs := 0) s xt0 1 m e_y1) rfl rfl (Nat.le_of_ble_eq_true rfl) (by simp [Value.category]) (by omega) (by omega) (by omega) ?_
  refine g_if_eq (tgt := 29) k_Mod_still_24 (by decide) (fun c => ?_) (fun c => ?_)
  · rw [if_pos c] at e
    refine g_iconst (v := 0) k_Mod_still_29 rfl ?_
    refine g_istore_n k_Mod_still_30 rfl (by decide) ?_
    refine g_iconst (v := 0) k_Mod_still_31 rfl ?_
    refine g_istore k_Mod_still_32 (by decide) ?_
    exact (t_Mod_still_34 s F F x1 x2 0 0 m2 hq e hd)
  · rw [if_neg c] at e
    refine g_iconst (v := 0) k_Mod_still_27 rfl ?_
    refine g_iret k_Mod_still_28 rfl ?_
    exact (by cases e; exact hq)
def f_Mod_still (F : Nat) (x1 : Int32) (x2 : Int32) (m : aM) : Option (Int32 × aM) :=
  o_let (a_st m 242 0 0) fun m1 =>
  o_b (f_Mod_in x1 0 3 m1) fun y2 =>
  (if y2 = 0 then
  b_Mod_still_20 F x1 x2 1 m1
  else
  b_Mod_still_20 F x1 x2 0 m1
  )
theorem s_Mod_still {K : aK} {d bc bs : Nat} {g : aG} (s : SyM g) (F : Nat) (x1 : Int32) (x2 : Int32) (m : aM) {r : Int32} {m' : aM} (e : f_Mod_still F x1 x2 m = some (r, m')) (hd : 1 ≤ d) : Sp K M_Mod_still d bc bs [.ref 242, .int x1, .int x2] (g, m) (some (.int r)) (g, m') := by
  refine sp_of ok_Mod_still rfl (Nat.le_of_ble_eq_true rfl) (by simp [Value.category]) (fun Q hq => ?_)
  unfold f_Mod_still at e
  refine g_aload_n k_Mod_still_0 rfl rfl ?_
  refine g_iconst (v := 0) k_Mod_still_1 rfl ?_
  refine p_puti k_Mod_still_2 fl_Mod_131 rfl ⟨R_Mod, F_Mod, 61, rfl, Or.inl rfl⟩ (sk_Mod s) (by decide) ?_
  obtain ⟨m1, u_m1, e⟩ := o_let_ex e
  refine G.hm u_m1 ?_
  refine g_aload_n k_Mod_still_5 rfl rfl ?_
  refine g_iload_n k_Mod_still_6 rfl rfl ?_
  refine g_iconst (v := 0) k_Mod_still_7 rfl ?_
  refine g_iconst (v := 3) k_Mod_still_8 rfl ?_
  obtain ⟨y2, e_y2, e⟩ := o_b_ex e
  refine g_cs k_Mod_still_9 ls_Mod_236 (by decide +kernel) (s_Mod_in (bc := 0) (bs := 0) s x1 0 3 m1 e_y2) rfl rfl (Nat.le_of_ble_eq_true rfl) (by simp [Value.category]) (by omega) (by omega) (by omega) ?_
  refine g_if_ne (tgt := 19) k_Mod_still_12 (by decide) (fun c => ?_) (fun c => ?_)
  · rw [if_pos c] at e
    refine g_iconst (v := 1) k_Mod_still_15 rfl ?_
    refine g_goto (tgt := 20) k_Mod_still_16 (by decide) ?_
    exact (t_Mod_still_20 s F x1 x2 1 m1 hq e hd)
  · rw [if_neg c] at e
    refine g_iconst (v := 0) k_Mod_still_19 rfl ?_
    exact (t_Mod_still_20 s F x1 x2 0 m1 hq e hd)
def f_Mod_weigh (a0 : Nat) (m : aM) : Option Int32 :=
  o_let ((((m a0 0) + (3 * (m a0 1))) + (5 * (m a0 2)))) fun y1 =>
  some (y1 + (7 * (m a0 3)))
theorem s_Mod_weigh {K : aK} {d bc bs : Nat} {g : aG} (s : SyM g) (a0 : Nat) (h0 : g.2.1 a0 = (0, 4)) (m : aM) {r : Int32} (e : f_Mod_weigh a0 m = some r) : Sp K M_Mod_weigh d bc bs [.ref a0] (g, m) (some (.int r)) (g, m) := by
  refine sp_of ok_Mod_weigh rfl (Nat.le_of_ble_eq_true rfl) (by simp [Value.category]) (fun Q hq => ?_)
  unfold f_Mod_weigh at e
  refine g_aload_n k_Mod_weigh_0 rfl rfl ?_
  refine g_iconst (v := 0) k_Mod_weigh_1 rfl ?_
  refine p_iald k_Mod_weigh_2 h0 (vp_in_nI (n := 0) (N := 4) (by decide) (by decide)) (j := 0) rfl ?_
  refine g_iconst (v := 3) k_Mod_weigh_3 rfl ?_
  refine g_aload_n k_Mod_weigh_4 rfl rfl ?_
  refine g_iconst (v := 1) k_Mod_weigh_5 rfl ?_
  refine p_iald k_Mod_weigh_6 h0 (vp_in_nI (n := 1) (N := 4) (by decide) (by decide)) (j := 1) rfl ?_
  refine g_imul k_Mod_weigh_7 ?_
  refine g_iadd k_Mod_weigh_8 ?_
  refine g_iconst (v := 5) k_Mod_weigh_9 rfl ?_
  refine g_aload_n k_Mod_weigh_10 rfl rfl ?_
  refine g_iconst (v := 2) k_Mod_weigh_11 rfl ?_
  refine p_iald k_Mod_weigh_12 h0 (vp_in_nI (n := 2) (N := 4) (by decide) (by decide)) (j := 2) rfl ?_
  refine g_imul k_Mod_weigh_13 ?_
  refine g_iadd k_Mod_weigh_14 ?_
  obtain ⟨y1, u_y1, e⟩ := o_let_ex e
  refine G.vy u_y1 ?_
  refine g_bipush (v := 7) k_Mod_weigh_15 rfl ?_
  refine g_aload_n k_Mod_weigh_17 rfl rfl ?_
  refine g_iconst (v := 3) k_Mod_weigh_18 rfl ?_
  refine p_iald k_Mod_weigh_19 h0 (vp_in_nI (n := 3) (N := 4) (by decide) (by decide)) (j := 3) rfl ?_
  refine g_imul k_Mod_weigh_20 ?_
  refine g_iadd k_Mod_weigh_21 ?_
  refine g_iret k_Mod_weigh_22 rfl ?_
  exact (by cases e; exact hq)
def b_Mod_sumOf_62 (F : Nat) (rec_5 : Int32 → Int32 → Int32 → aM → Option (Int32 × aM)) (x2 : Int32) (x3 : Int32) (x4 : Int32) (m : aM) : Option (Int32 × aM) :=
  rec_5 x2 x3 (x4 + 1) m
theorem t_Mod_sumOf_62 {K : aK} {d bc bs : Nat} {g : aG} (s : SyM g) {Q : aQ} {r : Int32} {m' : aM} (F : Nat) (rec_5 : Int32 → Int32 → Int32 → aM → Option (Int32 × aM)) (hr_5 : ∀ (x2 : Int32) (x3 : Int32) (x4 : Int32) (m : aM), rec_5 x2 x3 x4 m = some (r, m') → G K M_Mod_sumOf d bc bs 5 [.ref 242, .double 0, .int x2, .int x3, .int x4] [] (g, m) Q) (x2 : Int32) (x3 : Int32) (x4 : Int32) (m : aM) (hq : Q (.inl (some (.int r))) (g, m')) (e : b_Mod_sumOf_62 F rec_5 x2 x3 x4 m = some (r, m')) (hd : 400 ≤ d) : G K M_Mod_sumOf d bc bs 62 [.ref 242, .double 0, .int x2, .int x3, .int x4] [] (g, m) Q := by
  unfold b_Mod_sumOf_62 at e
  refine g_iinc (v := _ + 1) k_Mod_sumOf_62 rfl rfl (by decide) ?_
  refine g_goto (tgt := 5) k_Mod_sumOf_65 (by decide) ?_
  exact (hr_5 x2 x3 (x4 + 1) m e)
def lb_Mod_sumOf_5 (F : Nat) (rec_5 : Int32 → Int32 → Int32 → aM → Option (Int32 × aM)) (x2 : Int32) (x3 : Int32) (x4 : Int32) (m : aM) : Option (Int32 × aM) :=
  (if x2 < x4 then
  some (x3, m)
  else
  o_gd (inb x4 40) <|
  (if (m 8473 x4.toNatClampNeg) = 0 then
  b_Mod_sumOf_62 F rec_5 x2 x3 x4 m
  else
  o_gd (inb x4 40) <|
  (if (m 8475 x4.toNatClampNeg) = 1 then
  o_b2 (f_Mod_seesOf F x4 m) fun y3 m4 =>
  o_gd (inb x4 40) <|
  o_b (f_Mod_weigh (8520 + x4.toNatClampNeg) m4) fun y6 =>
  o_b (f_Mod_weigh 251 m4) fun y7 =>
  b_Mod_sumOf_62 F rec_5 x2 (x3 + (y6 - y7)) x4 m4
  else
  b_Mod_sumOf_62 F rec_5 x2 x3 x4 m
  )
  )
  )
theorem tb_Mod_sumOf_5 {K : aK} {d bc bs : Nat} {g : aG} (s : SyM g) {Q : aQ} {r : Int32} {m' : aM} (F : Nat) (rec_5 : Int32 → Int32 → Int32 → aM → Option (Int32 × aM)) (hr_5 : ∀ (x2 : Int32) (x3 : Int32) (x4 : Int32) (m : aM), rec_5 x2 x3 x4 m = some (r, m') → G K M_Mod_sumOf d bc bs 5 [.ref 242, .double 0, .int x2, .int x3, .int x4] [] (g, m) Q) (x2 : Int32) (x3 : Int32) (x4 : Int32) (m : aM) (hq : Q (.inl (some (.int r))) (g, m')) (e : lb_Mod_sumOf_5 F rec_5 x2 x3 x4 m = some (r, m')) (hd : 400 ≤ d) : G K M_Mod_sumOf d bc bs 5 [.ref 242, .double 0, .int x2, .int x3, .int x4] [] (g, m) Q := by
  unfold lb_Mod_sumOf_5 at e
  refine g_iload k_Mod_sumOf_5 rfl ?_
  refine g_iload_n k_Mod_sumOf_7 rfl rfl ?_
  refine g_icmp_gt (tgt := 68) k_Mod_sumOf_8 (by decide) (fun c => ?_) (fun c => ?_)
  · rw [if_pos c] at e
    refine g_iload_n k_Mod_sumOf_68 rfl rfl ?_
    refine g_iret k_Mod_sumOf_69 rfl ?_
    exact (by cases e; exact hq)
  · rw [if_neg c] at e
    refine g_aload_n k_Mod_sumOf_11 rfl rfl ?_
    refine p_getr k_Mod_sumOf_12 fl_Mod_96 rfl (sk_Mod s) (by decide) (sr_Mod_50 s) ?_
    refine g_iload k_Mod_sumOf_15 rfl ?_
    obtain ⟨q1, e⟩ := o_gd_ex e
    refine p_zald k_Mod_sumOf_17 (sa_Mod_50 s) (inb_in q1) (j := x4.toNatClampNeg) rfl ?_
    refine g_if_eq (tgt := 62) k_Mod_sumOf_18 (by decide) (fun c => ?_) (fun c => ?_)
    · rw [if_pos c] at e
      exact (t_Mod_sumOf_62 s F rec_5 hr_5 x2 x3 x4 m hq e hd)
    · rw [if_neg c] at e
      refine g_aload_n k_Mod_sumOf_21 rfl rfl ?_
      refine p_getr k_Mod_sumOf_22 fl_Mod_102 rfl (sk_Mod s) (by decide) (sr_Mod_52 s) ?_
      refine g_iload k_Mod_sumOf_25 rfl ?_
      obtain ⟨q2, e⟩ := o_gd_ex e
      refine p_iald k_Mod_sumOf_27 (sa_Mod_52 s) (inb_in q2) (j := x4.toNatClampNeg) rfl ?_
      refine g_iconst (v := 1) k_Mod_sumOf_28 rfl ?_
      refine g_icmp_eq (tgt := 35) k_Mod_sumOf_29 (by decide) (fun c => ?_) (fun c => ?_)
      · rw [if_pos c] at e
        refine g_aload_n k_Mod_sumOf_35 rfl rfl ?_
        refine g_iload k_Mod_sumOf_36 rfl ?_
        obtain ⟨y3, m4, e_y3, e⟩ := o_b2_ex e
        refine g_cv k_Mod_sumOf_38 lv_Mod_345 (by decide +kernel) (T := F_Mod) (N := 61) (ci := 10) rfl (sk_Mod s) (s_Mod_seesOf (bc := 0) (bs := 0) s F x4 m e_y3 (by omega)) rfl rfl (Nat.le_of_ble_eq_true rfl) (by simp [Value.category]) (by omega) (by omega) (by omega) ?_
        refine g_iload_n k_Mod_sumOf_41 rfl rfl ?_
        refine g_aload_n k_Mod_sumOf_42 rfl rfl ?_
        refine p_getr k_Mod_sumOf_43 fl_Mod_114 rfl (sk_Mod s) (by decide) (sr_Mod_56 s) ?_
        refine g_iload k_Mod_sumOf_46 rfl ?_
        obtain ⟨q5, e⟩ := o_gd_ex e
        refine p_aald k_Mod_sumOf_48 (sa_Mod_56 s) (by decide) (by decide) (inb_in q5) (j := x4.toNatClampNeg) rfl (si_Mod_56 s _ (vp_lt (inb_in q5))).1 ?_
        obtain ⟨y6, e_y6, e⟩ := o_b_ex e
        refine g_cs k_Mod_sumOf_49 ls_Mod_400 (by decide +kernel) (s_Mod_weigh (bc := 0) (bs := 0) s (8520 + x4.toNatClampNeg) ((si_Mod_56 s _ (vp_lt (inb_in q5))).2) m4 e_y6) rfl rfl (Nat.le_of_ble_eq_true rfl) (by simp [Value.category]) (by omega) (by omega) (by omega) ?_
        refine g_aload_n k_Mod_sumOf_52 rfl rfl ?_
        refine p_getr k_Mod_sumOf_53 fl_Mod_40 rfl (sk_Mod s) (by decide) (sr_Mod_26 s) ?_
        obtain ⟨y7, e_y7, e⟩ := o_b_ex e
        refine g_cs k_Mod_sumOf_56 ls_Mod_400 (by decide +kernel) (s_Mod_weigh (bc := 0) (bs := 0) s 251 (sa_Mod_26 s) m4 e_y7) rfl rfl (Nat.le_of_ble_eq_true rfl) (by simp [Value.category]) (by omega) (by omega) (by omega) ?_
        refine g_isub k_Mod_sumOf_59 ?_
        refine g_iadd k_Mod_sumOf_60 ?_
        refine g_istore_n k_Mod_sumOf_61 rfl (by decide) ?_
        exact (t_Mod_sumOf_62 s F rec_5 hr_5 x2 (x3 + (y6 - y7)) x4 m4 hq e hd)
      · rw [if_neg c] at e
        refine g_goto (tgt := 62) k_Mod_sumOf_32 (by decide) ?_
        exact (t_Mod_sumOf_62 s F rec_5 hr_5 x2 x3 x4 m hq e hd)
def ll_Mod_sumOf_5 (F : Nat) : Nat → Int32 → Int32 → Int32 → aM → Option (Int32 × aM)
  | 0, _, _, _, _ => none
  | N + 1, x2, x3, x4, m => lb_Mod_sumOf_5 F (ll_Mod_sumOf_5 F N) x2 x3 x4 m
theorem t_Mod_sumOf_5 {K : aK} {d bc bs : Nat} {g : aG} (s : SyM g) {Q : aQ} {r : Int32} {m' : aM} (F : Nat) : ∀ (N : Nat) (x2 : Int32) (x3 : Int32) (x4 : Int32) (m : aM), Q (.inl (some (.int r))) (g, m') → ll_Mod_sumOf_5 F N x2 x3 x4 m = some (r, m') → 400 ≤ d → G K M_Mod_sumOf d bc bs 5 [.ref 242, .double 0, .int x2, .int x3, .int x4] [] (g, m) Q
  | 0, _, _, _, _ => fun _ e => nomatch e
  | N + 1, x2, x3, x4, m => fun hq e hd => tb_Mod_sumOf_5 s F (ll_Mod_sumOf_5 F N) (fun x2 x3 x4 m e => t_Mod_sumOf_5 s F N x2 x3 x4 m hq e hd) x2 x3 x4 m hq e hd
def f_Mod_sumOf (F : Nat) (x1 : Int32) (x2 : Int32) (m : aM) : Option (Int32 × aM) :=
  ll_Mod_sumOf_5 F F x2 0 x1 m
theorem s_Mod_sumOf {K : aK} {d bc bs : Nat} {g : aG} (s : SyM g) (F : Nat) (x1 : Int32) (x2 : Int32) (m : aM) {r : Int32} {m' : aM} (e : f_Mod_sumOf F x1 x2 m = some (r, m')) (hd : 400 ≤ d) : Sp K M_Mod_sumOf d bc bs [.ref 242, .int x1, .int x2] (g, m) (some (.int r)) (g, m') := by
  refine sp_of ok_Mod_sumOf rfl (Nat.le_of_ble_eq_true rfl) (by simp [Value.category]) (fun Q hq => ?_)
  unfold f_Mod_sumOf at e
  refine g_iconst (v := 0) k_Mod_sumOf_0 rfl ?_
  refine g_istore_n k_Mod_sumOf_1 rfl (by decide) ?_
  refine g_iload_n k_Mod_sumOf_2 rfl rfl ?_
  refine g_istore k_Mod_sumOf_3 (by decide) ?_
  exact G.wl (wls (wld (wls (wls (wls wl0))))) (t_Mod_sumOf_5 s F F x2 0 x1 m hq e hd)
def b_Mod_sum_45 (F : Nat) (x1 : Int32) (x2 : Int32) (xt0 : Int32) (m : aM) : Option (Int32 × aM) :=
  o_b2 (f_Mod_bad xt0 2 m) fun y1 m2 =>
  (if y1 = 0 then
  o_b2 (f_Mod_sumOf F x1 x2 m2) fun y3 m4 =>
  some (y3, m4)
  else
  some (0, m2)
  )
theorem t_Mod_sum_45 {K : aK} {d bc bs : Nat} {g : aG} (s : SyM g) {Q : aQ} {r : Int32} {m' : aM} (F : Nat) (x1 : Int32) (x2 : Int32) (xt0 : Int32) (m : aM) (hq : Q (.inl (some (.int r))) (g, m')) (e : b_Mod_sum_45 F x1 x2 xt0 m = some (r, m')) (hd : 401 ≤ d) : G K M_Mod_sum d bc bs 45 [.ref 242, .int x1, .int x2] [.int xt0, .ref 242] (g, m) Q := by
  unfold b_Mod_sum_45 at e
  refine g_iconst (v := 2) k_Mod_sum_45 rfl ?_
  obtain ⟨y1, m2, e_y1, e⟩ := o_b2_ex e
  refine g_cv k_Mod_sum_46 lv_Mod_240 (by decide +kernel) (T := F_Mod) (N := 61) (ci := 10) rfl (sk_Mod s) (s_Mod_bad (bc := 0) (bs := 0) s xt0 2 m e_y1) rfl rfl (Nat.le_of_ble_eq_true rfl) (by simp [Value.category]) (by omega) (by omega) (by omega) ?_
  refine g_if_eq (tgt := 54) k_Mod_sum_49 (by decide) (fun c => ?_) (fun c => ?_)
  · rw [if_pos c] at e
    refine g_aload_n k_Mod_sum_54 rfl rfl ?_
    refine g_iload_n k_Mod_sum_55 rfl rfl ?_
    refine g_iload_n k_Mod_sum_56 rfl rfl ?_
    obtain ⟨y3, m4, e_y3, e⟩ := o_b2_ex e
    refine g_cv k_Mod_sum_57 lv_Mod_404 (by decide +kernel) (T := F_Mod) (N := 61) (ci := 10) rfl (sk_Mod s) (s_Mod_sumOf (bc := 0) (bs := 0) s F x1 x2 m2 e_y3 (by omega)) rfl rfl (Nat.le_of_ble_eq_true rfl) (by simp [Value.category]) (by omega) (by omega) (by omega) ?_
    refine g_iret k_Mod_sum_60 rfl ?_
    exact (by cases e; exact hq)
  · rw [if_neg c] at e
    refine g_iconst (v := 0) k_Mod_sum_52 rfl ?_
    refine g_iret k_Mod_sum_53 rfl ?_
    exact (by cases e; exact hq)
def b_Mod_sum_27 (F : Nat) (x1 : Int32) (x2 : Int32) (xt0 : Int32) (m : aM) : Option (Int32 × aM) :=
  o_b2 (f_Mod_bad xt0 1 m) fun y1 m2 =>
  (if y1 = 0 then
  (if x1 ≤ x2 then
  b_Mod_sum_45 F x1 x2 0 m2
  else
  b_Mod_sum_45 F x1 x2 1 m2
  )
  else
  some (0, m2)
  )
theorem t_Mod_sum_27 {K : aK} {d bc bs : Nat} {g : aG} (s : SyM g) {Q : aQ} {r : Int32} {m' : aM} (F : Nat) (x1 : Int32) (x2 : Int32) (xt0 : Int32) (m : aM) (hq : Q (.inl (some (.int r))) (g, m')) (e : b_Mod_sum_27 F x1 x2 xt0 m = some (r, m')) (hd : 401 ≤ d) : G K M_Mod_sum d bc bs 27 [.ref 242, .int x1, .int x2] [.int xt0, .ref 242] (g, m) Q := by
  unfold b_Mod_sum_27 at e
  refine g_iconst (v := 1) k_Mod_sum_27 rfl ?_
  obtain ⟨y1, m2, e_y1, e⟩ := o_b2_ex e
  refine g_cv k_Mod_sum_28 lv_Mod_240 (by decide +kernel) (T := F_Mod) (N := 61) (ci := 10) rfl (sk_Mod s) (s_Mod_bad (bc := 0) (bs := 0) s xt0 1 m e_y1) rfl rfl (Nat.le_of_ble_eq_true rfl) (by simp [Value.category]) (by omega) (by omega) (by omega) ?_
  refine g_if_ne (tgt := 52) k_Mod_sum_31 (by decide) (fun c => ?_) (fun c => ?_)
  · rw [if_pos c] at e
    refine g_aload_n k_Mod_sum_34 rfl rfl ?_
    refine g_iload_n k_Mod_sum_35 rfl rfl ?_
    refine g_iload_n k_Mod_sum_36 rfl rfl ?_
    refine g_icmp_le (tgt := 44) k_Mod_sum_37 (by decide) (fun c => ?_) (fun c => ?_)
    · rw [if_pos c] at e
      refine g_iconst (v := 0) k_Mod_sum_44 rfl ?_
      exact (t_Mod_sum_45 s F x1 x2 0 m2 hq e hd)
    · rw [if_neg c] at e
      refine g_iconst (v := 1) k_Mod_sum_40 rfl ?_
      refine g_goto (tgt := 45) k_Mod_sum_41 (by decide) ?_
      exact (t_Mod_sum_45 s F x1 x2 1 m2 hq e hd)
  · rw [if_neg c] at e
    refine g_iconst (v := 0) k_Mod_sum_52 rfl ?_
    refine g_iret k_Mod_sum_53 rfl ?_
    exact (by cases e; exact hq)
def b_Mod_sum_22 (F : Nat) (x1 : Int32) (x2 : Int32) (m : aM) : Option (Int32 × aM) :=
  b_Mod_sum_27 F x1 x2 1 m
theorem t_Mod_sum_22 {K : aK} {d bc bs : Nat} {g : aG} (s : SyM g) {Q : aQ} {r : Int32} {m' : aM} (F : Nat) (x1 : Int32) (x2 : Int32) (m : aM) (hq : Q (.inl (some (.int r))) (g, m')) (e : b_Mod_sum_22 F x1 x2 m = some (r, m')) (hd : 401 ≤ d) : G K M_Mod_sum d bc bs 22 [.ref 242, .int x1, .int x2] [.ref 242] (g, m) Q := by
  unfold b_Mod_sum_22 at e
  refine g_iconst (v := 1) k_Mod_sum_22 rfl ?_
  refine g_goto (tgt := 27) k_Mod_sum_23 (by decide) ?_
  exact (t_Mod_sum_27 s F x1 x2 1 m hq e hd)
def f_Mod_sum (F : Nat) (x1 : Int32) (x2 : Int32) (m : aM) : Option (Int32 × aM) :=
  o_let (a_st m 242 0 0) fun m1 =>
  o_b (f_Mod_isKey x1 m1) fun y2 =>
  (if y2 = 0 then
  b_Mod_sum_22 F x1 x2 m1
  else
  o_b (f_Mod_isKey x2 m1) fun y3 =>
  (if y3 = 0 then
  b_Mod_sum_22 F x1 x2 m1
  else
  b_Mod_sum_27 F x1 x2 0 m1
  )
  )
theorem s_Mod_sum {K : aK} {d bc bs : Nat} {g : aG} (s : SyM g) (F : Nat) (x1 : Int32) (x2 : Int32) (m : aM) {r : Int32} {m' : aM} (e : f_Mod_sum F x1 x2 m = some (r, m')) (hd : 401 ≤ d) : Sp K M_Mod_sum d bc bs [.ref 242, .int x1, .int x2] (g, m) (some (.int r)) (g, m') := by
  refine sp_of ok_Mod_sum rfl (Nat.le_of_ble_eq_true rfl) (by simp [Value.category]) (fun Q hq => ?_)
  unfold f_Mod_sum at e
  refine g_aload_n k_Mod_sum_0 rfl rfl ?_
  refine g_iconst (v := 0) k_Mod_sum_1 rfl ?_
  refine p_puti k_Mod_sum_2 fl_Mod_131 rfl ⟨R_Mod, F_Mod, 61, rfl, Or.inl rfl⟩ (sk_Mod s) (by decide) ?_
  obtain ⟨m1, u_m1, e⟩ := o_let_ex e
  refine G.hm u_m1 ?_
  refine g_aload_n k_Mod_sum_5 rfl rfl ?_
  refine g_aload_n k_Mod_sum_6 rfl rfl ?_
  refine g_iload_n k_Mod_sum_7 rfl rfl ?_
  obtain ⟨y2, e_y2, e⟩ := o_b_ex e
  refine g_cv k_Mod_sum_8 lv_Mod_369 (by decide +kernel) (T := F_Mod) (N := 61) (ci := 10) rfl (sk_Mod s) (s_Mod_isKey (bc := 0) (bs := 0) s x1 m1 e_y2 (by omega)) rfl rfl (Nat.le_of_ble_eq_true rfl) (by simp [Value.category]) (by omega) (by omega) (by omega) ?_
  refine g_if_eq (tgt := 22) k_Mod_sum_11 (by decide) (fun c => ?_) (fun c => ?_)
  · rw [if_pos c] at e
    exact (t_Mod_sum_22 s F x1 x2 m1 hq e hd)
  · rw [if_neg c] at e
    refine g_aload_n k_Mod_sum_14 rfl rfl ?_
    refine g_iload_n k_Mod_sum_15 rfl rfl ?_
    obtain ⟨y3, e_y3, e⟩ := o_b_ex e
    refine g_cv k_Mod_sum_16 lv_Mod_369 (by decide +kernel) (T := F_Mod) (N := 61) (ci := 10) rfl (sk_Mod s) (s_Mod_isKey (bc := 0) (bs := 0) s x2 m1 e_y3 (by omega)) rfl rfl (Nat.le_of_ble_eq_true rfl) (by simp [Value.category]) (by omega) (by omega) (by omega) ?_
    refine g_if_ne (tgt := 26) k_Mod_sum_19 (by decide) (fun c => ?_) (fun c => ?_)
    · rw [if_pos c] at e
      exact (t_Mod_sum_22 s F x1 x2 m1 hq e hd)
    · rw [if_neg c] at e
      refine g_iconst (v := 0) k_Mod_sum_26 rfl ?_
      exact (t_Mod_sum_27 s F x1 x2 0 m1 hq e hd)
def b_Mod_halves_106 (F : Nat) (rec_70 : Int32 → Int32 → aM → Option (Int32 × aM)) (x3 : Int32) (x4 : Int32) (m : aM) : Option (Int32 × aM) :=
  rec_70 x3 x4 m
theorem t_Mod_halves_106 {K : aK} {d bc bs : Nat} {g : aG} (s : SyM g) {Q : aQ} {r : Int32} {m' : aM} (F : Nat) (rec_70 : Int32 → Int32 → aM → Option (Int32 × aM)) (hr_70 : ∀ (x3 : Int32) (x4 : Int32) (m : aM), rec_70 x3 x4 m = some (r, m') → G K M_Mod_halves d bc bs 70 [.ref 242, .double 0, .double 0, .int x3, .int x4, .double 0] [] (g, m) Q) (x3 : Int32) (x4 : Int32) (m : aM) (hq : Q (.inl (some (.int r))) (g, m')) (e : b_Mod_halves_106 F rec_70 x3 x4 m = some (r, m')) (hd : 401 ≤ d) : G K M_Mod_halves d bc bs 106 [.ref 242, .double 0, .double 0, .int x3, .int x4, .double 0] [] (g, m) Q := by
  unfold b_Mod_halves_106 at e
  refine g_goto (tgt := 70) k_Mod_halves_106 (by decide) ?_
  exact (hr_70 x3 x4 m e)
def lb_Mod_halves_70 (F : Nat) (rec_70 : Int32 → Int32 → aM → Option (Int32 × aM)) (x3 : Int32) (x4 : Int32) (m : aM) : Option (Int32 × aM) :=
  (if x4 ≤ x3 then
  some (x3, m)
  else
  o_b2 (f_Mod_sumOf F x3 ((x3 + x4) / 2) m) fun y1 m2 =>
  (if y1 = 0 then
  b_Mod_halves_106 F rec_70 (((x3 + x4) / 2) + 1) x4 m2
  else
  b_Mod_halves_106 F rec_70 x3 ((x3 + x4) / 2) m2
  )
  )
theorem tb_Mod_halves_70 {K : aK} {d bc bs : Nat} {g : aG} (s : SyM g) {Q : aQ} {r : Int32} {m' : aM} (F : Nat) (rec_70 : Int32 → Int32 → aM → Option (Int32 × aM)) (hr_70 : ∀ (x3 : Int32) (x4 : Int32) (m : aM), rec_70 x3 x4 m = some (r, m') → G K M_Mod_halves d bc bs 70 [.ref 242, .double 0, .double 0, .int x3, .int x4, .double 0] [] (g, m) Q) (x3 : Int32) (x4 : Int32) (m : aM) (hq : Q (.inl (some (.int r))) (g, m')) (e : lb_Mod_halves_70 F rec_70 x3 x4 m = some (r, m')) (hd : 401 ≤ d) : G K M_Mod_halves d bc bs 70 [.ref 242, .double 0, .double 0, .int x3, .int x4, .double 0] [] (g, m) Q := by
  unfold lb_Mod_halves_70 at e
  refine g_iload_n k_Mod_halves_70 rfl rfl ?_
  refine g_iload k_Mod_halves_71 rfl ?_
  refine g_icmp_ge (tgt := 109) k_Mod_halves_73 (by decide) (fun c => ?_) (fun c => ?_)
  · rw [if_pos c] at e
    refine g_iload_n k_Mod_halves_109 rfl rfl ?_
    refine g_iret k_Mod_halves_110 rfl ?_
    exact (by cases e; exact hq)
  · rw [if_neg c] at e
    refine g_iload_n k_Mod_halves_76 rfl rfl ?_
    refine g_iload k_Mod_halves_77 rfl ?_
    refine g_iadd k_Mod_halves_79 ?_
    refine g_iconst (v := 2) k_Mod_halves_80 rfl ?_
    refine g_idiv k_Mod_halves_81 (by decide) ?_
    refine g_istore k_Mod_halves_82 (by decide) ?_
    refine g_aload_n k_Mod_halves_84 rfl rfl ?_
    refine g_iload_n k_Mod_halves_85 rfl rfl ?_
    refine g_iload k_Mod_halves_86 rfl ?_
    obtain ⟨y1, m2, e_y1, e⟩ := o_b2_ex e
    refine g_cv k_Mod_halves_88 lv_Mod_404 (by decide +kernel) (T := F_Mod) (N := 61) (ci := 10) rfl (sk_Mod s) (s_Mod_sumOf (bc := 0) (bs := 0) s F x3 ((x3 + x4) / 2) m e_y1 (by omega)) rfl rfl (Nat.le_of_ble_eq_true rfl) (by simp [Value.category]) (by omega) (by omega) (by omega) ?_
    refine g_if_eq (tgt := 101) k_Mod_halves_91 (by decide) (fun c => ?_) (fun c => ?_)
    · rw [if_pos c] at e
      refine g_iload k_Mod_halves_101 rfl ?_
      refine g_iconst (v := 1) k_Mod_halves_103 rfl ?_
      refine g_iadd k_Mod_halves_104 ?_
      refine g_istore_n k_Mod_halves_105 rfl (by decide) ?_
      exact G.wl (wls (wls (wls (wls (wls (wld wl0)))))) (t_Mod_halves_106 s F rec_70 hr_70 (((x3 + x4) / 2) + 1) x4 m2 hq e hd)
    · rw [if_neg c] at e
      refine g_iload k_Mod_halves_94 rfl ?_
      refine g_istore k_Mod_halves_96 (by decide) ?_
      refine g_goto (tgt := 106) k_Mod_halves_98 (by decide) ?_
      exact G.wl (wls (wls (wls (wls (wls (wld wl0)))))) (t_Mod_halves_106 s F rec_70 hr_70 x3 ((x3 + x4) / 2) m2 hq e hd)
def ll_Mod_halves_70 (F : Nat) : Nat → Int32 → Int32 → aM → Option (Int32 × aM)
  | 0, _, _, _ => none
  | N + 1, x3, x4, m => lb_Mod_halves_70 F (ll_Mod_halves_70 F N) x3 x4 m
theorem t_Mod_halves_70 {K : aK} {d bc bs : Nat} {g : aG} (s : SyM g) {Q : aQ} {r : Int32} {m' : aM} (F : Nat) : ∀ (N : Nat) (x3 : Int32) (x4 : Int32) (m : aM), Q (.inl (some (.int r))) (g, m') → ll_Mod_halves_70 F N x3 x4 m = some (r, m') → 401 ≤ d → G K M_Mod_halves d bc bs 70 [.ref 242, .double 0, .double 0, .int x3, .int x4, .double 0] [] (g, m) Q
  | 0, _, _, _ => fun _ e => nomatch e
  | N + 1, x3, x4, m => fun hq e hd => tb_Mod_halves_70 s F (ll_Mod_halves_70 F N) (fun x3 x4 m e => t_Mod_halves_70 s F N x3 x4 m hq e hd) x3 x4 m hq e hd
def b_Mod_halves_45 (F : Nat) (x1 : Int32) (x2 : Int32) (xt0 : Int32) (m : aM) : Option (Int32 × aM) :=
  o_b2 (f_Mod_bad xt0 2 m) fun y1 m2 =>
  (if y1 = 0 then
  o_b2 (f_Mod_sumOf F x1 x2 m2) fun y3 m4 =>
  (if y3 = 0 then
  some ((-1), m4)
  else
  ll_Mod_halves_70 F F x1 x2 m4
  )
  else
  some (0, m2)
  )
theorem t_Mod_halves_45 {K : aK} {d bc bs : Nat} {g : aG} (s : SyM g) {Q : aQ} {r : Int32} {m' : aM} (F : Nat) (x1 : Int32) (x2 : Int32) (xt0 : Int32) (m : aM) (hq : Q (.inl (some (.int r))) (g, m')) (e : b_Mod_halves_45 F x1 x2 xt0 m = some (r, m')) (hd : 401 ≤ d) : G K M_Mod_halves d bc bs 45 [.ref 242, .int x1, .int x2, .double 0, .double 0, .double 0] [.int xt0, .ref 242] (g, m) Q := by
  unfold b_Mod_halves_45 at e
  refine g_iconst (v := 2) k_Mod_halves_45 rfl ?_
  obtain ⟨y1, m2, e_y1, e⟩ := o_b2_ex e
  refine g_cv k_Mod_halves_46 lv_Mod_240 (by decide +kernel) (T := F_Mod) (N := 61) (ci := 10) rfl (sk_Mod s) (s_Mod_bad (bc := 0) (bs := 0) s xt0 2 m e_y1) rfl rfl (Nat.le_of_ble_eq_true rfl) (by simp [Value.category]) (by omega) (by omega) (by omega) ?_
  refine g_if_eq (tgt := 54) k_Mod_halves_49 (by decide) (fun c => ?_) (fun c => ?_)
  · rw [if_pos c] at e
    refine g_aload_n k_Mod_halves_54 rfl rfl ?_
    refine g_iload_n k_Mod_halves_55 rfl rfl ?_
    refine g_iload_n k_Mod_halves_56 rfl rfl ?_
    obtain ⟨y3, m4, e_y3, e⟩ := o_b2_ex e
    refine g_cv k_Mod_halves_57 lv_Mod_404 (by decide +kernel) (T := F_Mod) (N := 61) (ci := 10) rfl (sk_Mod s) (s_Mod_sumOf (bc := 0) (bs := 0) s F x1 x2 m2 e_y3 (by omega)) rfl rfl (Nat.le_of_ble_eq_true rfl) (by simp [Value.category]) (by omega) (by omega) (by omega) ?_
    refine g_if_ne (tgt := 65) k_Mod_halves_60 (by decide) (fun c => ?_) (fun c => ?_)
    · rw [if_pos c] at e
      refine g_iconst (v := (-1)) k_Mod_halves_63 rfl ?_
      refine g_iret k_Mod_halves_64 rfl ?_
      exact (by cases e; exact hq)
    · rw [if_neg c] at e
      refine g_iload_n k_Mod_halves_65 rfl rfl ?_
      refine g_istore_n k_Mod_halves_66 rfl (by decide) ?_
      refine g_iload_n k_Mod_halves_67 rfl rfl ?_
      refine g_istore k_Mod_halves_68 (by decide) ?_
      exact G.wl (wls (wld (wld (wls (wls (wls wl0)))))) (t_Mod_halves_70 s F F x1 x2 m4 hq e hd)
  · rw [if_neg c] at e
    refine g_iconst (v := 0) k_Mod_halves_52 rfl ?_
    refine g_iret k_Mod_halves_53 rfl ?_
    exact (by cases e; exact hq)
def b_Mod_halves_27 (F : Nat) (x1 : Int32) (x2 : Int32) (xt0 : Int32) (m : aM) : Option (Int32 × aM) :=
  o_b2 (f_Mod_bad xt0 1 m) fun y1 m2 =>
  (if y1 = 0 then
  (if x1 ≤ x2 then
  b_Mod_halves_45 F x1 x2 0 m2
  else
  b_Mod_halves_45 F x1 x2 1 m2
  )
  else
  some (0, m2)
  )
theorem t_Mod_halves_27 {K : aK} {d bc bs : Nat} {g : aG} (s : SyM g) {Q : aQ} {r : Int32} {m' : aM} (F : Nat) (x1 : Int32) (x2 : Int32) (xt0 : Int32) (m : aM) (hq : Q (.inl (some (.int r))) (g, m')) (e : b_Mod_halves_27 F x1 x2 xt0 m = some (r, m')) (hd : 401 ≤ d) : G K M_Mod_halves d bc bs 27 [.ref 242, .int x1, .int x2, .double 0, .double 0, .double 0] [.int xt0, .ref 242] (g, m) Q := by
  unfold b_Mod_halves_27 at e
  refine g_iconst (v := 1) k_Mod_halves_27 rfl ?_
  obtain ⟨y1, m2, e_y1, e⟩ := o_b2_ex e
  refine g_cv k_Mod_halves_28 lv_Mod_240 (by decide +kernel) (T := F_Mod) (N := 61) (ci := 10) rfl (sk_Mod s) (s_Mod_bad (bc := 0) (bs := 0) s xt0 1 m e_y1) rfl rfl (Nat.le_of_ble_eq_true rfl) (by simp [Value.category]) (by omega) (by omega) (by omega) ?_
  refine g_if_ne (tgt := 52) k_Mod_halves_31 (by decide) (fun c => ?_) (fun c => ?_)
  · rw [if_pos c] at e
    refine g_aload_n k_Mod_halves_34 rfl rfl ?_
    refine g_iload_n k_Mod_halves_35 rfl rfl ?_
    refine g_iload_n k_Mod_halves_36 rfl rfl ?_
    refine g_icmp_le (tgt := 44) k_Mod_halves_37 (by decide) (fun c => ?_) (fun c => ?_)
    · rw [if_pos c] at e
      refine g_iconst (v := 0) k_Mod_halves_44 rfl ?_
      exact (t_Mod_halves_45 s F x1 x2 0 m2 hq e hd)
    · rw [if_neg c] at e
      refine g_iconst (v := 1) k_Mod_halves_40 rfl ?_
      refine g_goto (tgt := 45) k_Mod_halves_41 (by decide) ?_
      exact (t_Mod_halves_45 s F x1 x2 1 m2 hq e hd)
  · rw [if_neg c] at e
    refine g_iconst (v := 0) k_Mod_halves_52 rfl ?_
    refine g_iret k_Mod_halves_53 rfl ?_
    exact (by cases e; exact hq)
def b_Mod_halves_22 (F : Nat) (x1 : Int32) (x2 : Int32) (m : aM) : Option (Int32 × aM) :=
  b_Mod_halves_27 F x1 x2 1 m
theorem t_Mod_halves_22 {K : aK} {d bc bs : Nat} {g : aG} (s : SyM g) {Q : aQ} {r : Int32} {m' : aM} (F : Nat) (x1 : Int32) (x2 : Int32) (m : aM) (hq : Q (.inl (some (.int r))) (g, m')) (e : b_Mod_halves_22 F x1 x2 m = some (r, m')) (hd : 401 ≤ d) : G K M_Mod_halves d bc bs 22 [.ref 242, .int x1, .int x2, .double 0, .double 0, .double 0] [.ref 242] (g, m) Q := by
  unfold b_Mod_halves_22 at e
  refine g_iconst (v := 1) k_Mod_halves_22 rfl ?_
  refine g_goto (tgt := 27) k_Mod_halves_23 (by decide) ?_
  exact (t_Mod_halves_27 s F x1 x2 1 m hq e hd)
def f_Mod_halves (F : Nat) (x1 : Int32) (x2 : Int32) (m : aM) : Option (Int32 × aM) :=
  o_let (a_st m 242 0 0) fun m1 =>
  o_b (f_Mod_isKey x1 m1) fun y2 =>
  (if y2 = 0 then
  b_Mod_halves_22 F x1 x2 m1
  else
  o_b (f_Mod_isKey x2 m1) fun y3 =>
  (if y3 = 0 then
  b_Mod_halves_22 F x1 x2 m1
  else
  b_Mod_halves_27 F x1 x2 0 m1
  )
  )
theorem s_Mod_halves {K : aK} {d bc bs : Nat} {g : aG} (s : SyM g) (F : Nat) (x1 : Int32) (x2 : Int32) (m : aM) {r : Int32} {m' : aM} (e : f_Mod_halves F x1 x2 m = some (r, m')) (hd : 401 ≤ d) : Sp K M_Mod_halves d bc bs [.ref 242, .int x1, .int x2] (g, m) (some (.int r)) (g, m') := by
  refine sp_of ok_Mod_halves rfl (Nat.le_of_ble_eq_true rfl) (by simp [Value.category]) (fun Q hq => ?_)
  unfold f_Mod_halves at e
  refine g_aload_n k_Mod_halves_0 rfl rfl ?_
  refine g_iconst (v := 0) k_Mod_halves_1 rfl ?_
  refine p_puti k_Mod_halves_2 fl_Mod_131 rfl ⟨R_Mod, F_Mod, 61, rfl, Or.inl rfl⟩ (sk_Mod s) (by decide) ?_
  obtain ⟨m1, u_m1, e⟩ := o_let_ex e
  refine G.hm u_m1 ?_
  refine g_aload_n k_Mod_halves_5 rfl rfl ?_
  refine g_aload_n k_Mod_halves_6 rfl rfl ?_
  refine g_iload_n k_Mod_halves_7 rfl rfl ?_
  obtain ⟨y2, e_y2, e⟩ := o_b_ex e
  refine g_cv k_Mod_halves_8 lv_Mod_369 (by decide +kernel) (T := F_Mod) (N := 61) (ci := 10) rfl (sk_Mod s) (s_Mod_isKey (bc := 0) (bs := 0) s x1 m1 e_y2 (by omega)) rfl rfl (Nat.le_of_ble_eq_true rfl) (by simp [Value.category]) (by omega) (by omega) (by omega) ?_
  refine g_if_eq (tgt := 22) k_Mod_halves_11 (by decide) (fun c => ?_) (fun c => ?_)
  · rw [if_pos c] at e
    exact (t_Mod_halves_22 s F x1 x2 m1 hq e hd)
  · rw [if_neg c] at e
    refine g_aload_n k_Mod_halves_14 rfl rfl ?_
    refine g_iload_n k_Mod_halves_15 rfl rfl ?_
    obtain ⟨y3, e_y3, e⟩ := o_b_ex e
    refine g_cv k_Mod_halves_16 lv_Mod_369 (by decide +kernel) (T := F_Mod) (N := 61) (ci := 10) rfl (sk_Mod s) (s_Mod_isKey (bc := 0) (bs := 0) s x2 m1 e_y3 (by omega)) rfl rfl (Nat.le_of_ble_eq_true rfl) (by simp [Value.category]) (by omega) (by omega) (by omega) ?_
    refine g_if_ne (tgt := 26) k_Mod_halves_19 (by decide) (fun c => ?_) (fun c => ?_)
    · rw [if_pos c] at e
      exact (t_Mod_halves_22 s F x1 x2 m1 hq e hd)
    · rw [if_neg c] at e
      refine g_iconst (v := 0) k_Mod_halves_26 rfl ?_
      exact (t_Mod_halves_27 s F x1 x2 0 m1 hq e hd)
def b_Mod_mend_41 (F : Nat) (x1 : Int32) (xt0 : Int32) (m : aM) : Option (Int32 × aM) :=
  o_b2 (f_Mod_bad xt0 2 m) fun y1 m2 =>
  (if y1 = 0 then
  o_b2 (f_Mod_isOdd F x1 m2) fun y3 m4 =>
  (if y3 = 0 then
  o_gd (isb y3) <|
  some (y3, m4)
  else
  o_b2 (f_Mod_takesSeen F x1 m4) fun y6 m7 =>
  o_gd (isb y3) <|
  some (y3, m7)
  )
  else
  some (0, m2)
  )
theorem t_Mod_mend_41 {K : aK} {d bc bs : Nat} {g : aG} (s : SyM g) {Q : aQ} {r : Int32} {m' : aM} (F : Nat) (x1 : Int32) (xt0 : Int32) (m : aM) (hq : Q (.inl (some (.int r))) (g, m')) (e : b_Mod_mend_41 F x1 xt0 m = some (r, m')) (hd : 401 ≤ d) : G K M_Mod_mend d bc bs 41 [.ref 242, .int x1, .double 0] [.int xt0, .ref 242] (g, m) Q := by
  unfold b_Mod_mend_41 at e
  refine g_iconst (v := 2) k_Mod_mend_41 rfl ?_
  obtain ⟨y1, m2, e_y1, e⟩ := o_b2_ex e
  refine g_cv k_Mod_mend_42 lv_Mod_240 (by decide +kernel) (T := F_Mod) (N := 61) (ci := 10) rfl (sk_Mod s) (s_Mod_bad (bc := 0) (bs := 0) s xt0 2 m e_y1) rfl rfl (Nat.le_of_ble_eq_true rfl) (by simp [Value.category]) (by omega) (by omega) (by omega) ?_
  refine g_if_eq (tgt := 50) k_Mod_mend_45 (by decide) (fun c => ?_) (fun c => ?_)
  · rw [if_pos c] at e
    refine g_aload_n k_Mod_mend_50 rfl rfl ?_
    refine g_iload_n k_Mod_mend_51 rfl rfl ?_
    obtain ⟨y3, m4, e_y3, e⟩ := o_b2_ex e
    refine g_cv k_Mod_mend_52 lv_Mod_348 (by decide +kernel) (T := F_Mod) (N := 61) (ci := 10) rfl (sk_Mod s) (s_Mod_isOdd (bc := 0) (bs := 0) s F x1 m2 e_y3 (by omega)) rfl rfl (Nat.le_of_ble_eq_true rfl) (by simp [Value.category]) (by omega) (by omega) (by omega) ?_
    refine g_istore_n k_Mod_mend_55 rfl (by decide) ?_
    refine g_iload_n k_Mod_mend_56 rfl rfl ?_
    refine g_if_eq (tgt := 65) k_Mod_mend_57 (by decide) (fun c => ?_) (fun c => ?_)
    · rw [if_pos c] at e
      refine g_iload_n k_Mod_mend_65 rfl rfl ?_
      obtain ⟨q5, e⟩ := o_gd_ex e
      refine g_zret k_Mod_mend_66 rfl (isb_or q5) ?_
      exact (by cases e; exact hq)
    · rw [if_neg c] at e
      refine g_aload_n k_Mod_mend_60 rfl rfl ?_
      refine g_iload_n k_Mod_mend_61 rfl rfl ?_
      obtain ⟨y6, m7, e_y6, e⟩ := o_b2_ex e
      refine g_cv k_Mod_mend_62 lv_Mod_372 (by decide +kernel) (T := F_Mod) (N := 61) (ci := 10) rfl (sk_Mod s) (s_Mod_takesSeen (bc := 0) (bs := 0) s F x1 m4 e_y6 (by omega)) rfl rfl (Nat.le_of_ble_eq_true rfl) (by simp [Value.category]) (by omega) (by omega) (by omega) ?_
      refine g_iload_n k_Mod_mend_65 rfl rfl ?_
      obtain ⟨q8, e⟩ := o_gd_ex e
      refine g_zret k_Mod_mend_66 rfl (isb_or q8) ?_
      exact (by cases e; exact hq)
  · rw [if_neg c] at e
    refine g_iconst (v := 0) k_Mod_mend_48 rfl ?_
    refine g_zret k_Mod_mend_49 rfl (by decide) ?_
    exact (by cases e; exact hq)
def b_Mod_mend_19 (F : Nat) (x1 : Int32) (xt0 : Int32) (m : aM) : Option (Int32 × aM) :=
  o_b2 (f_Mod_bad xt0 1 m) fun y1 m2 =>
  (if y1 = 0 then
  o_gd (inb x1 40) <|
  (if (m2 8473 x1.toNatClampNeg) = 0 then
  b_Mod_mend_41 F x1 1 m2
  else
  b_Mod_mend_41 F x1 0 m2
  )
  else
  some (0, m2)
  )
theorem t_Mod_mend_19 {K : aK} {d bc bs : Nat} {g : aG} (s : SyM g) {Q : aQ} {r : Int32} {m' : aM} (F : Nat) (x1 : Int32) (xt0 : Int32) (m : aM) (hq : Q (.inl (some (.int r))) (g, m')) (e : b_Mod_mend_19 F x1 xt0 m = some (r, m')) (hd : 401 ≤ d) : G K M_Mod_mend d bc bs 19 [.ref 242, .int x1, .double 0] [.int xt0, .ref 242] (g, m) Q := by
  unfold b_Mod_mend_19 at e
  refine g_iconst (v := 1) k_Mod_mend_19 rfl ?_
  obtain ⟨y1, m2, e_y1, e⟩ := o_b2_ex e
  refine g_cv k_Mod_mend_20 lv_Mod_240 (by decide +kernel) (T := F_Mod) (N := 61) (ci := 10) rfl (sk_Mod s) (s_Mod_bad (bc := 0) (bs := 0) s xt0 1 m e_y1) rfl rfl (Nat.le_of_ble_eq_true rfl) (by simp [Value.category]) (by omega) (by omega) (by omega) ?_
  refine g_if_ne (tgt := 48) k_Mod_mend_23 (by decide) (fun c => ?_) (fun c => ?_)
  · rw [if_pos c] at e
    refine g_aload_n k_Mod_mend_26 rfl rfl ?_
    refine g_aload_n k_Mod_mend_27 rfl rfl ?_
    refine p_getr k_Mod_mend_28 fl_Mod_96 rfl (sk_Mod s) (by decide) (sr_Mod_50 s) ?_
    refine g_iload_n k_Mod_mend_31 rfl rfl ?_
    obtain ⟨q3, e⟩ := o_gd_ex e
    refine p_zald k_Mod_mend_32 (sa_Mod_50 s) (inb_in q3) (j := x1.toNatClampNeg) rfl ?_
    refine g_if_ne (tgt := 40) k_Mod_mend_33 (by decide) (fun c => ?_) (fun c => ?_)
    · rw [if_pos c] at e
      refine g_iconst (v := 1) k_Mod_mend_36 rfl ?_
      refine g_goto (tgt := 41) k_Mod_mend_37 (by decide) ?_
      exact (t_Mod_mend_41 s F x1 1 m2 hq e hd)
    · rw [if_neg c] at e
      refine g_iconst (v := 0) k_Mod_mend_40 rfl ?_
      exact (t_Mod_mend_41 s F x1 0 m2 hq e hd)
  · rw [if_neg c] at e
    refine g_iconst (v := 0) k_Mod_mend_48 rfl ?_
    refine g_zret k_Mod_mend_49 rfl (by decide) ?_
    exact (by cases e; exact hq)
def f_Mod_mend (F : Nat) (x1 : Int32) (m : aM) : Option (Int32 × aM) :=
  o_let (a_st m 242 0 0) fun m1 =>
  o_b (f_Mod_isKey x1 m1) fun y2 =>
  (if y2 = 0 then
  b_Mod_mend_19 F x1 1 m1
  else
  b_Mod_mend_19 F x1 0 m1
  )
theorem s_Mod_mend {K : aK} {d bc bs : Nat} {g : aG} (s : SyM g) (F : Nat) (x1 : Int32) (m : aM) {r : Int32} {m' : aM} (e : f_Mod_mend F x1 m = some (r, m')) (hd : 401 ≤ d) : Sp K M_Mod_mend d bc bs [.ref 242, .int x1] (g, m) (some (.int r)) (g, m') := by
  refine sp_of ok_Mod_mend rfl (Nat.le_of_ble_eq_true rfl) (by simp [Value.category]) (fun Q hq => ?_)
  unfold f_Mod_mend at e
  refine g_aload_n k_Mod_mend_0 rfl rfl ?_
  refine g_iconst (v := 0) k_Mod_mend_1 rfl ?_
  refine p_puti k_Mod_mend_2 fl_Mod_131 rfl ⟨R_Mod, F_Mod, 61, rfl, Or.inl rfl⟩ (sk_Mod s) (by decide) ?_
  obtain ⟨m1, u_m1, e⟩ := o_let_ex e
  refine G.hm u_m1 ?_
  refine g_aload_n k_Mod_mend_5 rfl rfl ?_
  refine g_aload_n k_Mod_mend_6 rfl rfl ?_
  refine g_iload_n k_Mod_mend_7 rfl rfl ?_
  obtain ⟨y2, e_y2, e⟩ := o_b_ex e
  refine g_cv k_Mod_mend_8 lv_Mod_369 (by decide +kernel) (T := F_Mod) (N := 61) (ci := 10) rfl (sk_Mod s) (s_Mod_isKey (bc := 0) (bs := 0) s x1 m1 e_y2 (by omega)) rfl rfl (Nat.le_of_ble_eq_true rfl) (by simp [Value.category]) (by omega) (by omega) (by omega) ?_
  refine g_if_ne (tgt := 18) k_Mod_mend_11 (by decide) (fun c => ?_) (fun c => ?_)
  · rw [if_pos c] at e
    refine g_iconst (v := 1) k_Mod_mend_14 rfl ?_
    refine g_goto (tgt := 19) k_Mod_mend_15 (by decide) ?_
    exact (t_Mod_mend_19 s F x1 1 m1 hq e hd)
  · rw [if_neg c] at e
    refine g_iconst (v := 0) k_Mod_mend_18 rfl ?_
    exact (t_Mod_mend_19 s F x1 0 m1 hq e hd)
def f_Mod_count (F : Nat) (x1 : Int32) (m : aM) : Option (Int32 × aM) :=
  o_let (a_st m 242 0 0) fun m1 =>
  (if x1 = 0 then
  some ((m1 242 45), m1)
  else
  (if x1 = 1 then
  some ((m1 242 46), m1)
  else
  (if x1 = 2 then
  o_b (f_Mod_many F 0 m1) fun y2 =>
  o_b (f_Mod_many F 1 m1) fun y3 =>
  o_b (f_Mod_many F 2 m1) fun y4 =>
  o_b (f_Mod_many F 3 m1) fun y5 =>
  some ((((y2 + y3) + y4) + y5), m1)
  else
  (if x1 = 3 then
  o_b (f_Mod_many F 0 m1) fun y6 =>
  some (y6, m1)
  else
  (if x1 = 4 then
  o_b (f_Mod_many F 1 m1) fun y7 =>
  some (y7, m1)
  else
  (if x1 = 5 then
  o_b (f_Mod_many F 2 m1) fun y8 =>
  some (y8, m1)
  else
  (if x1 = 6 then
  o_b (f_Mod_many F 3 m1) fun y9 =>
  some (y9, m1)
  else
  (if x1 = 7 then
  o_b (f_Mod_brokenOnes F  m1) fun y10 =>
  some (y10, m1)
  else
  (if x1 = 8 then
  o_b2 (f_Mod_oddOnes F  m1) fun y11 m12 =>
  some (y11, m12)
  else
  (if x1 = 9 then
  some ((m1 242 4), m1)
  else
  (if x1 = 10 then
  some ((m1 242 35), m1)
  else
  (if x1 = 11 then
  some ((m1 242 36), m1)
  else
  (if x1 = 12 then
  some ((m1 242 1), m1)
  else
  some ((-1), m1)
  )))))))))))))
theorem s_Mod_count {K : aK} {d bc bs : Nat} {g : aG} (s : SyM g) (F : Nat) (x1 : Int32) (m : aM) {r : Int32} {m' : aM} (e : f_Mod_count F x1 m = some (r, m')) (hd : 402 ≤ d) : Sp K M_Mod_count d bc bs [.ref 242, .int x1] (g, m) (some (.int r)) (g, m') := by
  refine sp_of ok_Mod_count rfl (Nat.le_of_ble_eq_true rfl) (by simp [Value.category]) (fun Q hq => ?_)
  unfold f_Mod_count at e
  refine g_aload_n k_Mod_count_0 rfl rfl ?_
  refine g_iconst (v := 0) k_Mod_count_1 rfl ?_
  refine p_puti k_Mod_count_2 fl_Mod_131 rfl ⟨R_Mod, F_Mod, 61, rfl, Or.inl rfl⟩ (sk_Mod s) (by decide) ?_
  obtain ⟨m1, u_m1, e⟩ := o_let_ex e
  refine G.hm u_m1 ?_
  refine g_iload_n k_Mod_count_5 rfl rfl ?_
  by_cases s_0 : x1 = 0
  · rw [if_pos s_0] at e
    refine g_tabIn (off := 66) (tgt := 72) k_Mod_count_6 (by rw [s_0]; decide) (by rw [s_0]; decide) (by rw [s_0]; rfl) (by decide) ?_
    refine g_aload_n k_Mod_count_72 rfl rfl ?_
    refine p_geti k_Mod_count_73 fl_Mod_244 rfl (sk_Mod s) (by decide) ?_
    refine g_iret k_Mod_count_76 rfl ?_
    exact (by cases e; exact hq)
  rw [if_neg s_0] at e
  by_cases s_1 : x1 = 1
  · rw [if_pos s_1] at e
    refine g_tabIn (off := 71) (tgt := 77) k_Mod_count_6 (by rw [s_1]; decide) (by rw [s_1]; decide) (by rw [s_1]; rfl) (by decide) ?_
    refine g_aload_n k_Mod_count_77 rfl rfl ?_
    refine p_geti k_Mod_count_78 fl_Mod_351 rfl (sk_Mod s) (by decide) ?_
    refine g_iret k_Mod_count_81 rfl ?_
    exact (by cases e; exact hq)
  rw [if_neg s_1] at e
  by_cases s_2 : x1 = 2
  · rw [if_pos s_2] at e
    refine g_tabIn (off := 76) (tgt := 82) k_Mod_count_6 (by rw [s_2]; decide) (by rw [s_2]; decide) (by rw [s_2]; rfl) (by decide) ?_
    refine g_aload_n k_Mod_count_82 rfl rfl ?_
    refine g_iconst (v := 0) k_Mod_count_83 rfl ?_
    obtain ⟨y2, e_y2, e⟩ := o_b_ex e
    refine g_cv k_Mod_count_84 lv_Mod_357 (by decide +kernel) (T := F_Mod) (N := 61) (ci := 10) rfl (sk_Mod s) (s_Mod_many (bc := 0) (bs := 0) s F 0 m1 e_y2) rfl rfl (Nat.le_of_ble_eq_true rfl) (by simp [Value.category]) (by omega) (by omega) (by omega) ?_
    refine g_aload_n k_Mod_count_87 rfl rfl ?_
    refine g_iconst (v := 1) k_Mod_count_88 rfl ?_
    obtain ⟨y3, e_y3, e⟩ := o_b_ex e
    refine g_cv k_Mod_count_89 lv_Mod_357 (by decide +kernel) (T := F_Mod) (N := 61) (ci := 10) rfl (sk_Mod s) (s_Mod_many (bc := 0) (bs := 0) s F 1 m1 e_y3) rfl rfl (Nat.le_of_ble_eq_true rfl) (by simp [Value.category]) (by omega) (by omega) (by omega) ?_
    refine g_iadd k_Mod_count_92 ?_
    refine g_aload_n k_Mod_count_93 rfl rfl ?_
    refine g_iconst (v := 2) k_Mod_count_94 rfl ?_
    obtain ⟨y4, e_y4, e⟩ := o_b_ex e
    refine g_cv k_Mod_count_95 lv_Mod_357 (by decide +kernel) (T := F_Mod) (N := 61) (ci := 10) rfl (sk_Mod s) (s_Mod_many (bc := 0) (bs := 0) s F 2 m1 e_y4) rfl rfl (Nat.le_of_ble_eq_true rfl) (by simp [Value.category]) (by omega) (by omega) (by omega) ?_
    refine g_iadd k_Mod_count_98 ?_
    refine g_aload_n k_Mod_count_99 rfl rfl ?_
    refine g_iconst (v := 3) k_Mod_count_100 rfl ?_
    obtain ⟨y5, e_y5, e⟩ := o_b_ex e
    refine g_cv k_Mod_count_101 lv_Mod_357 (by decide +kernel) (T := F_Mod) (N := 61) (ci := 10) rfl (sk_Mod s) (s_Mod_many (bc := 0) (bs := 0) s F 3 m1 e_y5) rfl rfl (Nat.le_of_ble_eq_true rfl) (by simp [Value.category]) (by omega) (by omega) (by omega) ?_
    refine g_iadd k_Mod_count_104 ?_
    refine g_iret k_Mod_count_105 rfl ?_
    exact (by cases e; exact hq)
  rw [if_neg s_2] at e
  by_cases s_3 : x1 = 3
  · rw [if_pos s_3] at e
    refine g_tabIn (off := 100) (tgt := 106) k_Mod_count_6 (by rw [s_3]; decide) (by rw [s_3]; decide) (by rw [s_3]; rfl) (by decide) ?_
    refine g_aload_n k_Mod_count_106 rfl rfl ?_
    refine g_iconst (v := 0) k_Mod_count_107 rfl ?_
    obtain ⟨y6, e_y6, e⟩ := o_b_ex e
    refine g_cv k_Mod_count_108 lv_Mod_357 (by decide +kernel) (T := F_Mod) (N := 61) (ci := 10) rfl (sk_Mod s) (s_Mod_many (bc := 0) (bs := 0) s F 0 m1 e_y6) rfl rfl (Nat.le_of_ble_eq_true rfl) (by simp [Value.category]) (by omega) (by omega) (by omega) ?_
    refine g_iret k_Mod_count_111 rfl ?_
    exact (by cases e; exact hq)
  rw [if_neg s_3] at e
  by_cases s_4 : x1 = 4
  · rw [if_pos s_4] at e
    refine g_tabIn (off := 106) (tgt := 112) k_Mod_count_6 (by rw [s_4]; decide) (by rw [s_4]; decide) (by rw [s_4]; rfl) (by decide) ?_
    refine g_aload_n k_Mod_count_112 rfl rfl ?_
    refine g_iconst (v := 1) k_Mod_count_113 rfl ?_
    obtain ⟨y7, e_y7, e⟩ := o_b_ex e
    refine g_cv k_Mod_count_114 lv_Mod_357 (by decide +kernel) (T := F_Mod) (N := 61) (ci := 10) rfl (sk_Mod s) (s_Mod_many (bc := 0) (bs := 0) s F 1 m1 e_y7) rfl rfl (Nat.le_of_ble_eq_true rfl) (by simp [Value.category]) (by omega) (by omega) (by omega) ?_
    refine g_iret k_Mod_count_117 rfl ?_
    exact (by cases e; exact hq)
  rw [if_neg s_4] at e
  by_cases s_5 : x1 = 5
  · rw [if_pos s_5] at e
    refine g_tabIn (off := 112) (tgt := 118) k_Mod_count_6 (by rw [s_5]; decide) (by rw [s_5]; decide) (by rw [s_5]; rfl) (by decide) ?_
    refine g_aload_n k_Mod_count_118 rfl rfl ?_
    refine g_iconst (v := 2) k_Mod_count_119 rfl ?_
    obtain ⟨y8, e_y8, e⟩ := o_b_ex e
    refine g_cv k_Mod_count_120 lv_Mod_357 (by decide +kernel) (T := F_Mod) (N := 61) (ci := 10) rfl (sk_Mod s) (s_Mod_many (bc := 0) (bs := 0) s F 2 m1 e_y8) rfl rfl (Nat.le_of_ble_eq_true rfl) (by simp [Value.category]) (by omega) (by omega) (by omega) ?_
    refine g_iret k_Mod_count_123 rfl ?_
    exact (by cases e; exact hq)
  rw [if_neg s_5] at e
  by_cases s_6 : x1 = 6
  · rw [if_pos s_6] at e
    refine g_tabIn (off := 118) (tgt := 124) k_Mod_count_6 (by rw [s_6]; decide) (by rw [s_6]; decide) (by rw [s_6]; rfl) (by decide) ?_
    refine g_aload_n k_Mod_count_124 rfl rfl ?_
    refine g_iconst (v := 3) k_Mod_count_125 rfl ?_
    obtain ⟨y9, e_y9, e⟩ := o_b_ex e
    refine g_cv k_Mod_count_126 lv_Mod_357 (by decide +kernel) (T := F_Mod) (N := 61) (ci := 10) rfl (sk_Mod s) (s_Mod_many (bc := 0) (bs := 0) s F 3 m1 e_y9) rfl rfl (Nat.le_of_ble_eq_true rfl) (by simp [Value.category]) (by omega) (by omega) (by omega) ?_
    refine g_iret k_Mod_count_129 rfl ?_
    exact (by cases e; exact hq)
  rw [if_neg s_6] at e
  by_cases s_7 : x1 = 7
  · rw [if_pos s_7] at e
    refine g_tabIn (off := 124) (tgt := 130) k_Mod_count_6 (by rw [s_7]; decide) (by rw [s_7]; decide) (by rw [s_7]; rfl) (by decide) ?_
    refine g_aload_n k_Mod_count_130 rfl rfl ?_
    obtain ⟨y10, e_y10, e⟩ := o_b_ex e
    refine g_cv k_Mod_count_131 lv_Mod_360 (by decide +kernel) (T := F_Mod) (N := 61) (ci := 10) rfl (sk_Mod s) (s_Mod_brokenOnes (bc := 0) (bs := 0) s F  m1 e_y10) rfl rfl (Nat.le_of_ble_eq_true rfl) (by simp [Value.category]) (by omega) (by omega) (by omega) ?_
    refine g_iret k_Mod_count_134 rfl ?_
    exact (by cases e; exact hq)
  rw [if_neg s_7] at e
  by_cases s_8 : x1 = 8
  · rw [if_pos s_8] at e
    refine g_tabIn (off := 129) (tgt := 135) k_Mod_count_6 (by rw [s_8]; decide) (by rw [s_8]; decide) (by rw [s_8]; rfl) (by decide) ?_
    refine g_aload_n k_Mod_count_135 rfl rfl ?_
    obtain ⟨y11, m12, e_y11, e⟩ := o_b2_ex e
    refine g_cv k_Mod_count_136 lv_Mod_363 (by decide +kernel) (T := F_Mod) (N := 61) (ci := 10) rfl (sk_Mod s) (s_Mod_oddOnes (bc := 0) (bs := 0) s F  m1 e_y11 (by omega)) rfl rfl (Nat.le_of_ble_eq_true rfl) (by simp [Value.category]) (by omega) (by omega) (by omega) ?_
    refine g_iret k_Mod_count_139 rfl ?_
    exact (by cases e; exact hq)
  rw [if_neg s_8] at e
  by_cases s_9 : x1 = 9
  · rw [if_pos s_9] at e
    refine g_tabIn (off := 134) (tgt := 140) k_Mod_count_6 (by rw [s_9]; decide) (by rw [s_9]; decide) (by rw [s_9]; rfl) (by decide) ?_
    refine g_aload_n k_Mod_count_140 rfl rfl ?_
    refine p_geti k_Mod_count_141 fl_Mod_259 rfl (sk_Mod s) (by decide) ?_
    refine g_iret k_Mod_count_144 rfl ?_
    exact (by cases e; exact hq)
  rw [if_neg s_9] at e
  by_cases s_10 : x1 = 10
  · rw [if_pos s_10] at e
    refine g_tabIn (off := 139) (tgt := 145) k_Mod_count_6 (by rw [s_10]; decide) (by rw [s_10]; decide) (by rw [s_10]; rfl) (by decide) ?_
    refine g_aload_n k_Mod_count_145 rfl rfl ?_
    refine p_geti k_Mod_count_146 fl_Mod_309 rfl (sk_Mod s) (by decide) ?_
    refine g_iret k_Mod_count_149 rfl ?_
    exact (by cases e; exact hq)
  rw [if_neg s_10] at e
  by_cases s_11 : x1 = 11
  · rw [if_pos s_11] at e
    refine g_tabIn (off := 144) (tgt := 150) k_Mod_count_6 (by rw [s_11]; decide) (by rw [s_11]; decide) (by rw [s_11]; rfl) (by decide) ?_
    refine g_aload_n k_Mod_count_150 rfl rfl ?_
    refine p_geti k_Mod_count_151 fl_Mod_312 rfl (sk_Mod s) (by decide) ?_
    refine g_iret k_Mod_count_154 rfl ?_
    exact (by cases e; exact hq)
  rw [if_neg s_11] at e
  by_cases s_12 : x1 = 12
  · rw [if_pos s_12] at e
    refine g_tabIn (off := 149) (tgt := 155) k_Mod_count_6 (by rw [s_12]; decide) (by rw [s_12]; decide) (by rw [s_12]; rfl) (by decide) ?_
    refine g_aload_n k_Mod_count_155 rfl rfl ?_
    refine p_geti k_Mod_count_156 fl_Mod_134 rfl (sk_Mod s) (by decide) ?_
    refine g_iret k_Mod_count_159 rfl ?_
    exact (by cases e; exact hq)
  rw [if_neg s_12] at e
  refine g_tabOut (tgt := 160) k_Mod_count_6 (by have t_0 := lv_neT (a := 0) s_0 rfl; have t_1 := lv_neT (a := 1) s_1 rfl; have t_2 := lv_neT (a := 2) s_2 rfl; have t_3 := lv_neT (a := 3) s_3 rfl; have t_4 := lv_neT (a := 4) s_4 rfl; have t_5 := lv_neT (a := 5) s_5 rfl; have t_6 := lv_neT (a := 6) s_6 rfl; have t_7 := lv_neT (a := 7) s_7 rfl; have t_8 := lv_neT (a := 8) s_8 rfl; have t_9 := lv_neT (a := 9) s_9 rfl; have t_10 := lv_neT (a := 10) s_10 rfl; have t_11 := lv_neT (a := 11) s_11 rfl; have t_12 := lv_neT (a := 12) s_12 rfl; omega) (by decide) ?_
  refine g_iconst (v := (-1)) k_Mod_count_160 rfl ?_
  refine g_iret k_Mod_count_161 rfl ?_
  exact (by cases e; exact hq)
