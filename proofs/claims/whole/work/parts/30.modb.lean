/-! the reference, further -/
def b_Mod_clause_257 (F : Nat) (xt0 : Int32) (m : aM) : Option (Int32 × aM) :=
  o_gd (isb xt0) <|
  o_let (a_st m 242 18 xt0) fun m2 =>
  o_b2 (f_Mod_total F  m2) fun y3 m4 =>
  some (0, m4)
theorem t_Mod_clause_257 {K : aK} {d bc bs : Nat} {g : aG} (s : SyM g) {Q : aQ} {r : Int32} {m' : aM} (F : Nat) (xt0 : Int32) (m : aM) (hq : Q (.inl none) (g, m')) (e : b_Mod_clause_257 F xt0 m = some (r, m')) (hd : 397 ≤ d) : G K M_Mod_clause d bc bs 257 [.ref 242, .double 0, .double 0, .double 0, .double 0, .double 0] [.int xt0, .ref 242] (g, m) Q := by
  unfold b_Mod_clause_257 at e
  obtain ⟨q1, e⟩ := o_gd_ex e
  refine p_putz k_Mod_clause_257 fl_Mod_184 rfl (isb_or q1) ⟨R_Mod, F_Mod, 61, rfl, Or.inl rfl⟩ (sk_Mod s) (by decide) ?_
  obtain ⟨m2, u_m2, e⟩ := o_let_ex e
  refine G.hm u_m2 ?_
  refine g_aload_n k_Mod_clause_260 rfl rfl ?_
  obtain ⟨y3, m4, e_y3, e⟩ := o_b2_ex e
  refine g_cv k_Mod_clause_261 lv_Mod_209 (by decide +kernel) (T := F_Mod) (N := 61) (ci := 10) rfl (sk_Mod s) (s_Mod_total (bc := 0) (bs := 0) s F  m2 e_y3 (by omega)) rfl rfl (Nat.le_of_ble_eq_true rfl) (by simp [Value.category]) (by omega) (by omega) (by omega) ?_
  refine g_pop k_Mod_clause_264 rfl ?_
  refine g_vret k_Mod_clause_265 rfl ?_
  exact (by cases e; exact hq)
def b_Mod_clause_184 (F : Nat)  (m : aM) : Option (Int32 × aM) :=
  o_b2 (f_Mod_wrongAt 1 (m 242 13) m) fun y1 m2 =>
  some (0, m2)
theorem t_Mod_clause_184 {K : aK} {d bc bs : Nat} {g : aG} (s : SyM g) {Q : aQ} {r : Int32} {m' : aM} (F : Nat)  (m : aM) (hq : Q (.inl none) (g, m')) (e : b_Mod_clause_184 F  m = some (r, m')) (hd : 397 ≤ d) : G K M_Mod_clause d bc bs 184 [.ref 242, .double 0, .double 0, .double 0, .double 0, .double 0] [] (g, m) Q := by
  unfold b_Mod_clause_184 at e
  refine g_aload_n k_Mod_clause_184 rfl rfl ?_
  refine g_iconst (v := 1) k_Mod_clause_185 rfl ?_
  refine g_aload_n k_Mod_clause_186 rfl rfl ?_
  refine p_geti k_Mod_clause_187 fl_Mod_143 rfl (sk_Mod s) (by decide) ?_
  obtain ⟨y1, m2, e_y1, e⟩ := o_b2_ex e
  refine g_cv k_Mod_clause_190 lv_Mod_166 (by decide +kernel) (T := F_Mod) (N := 61) (ci := 10) rfl (sk_Mod s) (s_Mod_wrongAt (bc := 0) (bs := 0) s 1 (m 242 13) m e_y1) rfl rfl (Nat.le_of_ble_eq_true rfl) (by simp [Value.category]) (by omega) (by omega) (by omega) ?_
  refine g_vret k_Mod_clause_193 rfl ?_
  exact (by cases e; exact hq)
def b_Mod_clause_105 (F : Nat) (x1 : Int32) (x3 : Int32) (x4 : Int32) (m : aM) : Option (Int32 × aM) :=
  (if (m 242 15) = 0 then
  (if x4 = 0 then
  (if x3 = 0 then
  o_let (a_st m 242 13 ((m 242 13) + 1)) fun m1 =>
  o_b2 (f_Mod_sign F 61 m1) fun y2 m3 =>
  o_gd (inb x1 8) <|
  o_let (a_st m3 247 x1.toNatClampNeg (m3 242 13)) fun m5 =>
  (if x1 ≤ 3 then
  b_Mod_clause_257 F 0 m5
  else
  b_Mod_clause_257 F 1 m5
  )
  else
  o_b2 (f_Mod_skipWord F  m) fun y6 m7 =>
  o_b2 (f_Mod_letterHere F  m7) fun y8 m9 =>
  (if y8 = (-1) then
  b_Mod_clause_184 F  m9
  else
  (if y8 ≤ 3 then
  o_let (((1 : Int32) <<< (y8 &&& 31))) fun y10 =>
  o_let (a_st m9 242 21 ((m9 242 21) ||| y10)) fun m11 =>
  o_let (a_st m11 242 13 ((m11 242 13) + 1)) fun m12 =>
  some (0, m12)
  else
  b_Mod_clause_184 F  m9
  )
  )
  )
  else
  o_b2 (f_Mod_skipWord F  m) fun y13 m14 =>
  o_gd (inb (m14 242 20) 16) <|
  o_let (a_st m14 248 ((m14 242 20).toNatClampNeg) (m14 242 13)) fun m16 =>
  o_let (a_st m16 242 20 ((m16 242 20) + 1)) fun m17 =>
  o_let (a_st m17 242 18 0) fun m18 =>
  o_b2 (f_Mod_ors F  m18) fun y19 m20 =>
  some (0, m20)
  )
  else
  some (0, m)
  )
theorem t_Mod_clause_105 {K : aK} {d bc bs : Nat} {g : aG} (s : SyM g) {Q : aQ} {r : Int32} {m' : aM} (F : Nat) (x1 : Int32) (x3 : Int32) (x4 : Int32) (m : aM) (hq : Q (.inl none) (g, m')) (e : b_Mod_clause_105 F x1 x3 x4 m = some (r, m')) (hd : 397 ≤ d) : G K M_Mod_clause d bc bs 105 [.ref 242, .int x1, .double 0, .int x3, .int x4, .double 0] [] (g, m) Q := by
  unfold b_Mod_clause_105 at e
  refine g_aload_n k_Mod_clause_105 rfl rfl ?_
  refine p_geti k_Mod_clause_106 fl_Mod_150 rfl (sk_Mod s) (by decide) ?_
  refine g_if_eq (tgt := 113) k_Mod_clause_109 (by decide) (fun c => ?_) (fun c => ?_)
  · rw [if_pos c] at e
    refine g_iload k_Mod_clause_113 rfl ?_
    refine g_if_eq (tgt := 158) k_Mod_clause_115 (by decide) (fun c => ?_) (fun c => ?_)
    · rw [if_pos c] at e
      refine g_iload_n k_Mod_clause_158 rfl rfl ?_
      refine g_if_eq (tgt := 220) k_Mod_clause_159 (by decide) (fun c => ?_) (fun c => ?_)
      · rw [if_pos c] at e
        refine g_aload_n k_Mod_clause_220 rfl rfl ?_
        refine g_dup k_Mod_clause_221 rfl ?_
        refine p_geti k_Mod_clause_222 fl_Mod_143 rfl (sk_Mod s) (by decide) ?_
        refine g_iconst (v := 1) k_Mod_clause_225 rfl ?_
        refine g_iadd k_Mod_clause_226 ?_
        refine p_puti k_Mod_clause_227 fl_Mod_143 rfl ⟨R_Mod, F_Mod, 61, rfl, Or.inl rfl⟩ (sk_Mod s) (by decide) ?_
        obtain ⟨m1, u_m1, e⟩ := o_let_ex e
        refine G.hm u_m1 ?_
        refine g_aload_n k_Mod_clause_230 rfl rfl ?_
        refine g_bipush (v := 61) k_Mod_clause_231 rfl ?_
        obtain ⟨y2, m3, e_y2, e⟩ := o_b2_ex e
        refine g_cv k_Mod_clause_233 lv_Mod_206 (by decide +kernel) (T := F_Mod) (N := 61) (ci := 10) rfl (sk_Mod s) (s_Mod_sign (bc := 0) (bs := 0) s F 61 m1 e_y2 (by omega)) rfl rfl (Nat.le_of_ble_eq_true rfl) (by simp [Value.category]) (by omega) (by omega) (by omega) ?_
        refine g_aload_n k_Mod_clause_236 rfl rfl ?_
        refine p_getr k_Mod_clause_237 fl_Mod_28 rfl (sk_Mod s) (by decide) (sr_Mod_22 s) ?_
        refine g_iload_n k_Mod_clause_240 rfl rfl ?_
        refine g_aload_n k_Mod_clause_241 rfl rfl ?_
        refine p_geti k_Mod_clause_242 fl_Mod_143 rfl (sk_Mod s) (by decide) ?_
        obtain ⟨q4, e⟩ := o_gd_ex e
        refine p_iast k_Mod_clause_245 (sa_Mod_22 s) (inb_in q4) (j := x1.toNatClampNeg) rfl ?_
        obtain ⟨m5, u_m5, e⟩ := o_let_ex e
        refine G.hm u_m5 ?_
        refine g_aload_n k_Mod_clause_246 rfl rfl ?_
        refine g_iload_n k_Mod_clause_247 rfl rfl ?_
        refine g_iconst (v := 3) k_Mod_clause_248 rfl ?_
        refine g_icmp_le (tgt := 256) k_Mod_clause_249 (by decide) (fun c => ?_) (fun c => ?_)
        · rw [if_pos c] at e
          refine g_iconst (v := 0) k_Mod_clause_256 rfl ?_
          exact G.wl (wls (wld (wls (wld (wld (wls wl0)))))) (t_Mod_clause_257 s F 0 m5 hq e hd)
        · rw [if_neg c] at e
          refine g_iconst (v := 1) k_Mod_clause_252 rfl ?_
          refine g_goto (tgt := 257) k_Mod_clause_253 (by decide) ?_
          exact G.wl (wls (wld (wls (wld (wld (wls wl0)))))) (t_Mod_clause_257 s F 1 m5 hq e hd)
      · rw [if_neg c] at e
        refine g_aload_n k_Mod_clause_162 rfl rfl ?_
        obtain ⟨y6, m7, e_y6, e⟩ := o_b2_ex e
        refine g_cv k_Mod_clause_163 lv_Mod_195 (by decide +kernel) (T := F_Mod) (N := 61) (ci := 10) rfl (sk_Mod s) (s_Mod_skipWord (bc := 0) (bs := 0) s F  m e_y6 (by omega)) rfl rfl (Nat.le_of_ble_eq_true rfl) (by simp [Value.category]) (by omega) (by omega) (by omega) ?_
        refine g_aload_n k_Mod_clause_166 rfl rfl ?_
        obtain ⟨y8, m9, e_y8, e⟩ := o_b2_ex e
        refine g_cv k_Mod_clause_167 lv_Mod_181 (by decide +kernel) (T := F_Mod) (N := 61) (ci := 10) rfl (sk_Mod s) (s_Mod_letterHere (bc := 0) (bs := 0) s F  m7 e_y8 (by omega)) rfl rfl (Nat.le_of_ble_eq_true rfl) (by simp [Value.category]) (by omega) (by omega) (by omega) ?_
        refine g_istore k_Mod_clause_170 (by decide) ?_
        refine g_iload k_Mod_clause_172 rfl ?_
        refine g_iconst (v := (-1)) k_Mod_clause_174 rfl ?_
        refine g_icmp_eq (tgt := 184) k_Mod_clause_175 (by decide) (fun c => ?_) (fun c => ?_)
        · rw [if_pos c] at e
          exact G.wl (wls (wld (wls (wld (wld (wld wl0)))))) (t_Mod_clause_184 s F  m9 hq e hd)
        · rw [if_neg c] at e
          refine g_iload k_Mod_clause_178 rfl ?_
          refine g_iconst (v := 3) k_Mod_clause_180 rfl ?_
          refine g_icmp_le (tgt := 194) k_Mod_clause_181 (by decide) (fun c => ?_) (fun c => ?_)
          · rw [if_pos c] at e
            refine g_aload_n k_Mod_clause_194 rfl rfl ?_
            refine g_dup k_Mod_clause_195 rfl ?_
            refine p_geti k_Mod_clause_196 fl_Mod_230 rfl (sk_Mod s) (by decide) ?_
            refine g_iconst (v := 1) k_Mod_clause_199 rfl ?_
            refine g_iload k_Mod_clause_200 rfl ?_
            refine g_ishl k_Mod_clause_202 ?_
            obtain ⟨y10, u_y10, e⟩ := o_let_ex e
            refine G.vy u_y10 ?_
            refine g_ior k_Mod_clause_203 ?_
            refine p_puti k_Mod_clause_204 fl_Mod_230 rfl ⟨R_Mod, F_Mod, 61, rfl, Or.inl rfl⟩ (sk_Mod s) (by decide) ?_
            obtain ⟨m11, u_m11, e⟩ := o_let_ex e
            refine G.hm u_m11 ?_
            refine g_aload_n k_Mod_clause_207 rfl rfl ?_
            refine g_dup k_Mod_clause_208 rfl ?_
            refine p_geti k_Mod_clause_209 fl_Mod_143 rfl (sk_Mod s) (by decide) ?_
            refine g_iconst (v := 1) k_Mod_clause_212 rfl ?_
            refine g_iadd k_Mod_clause_213 ?_
            refine p_puti k_Mod_clause_214 fl_Mod_143 rfl ⟨R_Mod, F_Mod, 61, rfl, Or.inl rfl⟩ (sk_Mod s) (by decide) ?_
            obtain ⟨m12, u_m12, e⟩ := o_let_ex e
            refine G.hm u_m12 ?_
            refine g_goto (tgt := 265) k_Mod_clause_217 (by decide) ?_
            refine g_vret k_Mod_clause_265 rfl ?_
            exact (by cases e; exact hq)
          · rw [if_neg c] at e
            exact G.wl (wls (wld (wls (wld (wld (wld wl0)))))) (t_Mod_clause_184 s F  m9 hq e hd)
    · rw [if_neg c] at e
      refine g_aload_n k_Mod_clause_118 rfl rfl ?_
      obtain ⟨y13, m14, e_y13, e⟩ := o_b2_ex e
      refine g_cv k_Mod_clause_119 lv_Mod_195 (by decide +kernel) (T := F_Mod) (N := 61) (ci := 10) rfl (sk_Mod s) (s_Mod_skipWord (bc := 0) (bs := 0) s F  m e_y13 (by omega)) rfl rfl (Nat.le_of_ble_eq_true rfl) (by simp [Value.category]) (by omega) (by omega) (by omega) ?_
      refine g_aload_n k_Mod_clause_122 rfl rfl ?_
      refine p_getr k_Mod_clause_123 fl_Mod_31 rfl (sk_Mod s) (by decide) (sr_Mod_23 s) ?_
      refine g_aload_n k_Mod_clause_126 rfl rfl ?_
      refine p_geti k_Mod_clause_127 fl_Mod_227 rfl (sk_Mod s) (by decide) ?_
      refine g_aload_n k_Mod_clause_130 rfl rfl ?_
      refine p_geti k_Mod_clause_131 fl_Mod_143 rfl (sk_Mod s) (by decide) ?_
      obtain ⟨q15, e⟩ := o_gd_ex e
      refine p_iast k_Mod_clause_134 (sa_Mod_23 s) (inb_in q15) (j := (m14 242 20).toNatClampNeg) rfl ?_
      obtain ⟨m16, u_m16, e⟩ := o_let_ex e
      refine G.hm u_m16 ?_
      refine g_aload_n k_Mod_clause_135 rfl rfl ?_
      refine g_dup k_Mod_clause_136 rfl ?_
      refine p_geti k_Mod_clause_137 fl_Mod_227 rfl (sk_Mod s) (by decide) ?_
      refine g_iconst (v := 1) k_Mod_clause_140 rfl ?_
      refine g_iadd k_Mod_clause_141 ?_
      refine p_puti k_Mod_clause_142 fl_Mod_227 rfl ⟨R_Mod, F_Mod, 61, rfl, Or.inl rfl⟩ (sk_Mod s) (by decide) ?_
      obtain ⟨m17, u_m17, e⟩ := o_let_ex e
      refine G.hm u_m17 ?_
      refine g_aload_n k_Mod_clause_145 rfl rfl ?_
      refine g_iconst (v := 0) k_Mod_clause_146 rfl ?_
      refine p_putz k_Mod_clause_147 fl_Mod_184 rfl (by decide) ⟨R_Mod, F_Mod, 61, rfl, Or.inl rfl⟩ (sk_Mod s) (by decide) ?_
      obtain ⟨m18, u_m18, e⟩ := o_let_ex e
      refine G.hm u_m18 ?_
      refine g_aload_n k_Mod_clause_150 rfl rfl ?_
      obtain ⟨y19, m20, e_y19, e⟩ := o_b2_ex e
      refine g_cv k_Mod_clause_151 lv_Mod_202 (by decide +kernel) (T := F_Mod) (N := 61) (ci := 10) rfl (sk_Mod s) (s_Mod_ors (bc := 0) (bs := 0) s F  m18 e_y19 (by omega)) rfl rfl (Nat.le_of_ble_eq_true rfl) (by simp [Value.category]) (by omega) (by omega) (by omega) ?_
      refine g_pop k_Mod_clause_154 rfl ?_
      refine g_goto (tgt := 265) k_Mod_clause_155 (by decide) ?_
      refine g_vret k_Mod_clause_265 rfl ?_
      exact (by cases e; exact hq)
  · rw [if_neg c] at e
    refine g_vret k_Mod_clause_112 rfl ?_
    exact (by cases e; exact hq)
def b_Mod_clause_87 (F : Nat) (x1 : Int32) (x3 : Int32) (x4 : Int32) (m : aM) : Option (Int32 × aM) :=
  (if (m 242 19) = 16 then
  o_b2 (f_Mod_wrongAt 3 (m 242 13) m) fun y1 m2 =>
  b_Mod_clause_105 F x1 x3 x4 m2
  else
  b_Mod_clause_105 F x1 x3 x4 m
  )
theorem t_Mod_clause_87 {K : aK} {d bc bs : Nat} {g : aG} (s : SyM g) {Q : aQ} {r : Int32} {m' : aM} (F : Nat) (x1 : Int32) (x3 : Int32) (x4 : Int32) (m : aM) (hq : Q (.inl none) (g, m')) (e : b_Mod_clause_87 F x1 x3 x4 m = some (r, m')) (hd : 397 ≤ d) : G K M_Mod_clause d bc bs 87 [.ref 242, .int x1, .double 0, .int x3, .int x4, .double 0] [] (g, m) Q := by
  unfold b_Mod_clause_87 at e
  refine g_aload_n k_Mod_clause_87 rfl rfl ?_
  refine p_geti k_Mod_clause_88 fl_Mod_224 rfl (sk_Mod s) (by decide) ?_
  refine g_bipush (v := 16) k_Mod_clause_91 rfl ?_
  refine g_icmp_ne (tgt := 105) k_Mod_clause_93 (by decide) (fun c => ?_) (fun c => ?_)
  · rw [if_pos c] at e
    refine g_aload_n k_Mod_clause_96 rfl rfl ?_
    refine g_iconst (v := 3) k_Mod_clause_97 rfl ?_
    refine g_aload_n k_Mod_clause_98 rfl rfl ?_
    refine p_geti k_Mod_clause_99 fl_Mod_143 rfl (sk_Mod s) (by decide) ?_
    obtain ⟨y1, m2, e_y1, e⟩ := o_b2_ex e
    refine g_cv k_Mod_clause_102 lv_Mod_166 (by decide +kernel) (T := F_Mod) (N := 61) (ci := 10) rfl (sk_Mod s) (s_Mod_wrongAt (bc := 0) (bs := 0) s 3 (m 242 13) m e_y1) rfl rfl (Nat.le_of_ble_eq_true rfl) (by simp [Value.category]) (by omega) (by omega) (by omega) ?_
    exact (t_Mod_clause_105 s F x1 x3 x4 m2 hq e hd)
  · rw [if_neg c] at e
    exact (t_Mod_clause_105 s F x1 x3 x4 m hq e hd)
def b_Mod_clause_59 (F : Nat) (x1 : Int32) (x3 : Int32) (xt0 : Int32) (m : aM) : Option (Int32 × aM) :=
  (if x1 = (-1) then
  (if x3 = 0 then
  (if xt0 = 0 then
  o_b2 (f_Mod_wrongAt 1 (m 242 13) m) fun y1 m2 =>
  b_Mod_clause_105 F x1 x3 xt0 m2
  else
  b_Mod_clause_87 F x1 x3 xt0 m
  )
  else
  b_Mod_clause_87 F x1 x3 xt0 m
  )
  else
  b_Mod_clause_87 F x1 x3 xt0 m
  )
theorem t_Mod_clause_59 {K : aK} {d bc bs : Nat} {g : aG} (s : SyM g) {Q : aQ} {r : Int32} {m' : aM} (F : Nat) (x1 : Int32) (x3 : Int32) (xt0 : Int32) (m : aM) (hq : Q (.inl none) (g, m')) (e : b_Mod_clause_59 F x1 x3 xt0 m = some (r, m')) (hd : 397 ≤ d) : G K M_Mod_clause d bc bs 59 [.ref 242, .int x1, .double 0, .int x3, .double 0, .double 0] [.int xt0] (g, m) Q := by
  unfold b_Mod_clause_59 at e
  refine g_istore k_Mod_clause_59 (by decide) ?_
  refine g_iload_n k_Mod_clause_61 rfl rfl ?_
  refine g_iconst (v := (-1)) k_Mod_clause_62 rfl ?_
  refine g_icmp_ne (tgt := 87) k_Mod_clause_63 (by decide) (fun c => ?_) (fun c => ?_)
  · rw [if_pos c] at e
    refine g_iload_n k_Mod_clause_66 rfl rfl ?_
    refine g_if_ne (tgt := 87) k_Mod_clause_67 (by decide) (fun c => ?_) (fun c => ?_)
    · rw [if_pos c] at e
      refine g_iload k_Mod_clause_70 rfl ?_
      refine g_if_ne (tgt := 87) k_Mod_clause_72 (by decide) (fun c => ?_) (fun c => ?_)
      · rw [if_pos c] at e
        refine g_aload_n k_Mod_clause_75 rfl rfl ?_
        refine g_iconst (v := 1) k_Mod_clause_76 rfl ?_
        refine g_aload_n k_Mod_clause_77 rfl rfl ?_
        refine p_geti k_Mod_clause_78 fl_Mod_143 rfl (sk_Mod s) (by decide) ?_
        obtain ⟨y1, m2, e_y1, e⟩ := o_b2_ex e
        refine g_cv k_Mod_clause_81 lv_Mod_166 (by decide +kernel) (T := F_Mod) (N := 61) (ci := 10) rfl (sk_Mod s) (s_Mod_wrongAt (bc := 0) (bs := 0) s 1 (m 242 13) m e_y1) rfl rfl (Nat.le_of_ble_eq_true rfl) (by simp [Value.category]) (by omega) (by omega) (by omega) ?_
        refine g_goto (tgt := 105) k_Mod_clause_84 (by decide) ?_
        exact (t_Mod_clause_105 s F x1 x3 xt0 m2 hq e hd)
      · rw [if_neg c] at e
        exact (t_Mod_clause_87 s F x1 x3 xt0 m hq e hd)
    · rw [if_neg c] at e
      exact (t_Mod_clause_87 s F x1 x3 xt0 m hq e hd)
  · rw [if_neg c] at e
    exact (t_Mod_clause_87 s F x1 x3 xt0 m hq e hd)
def b_Mod_clause_58 (F : Nat) (x1 : Int32) (x3 : Int32) (m : aM) : Option (Int32 × aM) :=
  b_Mod_clause_59 F x1 x3 0 m
theorem t_Mod_clause_58 {K : aK} {d bc bs : Nat} {g : aG} (s : SyM g) {Q : aQ} {r : Int32} {m' : aM} (F : Nat) (x1 : Int32) (x3 : Int32) (m : aM) (hq : Q (.inl none) (g, m')) (e : b_Mod_clause_58 F x1 x3 m = some (r, m')) (hd : 397 ≤ d) : G K M_Mod_clause d bc bs 58 [.ref 242, .int x1, .double 0, .int x3, .double 0, .double 0] [] (g, m) Q := by
  unfold b_Mod_clause_58 at e
  refine g_iconst (v := 0) k_Mod_clause_58 rfl ?_
  exact (t_Mod_clause_59 s F x1 x3 0 m hq e hd)
def b_Mod_clause_34 (F : Nat) (x1 : Int32) (x2 : Int32) (xt0 : Int32) (m : aM) : Option (Int32 × aM) :=
  (if x1 = (-1) then
  o_b (f_Mod_word 12 1 23 0 0 m) fun y1 =>
  (if x2 = y1 then
  b_Mod_clause_59 F x1 xt0 1 m
  else
  b_Mod_clause_58 F x1 xt0 m
  )
  else
  b_Mod_clause_58 F x1 xt0 m
  )
theorem t_Mod_clause_34 {K : aK} {d bc bs : Nat} {g : aG} (s : SyM g) {Q : aQ} {r : Int32} {m' : aM} (F : Nat) (x1 : Int32) (x2 : Int32) (xt0 : Int32) (m : aM) (hq : Q (.inl none) (g, m')) (e : b_Mod_clause_34 F x1 x2 xt0 m = some (r, m')) (hd : 397 ≤ d) : G K M_Mod_clause d bc bs 34 [.ref 242, .int x1, .int x2, .double 0, .double 0, .double 0] [.int xt0] (g, m) Q := by
  unfold b_Mod_clause_34 at e
  refine g_istore_n k_Mod_clause_34 rfl (by decide) ?_
  refine g_iload_n k_Mod_clause_35 rfl rfl ?_
  refine g_iconst (v := (-1)) k_Mod_clause_36 rfl ?_
  refine g_icmp_ne (tgt := 58) k_Mod_clause_37 (by decide) (fun c => ?_) (fun c => ?_)
  · rw [if_pos c] at e
    refine g_iload_n k_Mod_clause_40 rfl rfl ?_
    refine g_bipush (v := 12) k_Mod_clause_41 rfl ?_
    refine g_iconst (v := 1) k_Mod_clause_43 rfl ?_
    refine g_bipush (v := 23) k_Mod_clause_44 rfl ?_
    refine g_iconst (v := 0) k_Mod_clause_46 rfl ?_
    refine g_iconst (v := 0) k_Mod_clause_47 rfl ?_
    obtain ⟨y1, e_y1, e⟩ := o_b_ex e
    refine g_cs k_Mod_clause_48 ls_Mod_191 (by decide +kernel) (s_Mod_word (bc := 0) (bs := 0) s 12 1 23 0 0 m e_y1) rfl rfl (Nat.le_of_ble_eq_true rfl) (by simp [Value.category]) (by omega) (by omega) (by omega) ?_
    refine g_icmp_ne (tgt := 58) k_Mod_clause_51 (by decide) (fun c => ?_) (fun c => ?_)
    · rw [if_pos c] at e
      refine g_iconst (v := 1) k_Mod_clause_54 rfl ?_
      refine g_goto (tgt := 59) k_Mod_clause_55 (by decide) ?_
      exact G.wl (wls (wls (wld (wls (wls (wls wl0)))))) (t_Mod_clause_59 s F x1 xt0 1 m hq e hd)
    · rw [if_neg c] at e
      exact G.wl (wls (wls (wld (wls (wls (wls wl0)))))) (t_Mod_clause_58 s F x1 xt0 m hq e hd)
  · rw [if_neg c] at e
    exact G.wl (wls (wls (wld (wls (wls (wls wl0)))))) (t_Mod_clause_58 s F x1 xt0 m hq e hd)
def b_Mod_clause_33 (F : Nat) (x1 : Int32) (x2 : Int32) (m : aM) : Option (Int32 × aM) :=
  b_Mod_clause_34 F x1 x2 0 m
theorem t_Mod_clause_33 {K : aK} {d bc bs : Nat} {g : aG} (s : SyM g) {Q : aQ} {r : Int32} {m' : aM} (F : Nat) (x1 : Int32) (x2 : Int32) (m : aM) (hq : Q (.inl none) (g, m')) (e : b_Mod_clause_33 F x1 x2 m = some (r, m')) (hd : 397 ≤ d) : G K M_Mod_clause d bc bs 33 [.ref 242, .int x1, .int x2, .double 0, .double 0, .double 0] [] (g, m) Q := by
  unfold b_Mod_clause_33 at e
  refine g_iconst (v := 0) k_Mod_clause_33 rfl ?_
  exact (t_Mod_clause_34 s F x1 x2 0 m hq e hd)
def f_Mod_clause (F : Nat)  (m : aM) : Option (Int32 × aM) :=
  o_b2 (f_Mod_letterHere F  m) fun y1 m2 =>
  o_b2 (f_Mod_wordHere F  m2) fun y3 m4 =>
  (if y1 = (-1) then
  o_b (f_Mod_word 11 5 5 16 0 m4) fun y5 =>
  (if y3 = y5 then
  b_Mod_clause_34 F y1 y3 1 m4
  else
  b_Mod_clause_33 F y1 y3 m4
  )
  else
  b_Mod_clause_33 F y1 y3 m4
  )
theorem s_Mod_clause {K : aK} {d bc bs : Nat} {g : aG} (s : SyM g) (F : Nat)  (m : aM) {r : Int32} {m' : aM} (e : f_Mod_clause F  m = some (r, m')) (hd : 397 ≤ d) : Sp K M_Mod_clause d bc bs [.ref 242] (g, m) none (g, m') := by
  refine sp_of ok_Mod_clause rfl (Nat.le_of_ble_eq_true rfl) (by simp [Value.category]) (fun Q hq => ?_)
  unfold f_Mod_clause at e
  refine g_aload_n k_Mod_clause_0 rfl rfl ?_
  obtain ⟨y1, m2, e_y1, e⟩ := o_b2_ex e
  refine g_cv k_Mod_clause_1 lv_Mod_181 (by decide +kernel) (T := F_Mod) (N := 61) (ci := 10) rfl (sk_Mod s) (s_Mod_letterHere (bc := 0) (bs := 0) s F  m e_y1 (by omega)) rfl rfl (Nat.le_of_ble_eq_true rfl) (by simp [Value.category]) (by omega) (by omega) (by omega) ?_
  refine g_istore_n k_Mod_clause_4 rfl (by decide) ?_
  refine g_aload_n k_Mod_clause_5 rfl rfl ?_
  obtain ⟨y3, m4, e_y3, e⟩ := o_b2_ex e
  refine g_cv k_Mod_clause_6 lv_Mod_188 (by decide +kernel) (T := F_Mod) (N := 61) (ci := 10) rfl (sk_Mod s) (s_Mod_wordHere (bc := 0) (bs := 0) s F  m2 e_y3 (by omega)) rfl rfl (Nat.le_of_ble_eq_true rfl) (by simp [Value.category]) (by omega) (by omega) (by omega) ?_
  refine g_istore_n k_Mod_clause_9 rfl (by decide) ?_
  refine g_iload_n k_Mod_clause_10 rfl rfl ?_
  refine g_iconst (v := (-1)) k_Mod_clause_11 rfl ?_
  refine g_icmp_ne (tgt := 33) k_Mod_clause_12 (by decide) (fun c => ?_) (fun c => ?_)
  · rw [if_pos c] at e
    refine g_iload_n k_Mod_clause_15 rfl rfl ?_
    refine g_bipush (v := 11) k_Mod_clause_16 rfl ?_
    refine g_iconst (v := 5) k_Mod_clause_18 rfl ?_
    refine g_iconst (v := 5) k_Mod_clause_19 rfl ?_
    refine g_bipush (v := 16) k_Mod_clause_20 rfl ?_
    refine g_iconst (v := 0) k_Mod_clause_22 rfl ?_
    obtain ⟨y5, e_y5, e⟩ := o_b_ex e
    refine g_cs k_Mod_clause_23 ls_Mod_191 (by decide +kernel) (s_Mod_word (bc := 0) (bs := 0) s 11 5 5 16 0 m4 e_y5) rfl rfl (Nat.le_of_ble_eq_true rfl) (by simp [Value.category]) (by omega) (by omega) (by omega) ?_
    refine g_icmp_ne (tgt := 33) k_Mod_clause_26 (by decide) (fun c => ?_) (fun c => ?_)
    · rw [if_pos c] at e
      refine g_iconst (v := 1) k_Mod_clause_29 rfl ?_
      refine g_goto (tgt := 34) k_Mod_clause_30 (by decide) ?_
      exact (t_Mod_clause_34 s F y1 y3 1 m4 hq e hd)
    · rw [if_neg c] at e
      exact (t_Mod_clause_33 s F y1 y3 m4 hq e hd)
  · rw [if_neg c] at e
    exact (t_Mod_clause_33 s F y1 y3 m4 hq e hd)
def b_Mod_readAll_100 (F : Nat) (rec_65 : aM → Option (Int32 × aM))  (m : aM) : Option (Int32 × aM) :=
  o_let (a_st m 242 19 ((m 242 19) + 1)) fun m1 =>
  o_b2 (f_Mod_blanks F  m1) fun y2 m3 =>
  rec_65  m3
theorem t_Mod_readAll_100 {K : aK} {d bc bs : Nat} {g : aG} (s : SyM g) {Q : aQ} {r : Int32} {m' : aM} (F : Nat) (rec_65 : aM → Option (Int32 × aM)) (hr_65 : ∀ (m : aM), rec_65  m = some (r, m') → G K M_Mod_readAll d bc bs 65 [.ref 242, .double 0] [] (g, m) Q)  (m : aM) (hq : Q (.inl none) (g, m')) (e : b_Mod_readAll_100 F rec_65  m = some (r, m')) (hd : 398 ≤ d) : G K M_Mod_readAll d bc bs 100 [.ref 242, .double 0] [] (g, m) Q := by
  unfold b_Mod_readAll_100 at e
  refine g_aload_n k_Mod_readAll_100 rfl rfl ?_
  refine g_dup k_Mod_readAll_101 rfl ?_
  refine p_geti k_Mod_readAll_102 fl_Mod_224 rfl (sk_Mod s) (by decide) ?_
  refine g_iconst (v := 1) k_Mod_readAll_105 rfl ?_
  refine g_iadd k_Mod_readAll_106 ?_
  refine p_puti k_Mod_readAll_107 fl_Mod_224 rfl ⟨R_Mod, F_Mod, 61, rfl, Or.inl rfl⟩ (sk_Mod s) (by decide) ?_
  obtain ⟨m1, u_m1, e⟩ := o_let_ex e
  refine G.hm u_m1 ?_
  refine g_aload_n k_Mod_readAll_110 rfl rfl ?_
  obtain ⟨y2, m3, e_y2, e⟩ := o_b2_ex e
  refine g_cv k_Mod_readAll_111 lv_Mod_160 (by decide +kernel) (T := F_Mod) (N := 61) (ci := 10) rfl (sk_Mod s) (s_Mod_blanks (bc := 0) (bs := 0) s F  m1 e_y2 (by omega)) rfl rfl (Nat.le_of_ble_eq_true rfl) (by simp [Value.category]) (by omega) (by omega) (by omega) ?_
  refine g_goto (tgt := 65) k_Mod_readAll_114 (by decide) ?_
  exact (hr_65  m3 e)
def lb_Mod_readAll_65 (F : Nat) (rec_65 : aM → Option (Int32 × aM))  (m : aM) : Option (Int32 × aM) :=
  (if (m 242 15) = 0 then
  (if (m 242 2) ≤ (m 242 13) then
  some (0, m)
  else
  o_b2 (f_Mod_clause F  m) fun y1 m2 =>
  (if (m2 242 15) = 0 then
  o_b2 (f_Mod_sign F 59 m2) fun y3 m4 =>
  b_Mod_readAll_100 F rec_65  m4
  else
  b_Mod_readAll_100 F rec_65  m2
  )
  )
  else
  some (0, m)
  )
theorem tb_Mod_readAll_65 {K : aK} {d bc bs : Nat} {g : aG} (s : SyM g) {Q : aQ} {r : Int32} {m' : aM} (F : Nat) (rec_65 : aM → Option (Int32 × aM)) (hr_65 : ∀ (m : aM), rec_65  m = some (r, m') → G K M_Mod_readAll d bc bs 65 [.ref 242, .double 0] [] (g, m) Q)  (m : aM) (hq : Q (.inl none) (g, m')) (e : lb_Mod_readAll_65 F rec_65  m = some (r, m')) (hd : 398 ≤ d) : G K M_Mod_readAll d bc bs 65 [.ref 242, .double 0] [] (g, m) Q := by
  unfold lb_Mod_readAll_65 at e
  refine g_aload_n k_Mod_readAll_65 rfl rfl ?_
  refine p_geti k_Mod_readAll_66 fl_Mod_150 rfl (sk_Mod s) (by decide) ?_
  refine g_if_ne (tgt := 117) k_Mod_readAll_69 (by decide) (fun c => ?_) (fun c => ?_)
  · rw [if_pos c] at e
    refine g_aload_n k_Mod_readAll_72 rfl rfl ?_
    refine p_geti k_Mod_readAll_73 fl_Mod_143 rfl (sk_Mod s) (by decide) ?_
    refine g_aload_n k_Mod_readAll_76 rfl rfl ?_
    refine p_geti k_Mod_readAll_77 fl_Mod_137 rfl (sk_Mod s) (by decide) ?_
    refine g_icmp_ge (tgt := 117) k_Mod_readAll_80 (by decide) (fun c => ?_) (fun c => ?_)
    · rw [if_pos c] at e
      refine g_vret k_Mod_readAll_117 rfl ?_
      exact (by cases e; exact hq)
    · rw [if_neg c] at e
      refine g_aload_n k_Mod_readAll_83 rfl rfl ?_
      obtain ⟨y1, m2, e_y1, e⟩ := o_b2_ex e
      refine g_cv k_Mod_readAll_84 lv_Mod_233 (by decide +kernel) (T := F_Mod) (N := 61) (ci := 10) rfl (sk_Mod s) (s_Mod_clause (bc := 0) (bs := 0) s F  m e_y1 (by omega)) rfl rfl (Nat.le_of_ble_eq_true rfl) (by simp [Value.category]) (by omega) (by omega) (by omega) ?_
      refine g_aload_n k_Mod_readAll_87 rfl rfl ?_
      refine p_geti k_Mod_readAll_88 fl_Mod_150 rfl (sk_Mod s) (by decide) ?_
      refine g_if_ne (tgt := 100) k_Mod_readAll_91 (by decide) (fun c => ?_) (fun c => ?_)
      · rw [if_pos c] at e
        refine g_aload_n k_Mod_readAll_94 rfl rfl ?_
        refine g_bipush (v := 59) k_Mod_readAll_95 rfl ?_
        obtain ⟨y3, m4, e_y3, e⟩ := o_b2_ex e
        refine g_cv k_Mod_readAll_97 lv_Mod_206 (by decide +kernel) (T := F_Mod) (N := 61) (ci := 10) rfl (sk_Mod s) (s_Mod_sign (bc := 0) (bs := 0) s F 59 m2 e_y3 (by omega)) rfl rfl (Nat.le_of_ble_eq_true rfl) (by simp [Value.category]) (by omega) (by omega) (by omega) ?_
        exact (t_Mod_readAll_100 s F rec_65 hr_65  m4 hq e hd)
      · rw [if_neg c] at e
        exact (t_Mod_readAll_100 s F rec_65 hr_65  m2 hq e hd)
  · rw [if_neg c] at e
    refine g_vret k_Mod_readAll_117 rfl ?_
    exact (by cases e; exact hq)
def ll_Mod_readAll_65 (F : Nat) : Nat → aM → Option (Int32 × aM)
  | 0, _ => none
  | N + 1, m => lb_Mod_readAll_65 F (ll_Mod_readAll_65 F N)  m
theorem t_Mod_readAll_65 {K : aK} {d bc bs : Nat} {g : aG} (s : SyM g) {Q : aQ} {r : Int32} {m' : aM} (F : Nat) : ∀ (N : Nat) (m : aM), Q (.inl none) (g, m') → ll_Mod_readAll_65 F N  m = some (r, m') → 398 ≤ d → G K M_Mod_readAll d bc bs 65 [.ref 242, .double 0] [] (g, m) Q
  | 0, _ => fun _ e => nomatch e
  | N + 1, m => fun hq e hd => tb_Mod_readAll_65 s F (ll_Mod_readAll_65 F N) (fun m e => t_Mod_readAll_65 s F N m hq e hd) m hq e hd
def lb_Mod_readAll_42 (F : Nat) (rec_42 : Int32 → aM → Option (Int32 × aM)) (x1 : Int32) (m : aM) : Option (Int32 × aM) :=
  (if 8 ≤ x1 then
  o_b2 (f_Mod_blanks F  m) fun y1 m2 =>
  ll_Mod_readAll_65 F F  m2
  else
  o_gd (inb x1 8) <|
  o_let (a_st m 247 x1.toNatClampNeg (-1)) fun m4 =>
  rec_42 (x1 + 1) m4
  )
theorem tb_Mod_readAll_42 {K : aK} {d bc bs : Nat} {g : aG} (s : SyM g) {Q : aQ} {r : Int32} {m' : aM} (F : Nat) (rec_42 : Int32 → aM → Option (Int32 × aM)) (hr_42 : ∀ (x1 : Int32) (m : aM), rec_42 x1 m = some (r, m') → G K M_Mod_readAll d bc bs 42 [.ref 242, .int x1] [] (g, m) Q) (x1 : Int32) (m : aM) (hq : Q (.inl none) (g, m')) (e : lb_Mod_readAll_42 F rec_42 x1 m = some (r, m')) (hd : 398 ≤ d) : G K M_Mod_readAll d bc bs 42 [.ref 242, .int x1] [] (g, m) Q := by
  unfold lb_Mod_readAll_42 at e
  refine g_iload_n k_Mod_readAll_42 rfl rfl ?_
  refine g_bipush (v := 8) k_Mod_readAll_43 rfl ?_
  refine g_icmp_ge (tgt := 61) k_Mod_readAll_45 (by decide) (fun c => ?_) (fun c => ?_)
  · rw [if_pos c] at e
    refine g_aload_n k_Mod_readAll_61 rfl rfl ?_
    obtain ⟨y1, m2, e_y1, e⟩ := o_b2_ex e
    refine g_cv k_Mod_readAll_62 lv_Mod_160 (by decide +kernel) (T := F_Mod) (N := 61) (ci := 10) rfl (sk_Mod s) (s_Mod_blanks (bc := 0) (bs := 0) s F  m e_y1 (by omega)) rfl rfl (Nat.le_of_ble_eq_true rfl) (by simp [Value.category]) (by omega) (by omega) (by omega) ?_
    exact G.wl (wls (wld wl0)) (t_Mod_readAll_65 s F F  m2 hq e hd)
  · rw [if_neg c] at e
    refine g_aload_n k_Mod_readAll_48 rfl rfl ?_
    refine p_getr k_Mod_readAll_49 fl_Mod_28 rfl (sk_Mod s) (by decide) (sr_Mod_22 s) ?_
    refine g_iload_n k_Mod_readAll_52 rfl rfl ?_
    refine g_iconst (v := (-1)) k_Mod_readAll_53 rfl ?_
    obtain ⟨q3, e⟩ := o_gd_ex e
    refine p_iast k_Mod_readAll_54 (sa_Mod_22 s) (inb_in q3) (j := x1.toNatClampNeg) rfl ?_
    obtain ⟨m4, u_m4, e⟩ := o_let_ex e
    refine G.hm u_m4 ?_
    refine g_iinc (v := _ + 1) k_Mod_readAll_55 rfl rfl (by decide) ?_
    refine g_goto (tgt := 42) k_Mod_readAll_58 (by decide) ?_
    exact (hr_42 (x1 + 1) m4 e)
def ll_Mod_readAll_42 (F : Nat) : Nat → Int32 → aM → Option (Int32 × aM)
  | 0, _, _ => none
  | N + 1, x1, m => lb_Mod_readAll_42 F (ll_Mod_readAll_42 F N) x1 m
theorem t_Mod_readAll_42 {K : aK} {d bc bs : Nat} {g : aG} (s : SyM g) {Q : aQ} {r : Int32} {m' : aM} (F : Nat) : ∀ (N : Nat) (x1 : Int32) (m : aM), Q (.inl none) (g, m') → ll_Mod_readAll_42 F N x1 m = some (r, m') → 398 ≤ d → G K M_Mod_readAll d bc bs 42 [.ref 242, .int x1] [] (g, m) Q
  | 0, _, _ => fun _ e => nomatch e
  | N + 1, x1, m => fun hq e hd => tb_Mod_readAll_42 s F (ll_Mod_readAll_42 F N) (fun x1 m e => t_Mod_readAll_42 s F N x1 m hq e hd) x1 m hq e hd
def f_Mod_readAll (F : Nat)  (m : aM) : Option (Int32 × aM) :=
  o_let (a_st m 242 17 0) fun m1 =>
  o_let (a_st m1 242 13 0) fun m2 =>
  o_let (a_st m2 242 14 0) fun m3 =>
  o_let (a_st m3 242 15 0) fun m4 =>
  o_let (a_st m4 242 16 (-1)) fun m5 =>
  o_let (a_st m5 242 19 0) fun m6 =>
  o_let (a_st m6 242 20 0) fun m7 =>
  o_let (a_st m7 242 21 0) fun m8 =>
  ll_Mod_readAll_42 F F 0 m8
theorem s_Mod_readAll {K : aK} {d bc bs : Nat} {g : aG} (s : SyM g) (F : Nat)  (m : aM) {r : Int32} {m' : aM} (e : f_Mod_readAll F  m = some (r, m')) (hd : 398 ≤ d) : Sp K M_Mod_readAll d bc bs [.ref 242] (g, m) none (g, m') := by
  refine sp_of ok_Mod_readAll rfl (Nat.le_of_ble_eq_true rfl) (by simp [Value.category]) (fun Q hq => ?_)
  unfold f_Mod_readAll at e
  refine g_aload_n k_Mod_readAll_0 rfl rfl ?_
  refine g_iconst (v := 0) k_Mod_readAll_1 rfl ?_
  refine p_puti k_Mod_readAll_2 fl_Mod_140 rfl ⟨R_Mod, F_Mod, 61, rfl, Or.inl rfl⟩ (sk_Mod s) (by decide) ?_
  obtain ⟨m1, u_m1, e⟩ := o_let_ex e
  refine G.hm u_m1 ?_
  refine g_aload_n k_Mod_readAll_5 rfl rfl ?_
  refine g_iconst (v := 0) k_Mod_readAll_6 rfl ?_
  refine p_puti k_Mod_readAll_7 fl_Mod_143 rfl ⟨R_Mod, F_Mod, 61, rfl, Or.inl rfl⟩ (sk_Mod s) (by decide) ?_
  obtain ⟨m2, u_m2, e⟩ := o_let_ex e
  refine G.hm u_m2 ?_
  refine g_aload_n k_Mod_readAll_10 rfl rfl ?_
  refine g_iconst (v := 0) k_Mod_readAll_11 rfl ?_
  refine p_puti k_Mod_readAll_12 fl_Mod_174 rfl ⟨R_Mod, F_Mod, 61, rfl, Or.inl rfl⟩ (sk_Mod s) (by decide) ?_
  obtain ⟨m3, u_m3, e⟩ := o_let_ex e
  refine G.hm u_m3 ?_
  refine g_aload_n k_Mod_readAll_15 rfl rfl ?_
  refine g_iconst (v := 0) k_Mod_readAll_16 rfl ?_
  refine p_puti k_Mod_readAll_17 fl_Mod_150 rfl ⟨R_Mod, F_Mod, 61, rfl, Or.inl rfl⟩ (sk_Mod s) (by decide) ?_
  obtain ⟨m4, u_m4, e⟩ := o_let_ex e
  refine G.hm u_m4 ?_
  refine g_aload_n k_Mod_readAll_20 rfl rfl ?_
  refine g_iconst (v := (-1)) k_Mod_readAll_21 rfl ?_
  refine p_puti k_Mod_readAll_22 fl_Mod_153 rfl ⟨R_Mod, F_Mod, 61, rfl, Or.inl rfl⟩ (sk_Mod s) (by decide) ?_
  obtain ⟨m5, u_m5, e⟩ := o_let_ex e
  refine G.hm u_m5 ?_
  refine g_aload_n k_Mod_readAll_25 rfl rfl ?_
  refine g_iconst (v := 0) k_Mod_readAll_26 rfl ?_
  refine p_puti k_Mod_readAll_27 fl_Mod_224 rfl ⟨R_Mod, F_Mod, 61, rfl, Or.inl rfl⟩ (sk_Mod s) (by decide) ?_
  obtain ⟨m6, u_m6, e⟩ := o_let_ex e
  refine G.hm u_m6 ?_
  refine g_aload_n k_Mod_readAll_30 rfl rfl ?_
  refine g_iconst (v := 0) k_Mod_readAll_31 rfl ?_
  refine p_puti k_Mod_readAll_32 fl_Mod_227 rfl ⟨R_Mod, F_Mod, 61, rfl, Or.inl rfl⟩ (sk_Mod s) (by decide) ?_
  obtain ⟨m7, u_m7, e⟩ := o_let_ex e
  refine G.hm u_m7 ?_
  refine g_aload_n k_Mod_readAll_35 rfl rfl ?_
  refine g_iconst (v := 0) k_Mod_readAll_36 rfl ?_
  refine p_puti k_Mod_readAll_37 fl_Mod_230 rfl ⟨R_Mod, F_Mod, 61, rfl, Or.inl rfl⟩ (sk_Mod s) (by decide) ?_
  obtain ⟨m8, u_m8, e⟩ := o_let_ex e
  refine G.hm u_m8 ?_
  refine g_iconst (v := 0) k_Mod_readAll_40 rfl ?_
  refine g_istore_n k_Mod_readAll_41 rfl (by decide) ?_
  exact (t_Mod_readAll_42 s F F 0 m8 hq e hd)
def lb_Mod_lens_143 (F : Nat) (rec_143 : Int32 → Int32 → aM → Option (Int32 × aM)) (x1 : Int32) (x2 : Int32) (m : aM) : Option (Int32 × aM) :=
  (if (m 242 20) ≤ x2 then
  o_let (a_st m 242 3 x1) fun m1 =>
  o_let (a_st m1 242 6 (m1 242 20)) fun m2 =>
  o_let (a_st m2 242 7 (m2 242 21)) fun m3 =>
  o_let (a_st m3 242 4 (m3 242 19)) fun m4 =>
  o_let (a_st m4 242 12 1) fun m5 =>
  some ((m5 242 4), m5)
  else
  o_gd (inb x2 16) <|
  o_gd (inb x2 16) <|
  o_let (a_st m 246 x2.toNatClampNeg (m 248 x2.toNatClampNeg)) fun m8 =>
  rec_143 x1 (x2 + 1) m8
  )
theorem tb_Mod_lens_143 {K : aK} {d bc bs : Nat} {g : aG} (s : SyM g) {Q : aQ} {r : Int32} {m' : aM} (F : Nat) (rec_143 : Int32 → Int32 → aM → Option (Int32 × aM)) (hr_143 : ∀ (x1 : Int32) (x2 : Int32) (m : aM), rec_143 x1 x2 m = some (r, m') → G K M_Mod_lens d bc bs 143 [.ref 242, .int x1, .int x2] [] (g, m) Q) (x1 : Int32) (x2 : Int32) (m : aM) (hq : Q (.inl (some (.int r))) (g, m')) (e : lb_Mod_lens_143 F rec_143 x1 x2 m = some (r, m')) (hd : 399 ≤ d) : G K M_Mod_lens d bc bs 143 [.ref 242, .int x1, .int x2] [] (g, m) Q := by
  unfold lb_Mod_lens_143 at e
  refine g_iload_n k_Mod_lens_143 rfl rfl ?_
  refine g_aload_n k_Mod_lens_144 rfl rfl ?_
  refine p_geti k_Mod_lens_145 fl_Mod_227 rfl (sk_Mod s) (by decide) ?_
  refine g_icmp_ge (tgt := 169) k_Mod_lens_148 (by decide) (fun c => ?_) (fun c => ?_)
  · rw [if_pos c] at e
    refine g_aload_n k_Mod_lens_169 rfl rfl ?_
    refine g_iload_n k_Mod_lens_170 rfl rfl ?_
    refine p_puti k_Mod_lens_171 fl_Mod_250 rfl ⟨R_Mod, F_Mod, 61, rfl, Or.inl rfl⟩ (sk_Mod s) (by decide) ?_
    obtain ⟨m1, u_m1, e⟩ := o_let_ex e
    refine G.hm u_m1 ?_
    refine g_aload_n k_Mod_lens_174 rfl rfl ?_
    refine g_aload_n k_Mod_lens_175 rfl rfl ?_
    refine p_geti k_Mod_lens_176 fl_Mod_227 rfl (sk_Mod s) (by decide) ?_
    refine p_puti k_Mod_lens_179 fl_Mod_253 rfl ⟨R_Mod, F_Mod, 61, rfl, Or.inl rfl⟩ (sk_Mod s) (by decide) ?_
    obtain ⟨m2, u_m2, e⟩ := o_let_ex e
    refine G.hm u_m2 ?_
    refine g_aload_n k_Mod_lens_182 rfl rfl ?_
    refine g_aload_n k_Mod_lens_183 rfl rfl ?_
    refine p_geti k_Mod_lens_184 fl_Mod_230 rfl (sk_Mod s) (by decide) ?_
    refine p_puti k_Mod_lens_187 fl_Mod_256 rfl ⟨R_Mod, F_Mod, 61, rfl, Or.inl rfl⟩ (sk_Mod s) (by decide) ?_
    obtain ⟨m3, u_m3, e⟩ := o_let_ex e
    refine G.hm u_m3 ?_
    refine g_aload_n k_Mod_lens_190 rfl rfl ?_
    refine g_aload_n k_Mod_lens_191 rfl rfl ?_
    refine p_geti k_Mod_lens_192 fl_Mod_224 rfl (sk_Mod s) (by decide) ?_
    refine p_puti k_Mod_lens_195 fl_Mod_259 rfl ⟨R_Mod, F_Mod, 61, rfl, Or.inl rfl⟩ (sk_Mod s) (by decide) ?_
    obtain ⟨m4, u_m4, e⟩ := o_let_ex e
    refine G.hm u_m4 ?_
    refine g_aload_n k_Mod_lens_198 rfl rfl ?_
    refine g_iconst (v := 1) k_Mod_lens_199 rfl ?_
    refine p_putz k_Mod_lens_200 fl_Mod_262 rfl (by decide) ⟨R_Mod, F_Mod, 61, rfl, Or.inl rfl⟩ (sk_Mod s) (by decide) ?_
    obtain ⟨m5, u_m5, e⟩ := o_let_ex e
    refine G.hm u_m5 ?_
    refine g_aload_n k_Mod_lens_203 rfl rfl ?_
    refine p_geti k_Mod_lens_204 fl_Mod_259 rfl (sk_Mod s) (by decide) ?_
    refine g_iret k_Mod_lens_207 rfl ?_
    exact (by cases e; exact hq)
  · rw [if_neg c] at e
    refine g_aload_n k_Mod_lens_151 rfl rfl ?_
    refine p_getr k_Mod_lens_152 fl_Mod_25 rfl (sk_Mod s) (by decide) (sr_Mod_11 s) ?_
    refine g_iload_n k_Mod_lens_155 rfl rfl ?_
    refine g_aload_n k_Mod_lens_156 rfl rfl ?_
    refine p_getr k_Mod_lens_157 fl_Mod_31 rfl (sk_Mod s) (by decide) (sr_Mod_23 s) ?_
    refine g_iload_n k_Mod_lens_160 rfl rfl ?_
    obtain ⟨q6, e⟩ := o_gd_ex e
    refine p_iald k_Mod_lens_161 (sa_Mod_23 s) (inb_in q6) (j := x2.toNatClampNeg) rfl ?_
    obtain ⟨q7, e⟩ := o_gd_ex e
    refine p_iast k_Mod_lens_162 (sa_Mod_11 s) (inb_in q7) (j := x2.toNatClampNeg) rfl ?_
    obtain ⟨m8, u_m8, e⟩ := o_let_ex e
    refine G.hm u_m8 ?_
    refine g_iinc (v := _ + 1) k_Mod_lens_163 rfl rfl (by decide) ?_
    refine g_goto (tgt := 143) k_Mod_lens_166 (by decide) ?_
    exact (hr_143 x1 (x2 + 1) m8 e)
def ll_Mod_lens_143 (F : Nat) : Nat → Int32 → Int32 → aM → Option (Int32 × aM)
  | 0, _, _, _ => none
  | N + 1, x1, x2, m => lb_Mod_lens_143 F (ll_Mod_lens_143 F N) x1 x2 m
theorem t_Mod_lens_143 {K : aK} {d bc bs : Nat} {g : aG} (s : SyM g) {Q : aQ} {r : Int32} {m' : aM} (F : Nat) : ∀ (N : Nat) (x1 : Int32) (x2 : Int32) (m : aM), Q (.inl (some (.int r))) (g, m') → ll_Mod_lens_143 F N x1 x2 m = some (r, m') → 399 ≤ d → G K M_Mod_lens d bc bs 143 [.ref 242, .int x1, .int x2] [] (g, m) Q
  | 0, _, _, _ => fun _ e => nomatch e
  | N + 1, x1, x2, m => fun hq e hd => tb_Mod_lens_143 s F (ll_Mod_lens_143 F N) (fun x1 x2 m e => t_Mod_lens_143 s F N x1 x2 m hq e hd) x1 x2 m hq e hd
def lb_Mod_lens_117 (F : Nat) (rec_117 : Int32 → Int32 → aM → Option (Int32 × aM)) (x1 : Int32) (x2 : Int32) (m : aM) : Option (Int32 × aM) :=
  (if 8 ≤ x2 then
  ll_Mod_lens_143 F F x1 0 m
  else
  o_gd (inb x2 8) <|
  o_gd (inb x2 8) <|
  o_let (a_st m 245 x2.toNatClampNeg (m 247 x2.toNatClampNeg)) fun m3 =>
  rec_117 x1 (x2 + 1) m3
  )
theorem tb_Mod_lens_117 {K : aK} {d bc bs : Nat} {g : aG} (s : SyM g) {Q : aQ} {r : Int32} {m' : aM} (F : Nat) (rec_117 : Int32 → Int32 → aM → Option (Int32 × aM)) (hr_117 : ∀ (x1 : Int32) (x2 : Int32) (m : aM), rec_117 x1 x2 m = some (r, m') → G K M_Mod_lens d bc bs 117 [.ref 242, .int x1, .int x2] [] (g, m) Q) (x1 : Int32) (x2 : Int32) (m : aM) (hq : Q (.inl (some (.int r))) (g, m')) (e : lb_Mod_lens_117 F rec_117 x1 x2 m = some (r, m')) (hd : 399 ≤ d) : G K M_Mod_lens d bc bs 117 [.ref 242, .int x1, .int x2] [] (g, m) Q := by
  unfold lb_Mod_lens_117 at e
  refine g_iload_n k_Mod_lens_117 rfl rfl ?_
  refine g_bipush (v := 8) k_Mod_lens_118 rfl ?_
  refine g_icmp_ge (tgt := 141) k_Mod_lens_120 (by decide) (fun c => ?_) (fun c => ?_)
  · rw [if_pos c] at e
    refine g_iconst (v := 0) k_Mod_lens_141 rfl ?_
    refine g_istore_n k_Mod_lens_142 rfl (by decide) ?_
    exact (t_Mod_lens_143 s F F x1 0 m hq e hd)
  · rw [if_neg c] at e
    refine g_aload_n k_Mod_lens_123 rfl rfl ?_
    refine p_getr k_Mod_lens_124 fl_Mod_22 rfl (sk_Mod s) (by decide) (sr_Mod_10 s) ?_
    refine g_iload_n k_Mod_lens_127 rfl rfl ?_
    refine g_aload_n k_Mod_lens_128 rfl rfl ?_
    refine p_getr k_Mod_lens_129 fl_Mod_28 rfl (sk_Mod s) (by decide) (sr_Mod_22 s) ?_
    refine g_iload_n k_Mod_lens_132 rfl rfl ?_
    obtain ⟨q1, e⟩ := o_gd_ex e
    refine p_iald k_Mod_lens_133 (sa_Mod_22 s) (inb_in q1) (j := x2.toNatClampNeg) rfl ?_
    obtain ⟨q2, e⟩ := o_gd_ex e
    refine p_iast k_Mod_lens_134 (sa_Mod_10 s) (inb_in q2) (j := x2.toNatClampNeg) rfl ?_
    obtain ⟨m3, u_m3, e⟩ := o_let_ex e
    refine G.hm u_m3 ?_
    refine g_iinc (v := _ + 1) k_Mod_lens_135 rfl rfl (by decide) ?_
    refine g_goto (tgt := 117) k_Mod_lens_138 (by decide) ?_
    exact (hr_117 x1 (x2 + 1) m3 e)
def ll_Mod_lens_117 (F : Nat) : Nat → Int32 → Int32 → aM → Option (Int32 × aM)
  | 0, _, _, _ => none
  | N + 1, x1, x2, m => lb_Mod_lens_117 F (ll_Mod_lens_117 F N) x1 x2 m
theorem t_Mod_lens_117 {K : aK} {d bc bs : Nat} {g : aG} (s : SyM g) {Q : aQ} {r : Int32} {m' : aM} (F : Nat) : ∀ (N : Nat) (x1 : Int32) (x2 : Int32) (m : aM), Q (.inl (some (.int r))) (g, m') → ll_Mod_lens_117 F N x1 x2 m = some (r, m') → 399 ≤ d → G K M_Mod_lens d bc bs 117 [.ref 242, .int x1, .int x2] [] (g, m) Q
  | 0, _, _, _ => fun _ e => nomatch e
  | N + 1, x1, x2, m => fun hq e hd => tb_Mod_lens_117 s F (ll_Mod_lens_117 F N) (fun x1 x2 m e => t_Mod_lens_117 s F N x1 x2 m hq e hd) x1 x2 m hq e hd
def lb_Mod_lens_92 (F : Nat) (rec_92 : Int32 → Int32 → aM → Option (Int32 × aM)) (x1 : Int32) (x2 : Int32) (m : aM) : Option (Int32 × aM) :=
  (if x1 ≤ x2 then
  ll_Mod_lens_117 F F x1 0 m
  else
  o_gd (inb x2 400) <|
  o_gd (inb x2 400) <|
  o_let (a_st m 244 x2.toNatClampNeg (m 243 x2.toNatClampNeg)) fun m3 =>
  rec_92 x1 (x2 + 1) m3
  )
theorem tb_Mod_lens_92 {K : aK} {d bc bs : Nat} {g : aG} (s : SyM g) {Q : aQ} {r : Int32} {m' : aM} (F : Nat) (rec_92 : Int32 → Int32 → aM → Option (Int32 × aM)) (hr_92 : ∀ (x1 : Int32) (x2 : Int32) (m : aM), rec_92 x1 x2 m = some (r, m') → G K M_Mod_lens d bc bs 92 [.ref 242, .int x1, .int x2] [] (g, m) Q) (x1 : Int32) (x2 : Int32) (m : aM) (hq : Q (.inl (some (.int r))) (g, m')) (e : lb_Mod_lens_92 F rec_92 x1 x2 m = some (r, m')) (hd : 399 ≤ d) : G K M_Mod_lens d bc bs 92 [.ref 242, .int x1, .int x2] [] (g, m) Q := by
  unfold lb_Mod_lens_92 at e
  refine g_iload_n k_Mod_lens_92 rfl rfl ?_
  refine g_iload_n k_Mod_lens_93 rfl rfl ?_
  refine g_icmp_ge (tgt := 115) k_Mod_lens_94 (by decide) (fun c => ?_) (fun c => ?_)
  · rw [if_pos c] at e
    refine g_iconst (v := 0) k_Mod_lens_115 rfl ?_
    refine g_istore_n k_Mod_lens_116 rfl (by decide) ?_
    exact (t_Mod_lens_117 s F F x1 0 m hq e hd)
  · rw [if_neg c] at e
    refine g_aload_n k_Mod_lens_97 rfl rfl ?_
    refine p_getr k_Mod_lens_98 fl_Mod_19 rfl (sk_Mod s) (by decide) (sr_Mod_9 s) ?_
    refine g_iload_n k_Mod_lens_101 rfl rfl ?_
    refine g_aload_n k_Mod_lens_102 rfl rfl ?_
    refine p_getr k_Mod_lens_103 fl_Mod_15 rfl (sk_Mod s) (by decide) (sr_Mod_8 s) ?_
    refine g_iload_n k_Mod_lens_106 rfl rfl ?_
    obtain ⟨q1, e⟩ := o_gd_ex e
    refine p_iald k_Mod_lens_107 (sa_Mod_8 s) (inb_in q1) (j := x2.toNatClampNeg) rfl ?_
    obtain ⟨q2, e⟩ := o_gd_ex e
    refine p_iast k_Mod_lens_108 (sa_Mod_9 s) (inb_in q2) (j := x2.toNatClampNeg) rfl ?_
    obtain ⟨m3, u_m3, e⟩ := o_let_ex e
    refine G.hm u_m3 ?_
    refine g_iinc (v := _ + 1) k_Mod_lens_109 rfl rfl (by decide) ?_
    refine g_goto (tgt := 92) k_Mod_lens_112 (by decide) ?_
    exact (hr_92 x1 (x2 + 1) m3 e)
def ll_Mod_lens_92 (F : Nat) : Nat → Int32 → Int32 → aM → Option (Int32 × aM)
  | 0, _, _, _ => none
  | N + 1, x1, x2, m => lb_Mod_lens_92 F (ll_Mod_lens_92 F N) x1 x2 m
theorem t_Mod_lens_92 {K : aK} {d bc bs : Nat} {g : aG} (s : SyM g) {Q : aQ} {r : Int32} {m' : aM} (F : Nat) : ∀ (N : Nat) (x1 : Int32) (x2 : Int32) (m : aM), Q (.inl (some (.int r))) (g, m') → ll_Mod_lens_92 F N x1 x2 m = some (r, m') → 399 ≤ d → G K M_Mod_lens d bc bs 92 [.ref 242, .int x1, .int x2] [] (g, m) Q
  | 0, _, _, _ => fun _ e => nomatch e
  | N + 1, x1, x2, m => fun hq e hd => tb_Mod_lens_92 s F (ll_Mod_lens_92 F N) (fun x1 x2 m e => t_Mod_lens_92 s F N x1 x2 m hq e hd) x1 x2 m hq e hd
def b_Mod_lens_44 (F : Nat) (x1 : Int32) (xt0 : Int32) (m : aM) : Option (Int32 × aM) :=
  o_b2 (f_Mod_bad xt0 2 m) fun y1 m2 =>
  (if y1 = 0 then
  o_let (a_st m2 242 2 x1) fun m3 =>
  o_b2 (f_Mod_readAll F  m3) fun y4 m5 =>
  o_let (a_st m5 242 1 0) fun m6 =>
  o_let (a_st m6 242 5 (m6 242 16)) fun m7 =>
  (if (m7 242 15) = 0 then
  ll_Mod_lens_92 F F x1 0 m7
  else
  some (((m7 242 15) - 10), m7)
  )
  else
  some (0, m2)
  )
theorem t_Mod_lens_44 {K : aK} {d bc bs : Nat} {g : aG} (s : SyM g) {Q : aQ} {r : Int32} {m' : aM} (F : Nat) (x1 : Int32) (xt0 : Int32) (m : aM) (hq : Q (.inl (some (.int r))) (g, m')) (e : b_Mod_lens_44 F x1 xt0 m = some (r, m')) (hd : 399 ≤ d) : G K M_Mod_lens d bc bs 44 [.ref 242, .int x1, .double 0] [.int xt0, .ref 242] (g, m) Q := by
  unfold b_Mod_lens_44 at e
  refine g_iconst (v := 2) k_Mod_lens_44 rfl ?_
  obtain ⟨y1, m2, e_y1, e⟩ := o_b2_ex e
  refine g_cv k_Mod_lens_45 lv_Mod_240 (by decide +kernel) (T := F_Mod) (N := 61) (ci := 10) rfl (sk_Mod s) (s_Mod_bad (bc := 0) (bs := 0) s xt0 2 m e_y1) rfl rfl (Nat.le_of_ble_eq_true rfl) (by simp [Value.category]) (by omega) (by omega) (by omega) ?_
  refine g_if_eq (tgt := 53) k_Mod_lens_48 (by decide) (fun c => ?_) (fun c => ?_)
  · rw [if_pos c] at e
    refine g_aload_n k_Mod_lens_53 rfl rfl ?_
    refine g_iload_n k_Mod_lens_54 rfl rfl ?_
    refine p_puti k_Mod_lens_55 fl_Mod_137 rfl ⟨R_Mod, F_Mod, 61, rfl, Or.inl rfl⟩ (sk_Mod s) (by decide) ?_
    obtain ⟨m3, u_m3, e⟩ := o_let_ex e
    refine G.hm u_m3 ?_
    refine g_aload_n k_Mod_lens_58 rfl rfl ?_
    obtain ⟨y4, m5, e_y4, e⟩ := o_b2_ex e
    refine g_cv k_Mod_lens_59 lv_Mod_247 (by decide +kernel) (T := F_Mod) (N := 61) (ci := 10) rfl (sk_Mod s) (s_Mod_readAll (bc := 0) (bs := 0) s F  m3 e_y4 (by omega)) rfl rfl (Nat.le_of_ble_eq_true rfl) (by simp [Value.category]) (by omega) (by omega) (by omega) ?_
    refine g_aload_n k_Mod_lens_62 rfl rfl ?_
    refine g_iconst (v := 0) k_Mod_lens_63 rfl ?_
    refine p_puti k_Mod_lens_64 fl_Mod_134 rfl ⟨R_Mod, F_Mod, 61, rfl, Or.inl rfl⟩ (sk_Mod s) (by decide) ?_
    obtain ⟨m6, u_m6, e⟩ := o_let_ex e
    refine G.hm u_m6 ?_
    refine g_aload_n k_Mod_lens_67 rfl rfl ?_
    refine g_aload_n k_Mod_lens_68 rfl rfl ?_
    refine p_geti k_Mod_lens_69 fl_Mod_153 rfl (sk_Mod s) (by decide) ?_
    refine p_puti k_Mod_lens_72 fl_Mod_11 rfl ⟨R_Mod, F_Mod, 61, rfl, Or.inl rfl⟩ (sk_Mod s) (by decide) ?_
    obtain ⟨m7, u_m7, e⟩ := o_let_ex e
    refine G.hm u_m7 ?_
    refine g_aload_n k_Mod_lens_75 rfl rfl ?_
    refine p_geti k_Mod_lens_76 fl_Mod_150 rfl (sk_Mod s) (by decide) ?_
    refine g_if_eq (tgt := 90) k_Mod_lens_79 (by decide) (fun c => ?_) (fun c => ?_)
    · rw [if_pos c] at e
      refine g_iconst (v := 0) k_Mod_lens_90 rfl ?_
      refine g_istore_n k_Mod_lens_91 rfl (by decide) ?_
      exact (t_Mod_lens_92 s F F x1 0 m7 hq e hd)
    · rw [if_neg c] at e
      refine g_aload_n k_Mod_lens_82 rfl rfl ?_
      refine p_geti k_Mod_lens_83 fl_Mod_150 rfl (sk_Mod s) (by decide) ?_
      refine g_bipush (v := 10) k_Mod_lens_86 rfl ?_
      refine g_isub k_Mod_lens_88 ?_
      refine g_iret k_Mod_lens_89 rfl ?_
      exact (by cases e; exact hq)
  · rw [if_neg c] at e
    refine g_iconst (v := 0) k_Mod_lens_51 rfl ?_
    refine g_iret k_Mod_lens_52 rfl ?_
    exact (by cases e; exact hq)
def b_Mod_lens_23 (F : Nat) (x1 : Int32) (xt0 : Int32) (m : aM) : Option (Int32 × aM) :=
  o_b2 (f_Mod_bad xt0 1 m) fun y1 m2 =>
  (if y1 = 0 then
  (if (m2 242 45) ≤ 1 then
  b_Mod_lens_44 F x1 0 m2
  else
  b_Mod_lens_44 F x1 1 m2
  )
  else
  some (0, m2)
  )
theorem t_Mod_lens_23 {K : aK} {d bc bs : Nat} {g : aG} (s : SyM g) {Q : aQ} {r : Int32} {m' : aM} (F : Nat) (x1 : Int32) (xt0 : Int32) (m : aM) (hq : Q (.inl (some (.int r))) (g, m')) (e : b_Mod_lens_23 F x1 xt0 m = some (r, m')) (hd : 399 ≤ d) : G K M_Mod_lens d bc bs 23 [.ref 242, .int x1, .double 0] [.int xt0, .ref 242] (g, m) Q := by
  unfold b_Mod_lens_23 at e
  refine g_iconst (v := 1) k_Mod_lens_23 rfl ?_
  obtain ⟨y1, m2, e_y1, e⟩ := o_b2_ex e
  refine g_cv k_Mod_lens_24 lv_Mod_240 (by decide +kernel) (T := F_Mod) (N := 61) (ci := 10) rfl (sk_Mod s) (s_Mod_bad (bc := 0) (bs := 0) s xt0 1 m e_y1) rfl rfl (Nat.le_of_ble_eq_true rfl) (by simp [Value.category]) (by omega) (by omega) (by omega) ?_
  refine g_if_ne (tgt := 51) k_Mod_lens_27 (by decide) (fun c => ?_) (fun c => ?_)
  · rw [if_pos c] at e
    refine g_aload_n k_Mod_lens_30 rfl rfl ?_
    refine g_aload_n k_Mod_lens_31 rfl rfl ?_
    refine p_geti k_Mod_lens_32 fl_Mod_244 rfl (sk_Mod s) (by decide) ?_
    refine g_iconst (v := 1) k_Mod_lens_35 rfl ?_
    refine g_icmp_le (tgt := 43) k_Mod_lens_36 (by decide) (fun c => ?_) (fun c => ?_)
    · rw [if_pos c] at e
      refine g_iconst (v := 0) k_Mod_lens_43 rfl ?_
      exact (t_Mod_lens_44 s F x1 0 m2 hq e hd)
    · rw [if_neg c] at e
      refine g_iconst (v := 1) k_Mod_lens_39 rfl ?_
      refine g_goto (tgt := 44) k_Mod_lens_40 (by decide) ?_
      exact (t_Mod_lens_44 s F x1 1 m2 hq e hd)
  · rw [if_neg c] at e
    refine g_iconst (v := 0) k_Mod_lens_51 rfl ?_
    refine g_iret k_Mod_lens_52 rfl ?_
    exact (by cases e; exact hq)
def f_Mod_lens (F : Nat) (x1 : Int32) (m : aM) : Option (Int32 × aM) :=
  o_let (a_st m 242 0 0) fun m1 =>
  o_b (f_Mod_in x1 0 (m1 242 1) m1) fun y2 =>
  (if y2 = 0 then
  b_Mod_lens_23 F x1 1 m1
  else
  b_Mod_lens_23 F x1 0 m1
  )
theorem s_Mod_lens {K : aK} {d bc bs : Nat} {g : aG} (s : SyM g) (F : Nat) (x1 : Int32) (m : aM) {r : Int32} {m' : aM} (e : f_Mod_lens F x1 m = some (r, m')) (hd : 399 ≤ d) : Sp K M_Mod_lens d bc bs [.ref 242, .int x1] (g, m) (some (.int r)) (g, m') := by
  refine sp_of ok_Mod_lens rfl (Nat.le_of_ble_eq_true rfl) (by simp [Value.category]) (fun Q hq => ?_)
  unfold f_Mod_lens at e
  refine g_aload_n k_Mod_lens_0 rfl rfl ?_
  refine g_iconst (v := 0) k_Mod_lens_1 rfl ?_
  refine p_puti k_Mod_lens_2 fl_Mod_131 rfl ⟨R_Mod, F_Mod, 61, rfl, Or.inl rfl⟩ (sk_Mod s) (by decide) ?_
  obtain ⟨m1, u_m1, e⟩ := o_let_ex e
  refine G.hm u_m1 ?_
  refine g_aload_n k_Mod_lens_5 rfl rfl ?_
  refine g_iload_n k_Mod_lens_6 rfl rfl ?_
  refine g_iconst (v := 0) k_Mod_lens_7 rfl ?_
  refine g_aload_n k_Mod_lens_8 rfl rfl ?_
  refine p_geti k_Mod_lens_9 fl_Mod_134 rfl (sk_Mod s) (by decide) ?_
  obtain ⟨y2, e_y2, e⟩ := o_b_ex e
  refine g_cs k_Mod_lens_12 ls_Mod_236 (by decide +kernel) (s_Mod_in (bc := 0) (bs := 0) s x1 0 (m1 242 1) m1 e_y2) rfl rfl (Nat.le_of_ble_eq_true rfl) (by simp [Value.category]) (by omega) (by omega) (by omega) ?_
  refine g_if_ne (tgt := 22) k_Mod_lens_15 (by decide) (fun c => ?_) (fun c => ?_)
  · rw [if_pos c] at e
    refine g_iconst (v := 1) k_Mod_lens_18 rfl ?_
    refine g_goto (tgt := 23) k_Mod_lens_19 (by decide) ?_
    exact (t_Mod_lens_23 s F x1 1 m1 hq e hd)
  · rw [if_neg c] at e
    refine g_iconst (v := 0) k_Mod_lens_22 rfl ?_
    exact (t_Mod_lens_23 s F x1 0 m1 hq e hd)
def f_Mod_fault  (m : aM) : Option (Int32 × aM) :=
  o_let (a_st m 242 0 0) fun m1 =>
  some ((m1 242 5), m1)
theorem s_Mod_fault {K : aK} {d bc bs : Nat} {g : aG} (s : SyM g)  (m : aM) {r : Int32} {m' : aM} (e : f_Mod_fault  m = some (r, m')) : Sp K M_Mod_fault d bc bs [.ref 242] (g, m) (some (.int r)) (g, m') := by
  refine sp_of ok_Mod_fault rfl (Nat.le_of_ble_eq_true rfl) (by simp [Value.category]) (fun Q hq => ?_)
  unfold f_Mod_fault at e
  refine g_aload_n k_Mod_fault_0 rfl rfl ?_
  refine g_iconst (v := 0) k_Mod_fault_1 rfl ?_
  refine p_puti k_Mod_fault_2 fl_Mod_131 rfl ⟨R_Mod, F_Mod, 61, rfl, Or.inl rfl⟩ (sk_Mod s) (by decide) ?_
  obtain ⟨m1, u_m1, e⟩ := o_let_ex e
  refine G.hm u_m1 ?_
  refine g_aload_n k_Mod_fault_5 rfl rfl ?_
  refine p_geti k_Mod_fault_6 fl_Mod_11 rfl (sk_Mod s) (by decide) ?_
  refine g_iret k_Mod_fault_9 rfl ?_
  exact (by cases e; exact hq)
def f_Mod_readsAt (x1 : Int32) (m : aM) : Option (Int32 × aM) :=
  o_let (a_st m 242 17 1) fun m1 =>
  o_let (a_st m1 242 2 (m1 242 3)) fun m2 =>
  o_let (a_st m2 242 13 x1) fun m3 =>
  o_let (a_st m3 242 14 0) fun m4 =>
  o_let (a_st m4 242 15 0) fun m5 =>
  o_let (a_st m5 242 18 0) fun m6 =>
  some (0, m6)
theorem s_Mod_readsAt {K : aK} {d bc bs : Nat} {g : aG} (s : SyM g) (x1 : Int32) (m : aM) {r : Int32} {m' : aM} (e : f_Mod_readsAt x1 m = some (r, m')) : Sp K M_Mod_readsAt d bc bs [.ref 242, .int x1] (g, m) none (g, m') := by
  refine sp_of ok_Mod_readsAt rfl (Nat.le_of_ble_eq_true rfl) (by simp [Value.category]) (fun Q hq => ?_)
  unfold f_Mod_readsAt at e
  refine g_aload_n k_Mod_readsAt_0 rfl rfl ?_
  refine g_iconst (v := 1) k_Mod_readsAt_1 rfl ?_
  refine p_puti k_Mod_readsAt_2 fl_Mod_140 rfl ⟨R_Mod, F_Mod, 61, rfl, Or.inl rfl⟩ (sk_Mod s) (by decide) ?_
  obtain ⟨m1, u_m1, e⟩ := o_let_ex e
  refine G.hm u_m1 ?_
  refine g_aload_n k_Mod_readsAt_5 rfl rfl ?_
  refine g_aload_n k_Mod_readsAt_6 rfl rfl ?_
  refine p_geti k_Mod_readsAt_7 fl_Mod_250 rfl (sk_Mod s) (by decide) ?_
  refine p_puti k_Mod_readsAt_10 fl_Mod_137 rfl ⟨R_Mod, F_Mod, 61, rfl, Or.inl rfl⟩ (sk_Mod s) (by decide) ?_
  obtain ⟨m2, u_m2, e⟩ := o_let_ex e
  refine G.hm u_m2 ?_
  refine g_aload_n k_Mod_readsAt_13 rfl rfl ?_
  refine g_iload_n k_Mod_readsAt_14 rfl rfl ?_
  refine p_puti k_Mod_readsAt_15 fl_Mod_143 rfl ⟨R_Mod, F_Mod, 61, rfl, Or.inl rfl⟩ (sk_Mod s) (by decide) ?_
  obtain ⟨m3, u_m3, e⟩ := o_let_ex e
  refine G.hm u_m3 ?_
  refine g_aload_n k_Mod_readsAt_18 rfl rfl ?_
  refine g_iconst (v := 0) k_Mod_readsAt_19 rfl ?_
  refine p_puti k_Mod_readsAt_20 fl_Mod_174 rfl ⟨R_Mod, F_Mod, 61, rfl, Or.inl rfl⟩ (sk_Mod s) (by decide) ?_
  obtain ⟨m4, u_m4, e⟩ := o_let_ex e
  refine G.hm u_m4 ?_
  refine g_aload_n k_Mod_readsAt_23 rfl rfl ?_
  refine g_iconst (v := 0) k_Mod_readsAt_24 rfl ?_
  refine p_puti k_Mod_readsAt_25 fl_Mod_150 rfl ⟨R_Mod, F_Mod, 61, rfl, Or.inl rfl⟩ (sk_Mod s) (by decide) ?_
  obtain ⟨m5, u_m5, e⟩ := o_let_ex e
  refine G.hm u_m5 ?_
  refine g_aload_n k_Mod_readsAt_28 rfl rfl ?_
  refine g_iconst (v := 0) k_Mod_readsAt_29 rfl ?_
  refine p_putz k_Mod_readsAt_30 fl_Mod_184 rfl (by decide) ⟨R_Mod, F_Mod, 61, rfl, Or.inl rfl⟩ (sk_Mod s) (by decide) ?_
  obtain ⟨m6, u_m6, e⟩ := o_let_ex e
  refine G.hm u_m6 ?_
  refine g_vret k_Mod_readsAt_33 rfl ?_
  exact (by cases e; exact hq)
def f_Mod_valueOf (F : Nat) (x1 : Int32) (m : aM) : Option (Int32 × aM) :=
  o_gd (inb x1 8) <|
  o_b2 (f_Mod_readsAt (m 245 x1.toNatClampNeg) m) fun y2 m3 =>
  o_b2 (f_Mod_total F  m3) fun y4 m5 =>
  some (y4, m5)
theorem s_Mod_valueOf {K : aK} {d bc bs : Nat} {g : aG} (s : SyM g) (F : Nat) (x1 : Int32) (m : aM) {r : Int32} {m' : aM} (e : f_Mod_valueOf F x1 m = some (r, m')) (hd : 397 ≤ d) : Sp K M_Mod_valueOf d bc bs [.ref 242, .int x1] (g, m) (some (.int r)) (g, m') := by
  refine sp_of ok_Mod_valueOf rfl (Nat.le_of_ble_eq_true rfl) (by simp [Value.category]) (fun Q hq => ?_)
  unfold f_Mod_valueOf at e
  refine g_aload_n k_Mod_valueOf_0 rfl rfl ?_
  refine g_aload_n k_Mod_valueOf_1 rfl rfl ?_
  refine p_getr k_Mod_valueOf_2 fl_Mod_22 rfl (sk_Mod s) (by decide) (sr_Mod_10 s) ?_
  refine g_iload_n k_Mod_valueOf_5 rfl rfl ?_
  obtain ⟨q1, e⟩ := o_gd_ex e
  refine p_iald k_Mod_valueOf_6 (sa_Mod_10 s) (inb_in q1) (j := x1.toNatClampNeg) rfl ?_
  obtain ⟨y2, m3, e_y2, e⟩ := o_b2_ex e
  refine g_cv k_Mod_valueOf_7 lv_Mod_265 (by decide +kernel) (T := F_Mod) (N := 61) (ci := 10) rfl (sk_Mod s) (s_Mod_readsAt (bc := 0) (bs := 0) s (m 245 x1.toNatClampNeg) m e_y2) rfl rfl (Nat.le_of_ble_eq_true rfl) (by simp [Value.category]) (by omega) (by omega) (by omega) ?_
  refine g_aload_n k_Mod_valueOf_10 rfl rfl ?_
  obtain ⟨y4, m5, e_y4, e⟩ := o_b2_ex e
  refine g_cv k_Mod_valueOf_11 lv_Mod_209 (by decide +kernel) (T := F_Mod) (N := 61) (ci := 10) rfl (sk_Mod s) (s_Mod_total (bc := 0) (bs := 0) s F  m3 e_y4 (by omega)) rfl rfl (Nat.le_of_ble_eq_true rfl) (by simp [Value.category]) (by omega) (by omega) (by omega) ?_
  refine g_iret k_Mod_valueOf_14 rfl ?_
  exact (by cases e; exact hq)
def b_Mod_sees_51 (F : Nat) (rec_2 : Int32 → aM → Option (Int32 × aM)) (x1 : Int32) (xt0 : Int32) (xt1 : Int32) (m : aM) : Option (Int32 × aM) :=
  o_gd (inb xt1 4) <|
  o_let (a_st m 251 xt1.toNatClampNeg xt0) fun m2 =>
  rec_2 (x1 + 1) m2
theorem t_Mod_sees_51 {K : aK} {d bc bs : Nat} {g : aG} (s : SyM g) {Q : aQ} {r : Int32} {m' : aM} (F : Nat) (rec_2 : Int32 → aM → Option (Int32 × aM)) (hr_2 : ∀ (x1 : Int32) (m : aM), rec_2 x1 m = some (r, m') → G K M_Mod_sees d bc bs 2 [.ref 242, .int x1] [] (g, m) Q) (x1 : Int32) (xt0 : Int32) (xt1 : Int32) (m : aM) (hq : Q (.inl none) (g, m')) (e : b_Mod_sees_51 F rec_2 x1 xt0 xt1 m = some (r, m')) (hd : 398 ≤ d) : G K M_Mod_sees d bc bs 51 [.ref 242, .int x1] [.int xt0, .int xt1, .ref 251] (g, m) Q := by
  unfold b_Mod_sees_51 at e
  obtain ⟨q1, e⟩ := o_gd_ex e
  refine p_iast k_Mod_sees_51 (sa_Mod_26 s) (inb_in q1) (j := xt1.toNatClampNeg) rfl ?_
  obtain ⟨m2, u_m2, e⟩ := o_let_ex e
  refine G.hm u_m2 ?_
  refine g_iinc (v := _ + 1) k_Mod_sees_52 rfl rfl (by decide) ?_
  refine g_goto (tgt := 2) k_Mod_sees_55 (by decide) ?_
  exact (hr_2 (x1 + 1) m2 e)
def lb_Mod_sees_2 (F : Nat) (rec_2 : Int32 → aM → Option (Int32 × aM)) (x1 : Int32) (m : aM) : Option (Int32 × aM) :=
  (if 4 ≤ x1 then
  some (0, m)
  else
  (if (m 242 12) = 0 then
  o_gd (inb x1 4) <|
  b_Mod_sees_51 F rec_2 x1 (m 249 x1.toNatClampNeg) x1 m
  else
  o_gd (inb (x1 + 4) 8) <|
  o_let ((m 245 ((x1 + 4).toNatClampNeg))) fun y3 =>
  (if y3 = (-1) then
  b_Mod_sees_51 F rec_2 x1 0 x1 m
  else
  o_b2 (f_Mod_valueOf F (x1 + 4) m) fun y4 m5 =>
  b_Mod_sees_51 F rec_2 x1 y4 x1 m5
  )
  )
  )
theorem tb_Mod_sees_2 {K : aK} {d bc bs : Nat} {g : aG} (s : SyM g) {Q : aQ} {r : Int32} {m' : aM} (F : Nat) (rec_2 : Int32 → aM → Option (Int32 × aM)) (hr_2 : ∀ (x1 : Int32) (m : aM), rec_2 x1 m = some (r, m') → G K M_Mod_sees d bc bs 2 [.ref 242, .int x1] [] (g, m) Q) (x1 : Int32) (m : aM) (hq : Q (.inl none) (g, m')) (e : lb_Mod_sees_2 F rec_2 x1 m = some (r, m')) (hd : 398 ≤ d) : G K M_Mod_sees d bc bs 2 [.ref 242, .int x1] [] (g, m) Q := by
  unfold lb_Mod_sees_2 at e
  refine g_iload_n k_Mod_sees_2 rfl rfl ?_
  refine g_iconst (v := 4) k_Mod_sees_3 rfl ?_
  refine g_icmp_ge (tgt := 58) k_Mod_sees_4 (by decide) (fun c => ?_) (fun c => ?_)
  · rw [if_pos c] at e
    refine g_vret k_Mod_sees_58 rfl ?_
    exact (by cases e; exact hq)
  · rw [if_neg c] at e
    refine g_aload_n k_Mod_sees_7 rfl rfl ?_
    refine p_getr k_Mod_sees_8 fl_Mod_40 rfl (sk_Mod s) (by decide) (sr_Mod_26 s) ?_
    refine g_iload_n k_Mod_sees_11 rfl rfl ?_
    refine g_aload_n k_Mod_sees_12 rfl rfl ?_
    refine p_geti k_Mod_sees_13 fl_Mod_262 rfl (sk_Mod s) (by decide) ?_
    refine g_if_ne (tgt := 28) k_Mod_sees_16 (by decide) (fun c => ?_) (fun c => ?_)
    · rw [if_pos c] at e
      refine g_aload_n k_Mod_sees_19 rfl rfl ?_
      refine p_getr k_Mod_sees_20 fl_Mod_34 rfl (sk_Mod s) (by decide) (sr_Mod_24 s) ?_
      refine g_iload_n k_Mod_sees_23 rfl rfl ?_
      obtain ⟨q1, e⟩ := o_gd_ex e
      refine p_iald k_Mod_sees_24 (sa_Mod_24 s) (inb_in q1) (j := x1.toNatClampNeg) rfl ?_
      refine g_goto (tgt := 51) k_Mod_sees_25 (by decide) ?_
      exact (t_Mod_sees_51 s F rec_2 hr_2 x1 (m 249 x1.toNatClampNeg) x1 m hq e hd)
    · rw [if_neg c] at e
      refine g_aload_n k_Mod_sees_28 rfl rfl ?_
      refine p_getr k_Mod_sees_29 fl_Mod_22 rfl (sk_Mod s) (by decide) (sr_Mod_10 s) ?_
      refine g_iload_n k_Mod_sees_32 rfl rfl ?_
      refine g_iconst (v := 4) k_Mod_sees_33 rfl ?_
      refine g_iadd k_Mod_sees_34 ?_
      obtain ⟨q2, e⟩ := o_gd_ex e
      refine p_iald k_Mod_sees_35 (sa_Mod_10 s) (inb_in q2) (j := (x1 + 4).toNatClampNeg) rfl ?_
      obtain ⟨y3, u_y3, e⟩ := o_let_ex e
      refine G.vy u_y3 ?_
      refine g_iconst (v := (-1)) k_Mod_sees_36 rfl ?_
      refine g_icmp_ne (tgt := 44) k_Mod_sees_37 (by decide) (fun c => ?_) (fun c => ?_)
      · rw [if_pos c] at e
        refine g_iconst (v := 0) k_Mod_sees_40 rfl ?_
        refine g_goto (tgt := 51) k_Mod_sees_41 (by decide) ?_
        exact (t_Mod_sees_51 s F rec_2 hr_2 x1 0 x1 m hq e hd)
      · rw [if_neg c] at e
        refine g_aload_n k_Mod_sees_44 rfl rfl ?_
        refine g_iload_n k_Mod_sees_45 rfl rfl ?_
        refine g_iconst (v := 4) k_Mod_sees_46 rfl ?_
        refine g_iadd k_Mod_sees_47 ?_
        obtain ⟨y4, m5, e_y4, e⟩ := o_b2_ex e
        refine g_cv k_Mod_sees_48 lv_Mod_268 (by decide +kernel) (T := F_Mod) (N := 61) (ci := 10) rfl (sk_Mod s) (s_Mod_valueOf (bc := 0) (bs := 0) s F (x1 + 4) m e_y4 (by omega)) rfl rfl (Nat.le_of_ble_eq_true rfl) (by simp [Value.category]) (by omega) (by omega) (by omega) ?_
        exact (t_Mod_sees_51 s F rec_2 hr_2 x1 y4 x1 m5 hq e hd)
def ll_Mod_sees_2 (F : Nat) : Nat → Int32 → aM → Option (Int32 × aM)
  | 0, _, _ => none
  | N + 1, x1, m => lb_Mod_sees_2 F (ll_Mod_sees_2 F N) x1 m
theorem t_Mod_sees_2 {K : aK} {d bc bs : Nat} {g : aG} (s : SyM g) {Q : aQ} {r : Int32} {m' : aM} (F : Nat) : ∀ (N : Nat) (x1 : Int32) (m : aM), Q (.inl none) (g, m') → ll_Mod_sees_2 F N x1 m = some (r, m') → 398 ≤ d → G K M_Mod_sees d bc bs 2 [.ref 242, .int x1] [] (g, m) Q
  | 0, _, _ => fun _ e => nomatch e
  | N + 1, x1, m => fun hq e hd => tb_Mod_sees_2 s F (ll_Mod_sees_2 F N) (fun x1 m e => t_Mod_sees_2 s F N x1 m hq e hd) x1 m hq e hd
def f_Mod_sees (F : Nat)  (m : aM) : Option (Int32 × aM) :=
  ll_Mod_sees_2 F F 0 m
theorem s_Mod_sees {K : aK} {d bc bs : Nat} {g : aG} (s : SyM g) (F : Nat)  (m : aM) {r : Int32} {m' : aM} (e : f_Mod_sees F  m = some (r, m')) (hd : 398 ≤ d) : Sp K M_Mod_sees d bc bs [.ref 242] (g, m) none (g, m') := by
  refine sp_of ok_Mod_sees rfl (Nat.le_of_ble_eq_true rfl) (by simp [Value.category]) (fun Q hq => ?_)
  unfold f_Mod_sees at e
  refine g_iconst (v := 0) k_Mod_sees_0 rfl ?_
  refine g_istore_n k_Mod_sees_1 rfl (by decide) ?_
  exact (t_Mod_sees_2 s F F 0 m hq e hd)
def b_Mod_see_21 (F : Nat) (x1 : Int32) (x2 : Int32) (x3 : Int32) (x4 : Int32) (x5 : Int32) (xt0 : Int32) (m : aM) : Option (Int32 × aM) :=
  o_b2 (f_Mod_bad xt0 1 m) fun y1 m2 =>
  (if y1 = 0 then
  o_let (a_st m2 249 0 x1) fun m3 =>
  o_let (a_st m3 249 1 x2) fun m4 =>
  o_let (a_st m4 249 2 x3) fun m5 =>
  o_let (a_st m5 249 3 x4) fun m6 =>
  o_b2 (f_Mod_sees F  m6) fun y7 m8 =>
  o_gd (inb x5 4) <|
  some ((m8 251 x5.toNatClampNeg), m8)
  else
  some (0, m2)
  )
theorem t_Mod_see_21 {K : aK} {d bc bs : Nat} {g : aG} (s : SyM g) {Q : aQ} {r : Int32} {m' : aM} (F : Nat) (x1 : Int32) (x2 : Int32) (x3 : Int32) (x4 : Int32) (x5 : Int32) (xt0 : Int32) (m : aM) (hq : Q (.inl (some (.int r))) (g, m')) (e : b_Mod_see_21 F x1 x2 x3 x4 x5 xt0 m = some (r, m')) (hd : 399 ≤ d) : G K M_Mod_see d bc bs 21 [.ref 242, .int x1, .int x2, .int x3, .int x4, .int x5] [.int xt0, .ref 242] (g, m) Q := by
  unfold b_Mod_see_21 at e
  refine g_iconst (v := 1) k_Mod_see_21 rfl ?_
  obtain ⟨y1, m2, e_y1, e⟩ := o_b2_ex e
  refine g_cv k_Mod_see_22 lv_Mod_240 (by decide +kernel) (T := F_Mod) (N := 61) (ci := 10) rfl (sk_Mod s) (s_Mod_bad (bc := 0) (bs := 0) s xt0 1 m e_y1) rfl rfl (Nat.le_of_ble_eq_true rfl) (by simp [Value.category]) (by omega) (by omega) (by omega) ?_
  refine g_if_eq (tgt := 30) k_Mod_see_25 (by decide) (fun c => ?_) (fun c => ?_)
  · rw [if_pos c] at e
    refine g_aload_n k_Mod_see_30 rfl rfl ?_
    refine p_getr k_Mod_see_31 fl_Mod_34 rfl (sk_Mod s) (by decide) (sr_Mod_24 s) ?_
    refine g_iconst (v := 0) k_Mod_see_34 rfl ?_
    refine g_iload_n k_Mod_see_35 rfl rfl ?_
    refine p_iast k_Mod_see_36 (sa_Mod_24 s) (vp_in_nI (n := 0) (N := 4) (by decide) (by decide)) (j := 0) rfl ?_
    obtain ⟨m3, u_m3, e⟩ := o_let_ex e
    refine G.hm u_m3 ?_
    refine g_aload_n k_Mod_see_37 rfl rfl ?_
    refine p_getr k_Mod_see_38 fl_Mod_34 rfl (sk_Mod s) (by decide) (sr_Mod_24 s) ?_
    refine g_iconst (v := 1) k_Mod_see_41 rfl ?_
    refine g_iload_n k_Mod_see_42 rfl rfl ?_
    refine p_iast k_Mod_see_43 (sa_Mod_24 s) (vp_in_nI (n := 1) (N := 4) (by decide) (by decide)) (j := 1) rfl ?_
    obtain ⟨m4, u_m4, e⟩ := o_let_ex e
    refine G.hm u_m4 ?_
    refine g_aload_n k_Mod_see_44 rfl rfl ?_
    refine p_getr k_Mod_see_45 fl_Mod_34 rfl (sk_Mod s) (by decide) (sr_Mod_24 s) ?_
    refine g_iconst (v := 2) k_Mod_see_48 rfl ?_
    refine g_iload_n k_Mod_see_49 rfl rfl ?_
    refine p_iast k_Mod_see_50 (sa_Mod_24 s) (vp_in_nI (n := 2) (N := 4) (by decide) (by decide)) (j := 2) rfl ?_
    obtain ⟨m5, u_m5, e⟩ := o_let_ex e
    refine G.hm u_m5 ?_
    refine g_aload_n k_Mod_see_51 rfl rfl ?_
    refine p_getr k_Mod_see_52 fl_Mod_34 rfl (sk_Mod s) (by decide) (sr_Mod_24 s) ?_
    refine g_iconst (v := 3) k_Mod_see_55 rfl ?_
    refine g_iload k_Mod_see_56 rfl ?_
    refine p_iast k_Mod_see_58 (sa_Mod_24 s) (vp_in_nI (n := 3) (N := 4) (by decide) (by decide)) (j := 3) rfl ?_
    obtain ⟨m6, u_m6, e⟩ := o_let_ex e
    refine G.hm u_m6 ?_
    refine g_aload_n k_Mod_see_59 rfl rfl ?_
    obtain ⟨y7, m8, e_y7, e⟩ := o_b2_ex e
    refine g_cv k_Mod_see_60 lv_Mod_271 (by decide +kernel) (T := F_Mod) (N := 61) (ci := 10) rfl (sk_Mod s) (s_Mod_sees (bc := 0) (bs := 0) s F  m6 e_y7 (by omega)) rfl rfl (Nat.le_of_ble_eq_true rfl) (by simp [Value.category]) (by omega) (by omega) (by omega) ?_
    refine g_aload_n k_Mod_see_63 rfl rfl ?_
    refine p_getr k_Mod_see_64 fl_Mod_40 rfl (sk_Mod s) (by decide) (sr_Mod_26 s) ?_
    refine g_iload k_Mod_see_67 rfl ?_
    obtain ⟨q9, e⟩ := o_gd_ex e
    refine p_iald k_Mod_see_69 (sa_Mod_26 s) (inb_in q9) (j := x5.toNatClampNeg) rfl ?_
    refine g_iret k_Mod_see_70 rfl ?_
    exact (by cases e; exact hq)
  · rw [if_neg c] at e
    refine g_iconst (v := 0) k_Mod_see_28 rfl ?_
    refine g_iret k_Mod_see_29 rfl ?_
    exact (by cases e; exact hq)
def f_Mod_see (F : Nat) (x1 : Int32) (x2 : Int32) (x3 : Int32) (x4 : Int32) (x5 : Int32) (m : aM) : Option (Int32 × aM) :=
  o_let (a_st m 242 0 0) fun m1 =>
  o_b (f_Mod_in x5 0 3 m1) fun y2 =>
  (if y2 = 0 then
  b_Mod_see_21 F x1 x2 x3 x4 x5 1 m1
  else
  b_Mod_see_21 F x1 x2 x3 x4 x5 0 m1
  )
theorem s_Mod_see {K : aK} {d bc bs : Nat} {g : aG} (s : SyM g) (F : Nat) (x1 : Int32) (x2 : Int32) (x3 : Int32) (x4 : Int32) (x5 : Int32) (m : aM) {r : Int32} {m' : aM} (e : f_Mod_see F x1 x2 x3 x4 x5 m = some (r, m')) (hd : 399 ≤ d) : Sp K M_Mod_see d bc bs [.ref 242, .int x1, .int x2, .int x3, .int x4, .int x5] (g, m) (some (.int r)) (g, m') := by
  refine sp_of ok_Mod_see rfl (Nat.le_of_ble_eq_true rfl) (by simp [Value.category]) (fun Q hq => ?_)
  unfold f_Mod_see at e
  refine g_aload_n k_Mod_see_0 rfl rfl ?_
  refine g_iconst (v := 0) k_Mod_see_1 rfl ?_
  refine p_puti k_Mod_see_2 fl_Mod_131 rfl ⟨R_Mod, F_Mod, 61, rfl, Or.inl rfl⟩ (sk_Mod s) (by decide) ?_
  obtain ⟨m1, u_m1, e⟩ := o_let_ex e
  refine G.hm u_m1 ?_
  refine g_aload_n k_Mod_see_5 rfl rfl ?_
  refine g_iload k_Mod_see_6 rfl ?_
  refine g_iconst (v := 0) k_Mod_see_8 rfl ?_
  refine g_iconst (v := 3) k_Mod_see_9 rfl ?_
  obtain ⟨y2, e_y2, e⟩ := o_b_ex e
  refine g_cs k_Mod_see_10 ls_Mod_236 (by decide +kernel) (s_Mod_in (bc := 0) (bs := 0) s x5 0 3 m1 e_y2) rfl rfl (Nat.le_of_ble_eq_true rfl) (by simp [Value.category]) (by omega) (by omega) (by omega) ?_
  refine g_if_ne (tgt := 20) k_Mod_see_13 (by decide) (fun c => ?_) (fun c => ?_)
  · rw [if_pos c] at e
    refine g_iconst (v := 1) k_Mod_see_16 rfl ?_
    refine g_goto (tgt := 21) k_Mod_see_17 (by decide) ?_
    exact (t_Mod_see_21 s F x1 x2 x3 x4 x5 1 m1 hq e hd)
  · rw [if_neg c] at e
    refine g_iconst (v := 0) k_Mod_see_20 rfl ?_
    exact (t_Mod_see_21 s F x1 x2 x3 x4 x5 0 m1 hq e hd)
def f_Mod_isKept (x1 : Int32) (m : aM) : Option Int32 :=
  o_let ((((m 242 7) : Int32) >>> (x1 &&& 31))) fun y1 =>
  (if (y1 &&& 1) = 1 then
  some 1
  else
  some 0
  )
theorem s_Mod_isKept {K : aK} {d bc bs : Nat} {g : aG} (s : SyM g) (x1 : Int32) (m : aM) {r : Int32} (e : f_Mod_isKept x1 m = some r) : Sp K M_Mod_isKept d bc bs [.ref 242, .int x1] (g, m) (some (.int r)) (g, m) := by
  refine sp_of ok_Mod_isKept rfl (Nat.le_of_ble_eq_true rfl) (by simp [Value.category]) (fun Q hq => ?_)
  unfold f_Mod_isKept at e
  refine g_aload_n k_Mod_isKept_0 rfl rfl ?_
  refine p_geti k_Mod_isKept_1 fl_Mod_256 rfl (sk_Mod s) (by decide) ?_
  refine g_iload_n k_Mod_isKept_4 rfl rfl ?_
  refine g_ishr k_Mod_isKept_5 ?_
  obtain ⟨y1, u_y1, e⟩ := o_let_ex e
  refine G.vy u_y1 ?_
  refine g_iconst (v := 1) k_Mod_isKept_6 rfl ?_
  refine g_iand k_Mod_isKept_7 ?_
  refine g_iconst (v := 1) k_Mod_isKept_8 rfl ?_
  refine g_icmp_ne (tgt := 16) k_Mod_isKept_9 (by decide) (fun c => ?_) (fun c => ?_)
  · rw [if_pos c] at e
    refine g_iconst (v := 1) k_Mod_isKept_12 rfl ?_
    refine g_goto (tgt := 17) k_Mod_isKept_13 (by decide) ?_
    refine g_zret k_Mod_isKept_17 rfl (by decide) ?_
    exact (by cases e; exact hq)
  · rw [if_neg c] at e
    refine g_iconst (v := 0) k_Mod_isKept_16 rfl ?_
    refine g_zret k_Mod_isKept_17 rfl (by decide) ?_
    exact (by cases e; exact hq)
def b_Mod_puts_52 (F : Nat) (rec_2 : Int32 → aM → Option (Int32 × aM)) (x1 : Int32) (xt0 : Int32) (xt1 : Int32) (m : aM) : Option (Int32 × aM) :=
  o_gd (inb xt1 4) <|
  o_let (a_st m 252 xt1.toNatClampNeg xt0) fun m2 =>
  rec_2 (x1 + 1) m2
theorem t_Mod_puts_52 {K : aK} {d bc bs : Nat} {g : aG} (s : SyM g) {Q : aQ} {r : Int32} {m' : aM} (F : Nat) (rec_2 : Int32 → aM → Option (Int32 × aM)) (hr_2 : ∀ (x1 : Int32) (m : aM), rec_2 x1 m = some (r, m') → G K M_Mod_puts d bc bs 2 [.ref 242, .int x1] [] (g, m) Q) (x1 : Int32) (xt0 : Int32) (xt1 : Int32) (m : aM) (hq : Q (.inl none) (g, m')) (e : b_Mod_puts_52 F rec_2 x1 xt0 xt1 m = some (r, m')) (hd : 398 ≤ d) : G K M_Mod_puts d bc bs 52 [.ref 242, .int x1] [.int xt0, .int xt1, .ref 252] (g, m) Q := by
  unfold b_Mod_puts_52 at e
  obtain ⟨q1, e⟩ := o_gd_ex e
  refine p_iast k_Mod_puts_52 (sa_Mod_27 s) (inb_in q1) (j := xt1.toNatClampNeg) rfl ?_
  obtain ⟨m2, u_m2, e⟩ := o_let_ex e
  refine G.hm u_m2 ?_
  refine g_iinc (v := _ + 1) k_Mod_puts_53 rfl rfl (by decide) ?_
  refine g_goto (tgt := 2) k_Mod_puts_56 (by decide) ?_
  exact (hr_2 (x1 + 1) m2 e)
def lb_Mod_puts_2 (F : Nat) (rec_2 : Int32 → aM → Option (Int32 × aM)) (x1 : Int32) (m : aM) : Option (Int32 × aM) :=
  (if 4 ≤ x1 then
  some (0, m)
  else
  (if (m 242 12) = 0 then
  o_gd (inb x1 4) <|
  b_Mod_puts_52 F rec_2 x1 (m 250 x1.toNatClampNeg) x1 m
  else
  o_gd (inb x1 8) <|
  (if (m 245 x1.toNatClampNeg) = (-1) then
  o_gd (inb x1 4) <|
  b_Mod_puts_52 F rec_2 x1 (m 249 x1.toNatClampNeg) x1 m
  else
  o_b2 (f_Mod_valueOf F x1 m) fun y4 m5 =>
  b_Mod_puts_52 F rec_2 x1 y4 x1 m5
  )
  )
  )
theorem tb_Mod_puts_2 {K : aK} {d bc bs : Nat} {g : aG} (s : SyM g) {Q : aQ} {r : Int32} {m' : aM} (F : Nat) (rec_2 : Int32 → aM → Option (Int32 × aM)) (hr_2 : ∀ (x1 : Int32) (m : aM), rec_2 x1 m = some (r, m') → G K M_Mod_puts d bc bs 2 [.ref 242, .int x1] [] (g, m) Q) (x1 : Int32) (m : aM) (hq : Q (.inl none) (g, m')) (e : lb_Mod_puts_2 F rec_2 x1 m = some (r, m')) (hd : 398 ≤ d) : G K M_Mod_puts d bc bs 2 [.ref 242, .int x1] [] (g, m) Q := by
  unfold lb_Mod_puts_2 at e
  refine g_iload_n k_Mod_puts_2 rfl rfl ?_
  refine g_iconst (v := 4) k_Mod_puts_3 rfl ?_
  refine g_icmp_ge (tgt := 59) k_Mod_puts_4 (by decide) (fun c => ?_) (fun c => ?_)
  · rw [if_pos c] at e
    refine g_vret k_Mod_puts_59 rfl ?_
    exact (by cases e; exact hq)
  · rw [if_neg c] at e
    refine g_aload_n k_Mod_puts_7 rfl rfl ?_
    refine p_getr k_Mod_puts_8 fl_Mod_43 rfl (sk_Mod s) (by decide) (sr_Mod_27 s) ?_
    refine g_iload_n k_Mod_puts_11 rfl rfl ?_
    refine g_aload_n k_Mod_puts_12 rfl rfl ?_
    refine p_geti k_Mod_puts_13 fl_Mod_262 rfl (sk_Mod s) (by decide) ?_
    refine g_if_ne (tgt := 28) k_Mod_puts_16 (by decide) (fun c => ?_) (fun c => ?_)
    · rw [if_pos c] at e
      refine g_aload_n k_Mod_puts_19 rfl rfl ?_
      refine p_getr k_Mod_puts_20 fl_Mod_37 rfl (sk_Mod s) (by decide) (sr_Mod_25 s) ?_
      refine g_iload_n k_Mod_puts_23 rfl rfl ?_
      obtain ⟨q1, e⟩ := o_gd_ex e
      refine p_iald k_Mod_puts_24 (sa_Mod_25 s) (inb_in q1) (j := x1.toNatClampNeg) rfl ?_
      refine g_goto (tgt := 52) k_Mod_puts_25 (by decide) ?_
      exact (t_Mod_puts_52 s F rec_2 hr_2 x1 (m 250 x1.toNatClampNeg) x1 m hq e hd)
    · rw [if_neg c] at e
      refine g_aload_n k_Mod_puts_28 rfl rfl ?_
      refine p_getr k_Mod_puts_29 fl_Mod_22 rfl (sk_Mod s) (by decide) (sr_Mod_10 s) ?_
      refine g_iload_n k_Mod_puts_32 rfl rfl ?_
      obtain ⟨q2, e⟩ := o_gd_ex e
      refine p_iald k_Mod_puts_33 (sa_Mod_10 s) (inb_in q2) (j := x1.toNatClampNeg) rfl ?_
      refine g_iconst (v := (-1)) k_Mod_puts_34 rfl ?_
      refine g_icmp_ne (tgt := 47) k_Mod_puts_35 (by decide) (fun c => ?_) (fun c => ?_)
      · rw [if_pos c] at e
        refine g_aload_n k_Mod_puts_38 rfl rfl ?_
        refine p_getr k_Mod_puts_39 fl_Mod_34 rfl (sk_Mod s) (by decide) (sr_Mod_24 s) ?_
        refine g_iload_n k_Mod_puts_42 rfl rfl ?_
        obtain ⟨q3, e⟩ := o_gd_ex e
        refine p_iald k_Mod_puts_43 (sa_Mod_24 s) (inb_in q3) (j := x1.toNatClampNeg) rfl ?_
        refine g_goto (tgt := 52) k_Mod_puts_44 (by decide) ?_
        exact (t_Mod_puts_52 s F rec_2 hr_2 x1 (m 249 x1.toNatClampNeg) x1 m hq e hd)
      · rw [if_neg c] at e
        refine g_aload_n k_Mod_puts_47 rfl rfl ?_
        refine g_iload_n k_Mod_puts_48 rfl rfl ?_
        obtain ⟨y4, m5, e_y4, e⟩ := o_b2_ex e
        refine g_cv k_Mod_puts_49 lv_Mod_268 (by decide +kernel) (T := F_Mod) (N := 61) (ci := 10) rfl (sk_Mod s) (s_Mod_valueOf (bc := 0) (bs := 0) s F x1 m e_y4 (by omega)) rfl rfl (Nat.le_of_ble_eq_true rfl) (by simp [Value.category]) (by omega) (by omega) (by omega) ?_
        exact (t_Mod_puts_52 s F rec_2 hr_2 x1 y4 x1 m5 hq e hd)
def ll_Mod_puts_2 (F : Nat) : Nat → Int32 → aM → Option (Int32 × aM)
  | 0, _, _ => none
  | N + 1, x1, m => lb_Mod_puts_2 F (ll_Mod_puts_2 F N) x1 m
theorem t_Mod_puts_2 {K : aK} {d bc bs : Nat} {g : aG} (s : SyM g) {Q : aQ} {r : Int32} {m' : aM} (F : Nat) : ∀ (N : Nat) (x1 : Int32) (m : aM), Q (.inl none) (g, m') → ll_Mod_puts_2 F N x1 m = some (r, m') → 398 ≤ d → G K M_Mod_puts d bc bs 2 [.ref 242, .int x1] [] (g, m) Q
  | 0, _, _ => fun _ e => nomatch e
  | N + 1, x1, m => fun hq e hd => tb_Mod_puts_2 s F (ll_Mod_puts_2 F N) (fun x1 m e => t_Mod_puts_2 s F N x1 m hq e hd) x1 m hq e hd
def f_Mod_puts (F : Nat)  (m : aM) : Option (Int32 × aM) :=
  ll_Mod_puts_2 F F 0 m
theorem s_Mod_puts {K : aK} {d bc bs : Nat} {g : aG} (s : SyM g) (F : Nat)  (m : aM) {r : Int32} {m' : aM} (e : f_Mod_puts F  m = some (r, m')) (hd : 398 ≤ d) : Sp K M_Mod_puts d bc bs [.ref 242] (g, m) none (g, m') := by
  refine sp_of ok_Mod_puts rfl (Nat.le_of_ble_eq_true rfl) (by simp [Value.category]) (fun Q hq => ?_)
  unfold f_Mod_puts at e
  refine g_iconst (v := 0) k_Mod_puts_0 rfl ?_
  refine g_istore_n k_Mod_puts_1 rfl (by decide) ?_
  exact (t_Mod_puts_2 s F F 0 m hq e hd)
def b_Mod_put_89 (F : Nat) (rec_62 : Int32 → Int32 → Int32 → aM → Option (Int32 × aM)) (x5 : Int32) (x6 : Int32) (x7 : Int32) (xt0 : Int32) (xt1 : Int32) (m : aM) : Option (Int32 × aM) :=
  o_gd (inb xt1 4) <|
  o_let (a_st m 249 xt1.toNatClampNeg xt0) fun m2 =>
  rec_62 x5 x6 (x7 + 1) m2
theorem t_Mod_put_89 {K : aK} {d bc bs : Nat} {g : aG} (s : SyM g) {Q : aQ} {r : Int32} {m' : aM} (F : Nat) (rec_62 : Int32 → Int32 → Int32 → aM → Option (Int32 × aM)) (hr_62 : ∀ (x5 : Int32) (x6 : Int32) (x7 : Int32) (m : aM), rec_62 x5 x6 x7 m = some (r, m') → G K M_Mod_put d bc bs 62 [.ref 242, .double 0, .double 0, .double 0, .double 0, .int x5, .int x6, .int x7] [] (g, m) Q) (x5 : Int32) (x6 : Int32) (x7 : Int32) (xt0 : Int32) (xt1 : Int32) (m : aM) (hq : Q (.inl (some (.int r))) (g, m')) (e : b_Mod_put_89 F rec_62 x5 x6 x7 xt0 xt1 m = some (r, m')) (hd : 399 ≤ d) : G K M_Mod_put d bc bs 89 [.ref 242, .double 0, .double 0, .double 0, .double 0, .int x5, .int x6, .int x7] [.int xt0, .int xt1, .ref 249] (g, m) Q := by
  unfold b_Mod_put_89 at e
  obtain ⟨q1, e⟩ := o_gd_ex e
  refine p_iast k_Mod_put_89 (sa_Mod_24 s) (inb_in q1) (j := xt1.toNatClampNeg) rfl ?_
  obtain ⟨m2, u_m2, e⟩ := o_let_ex e
  refine G.hm u_m2 ?_
  refine g_iinc (v := _ + 1) k_Mod_put_90 rfl rfl (by decide) ?_
  refine g_goto (tgt := 62) k_Mod_put_93 (by decide) ?_
  exact (hr_62 x5 x6 (x7 + 1) m2 e)
def lb_Mod_put_62 (F : Nat) (rec_62 : Int32 → Int32 → Int32 → aM → Option (Int32 × aM)) (x5 : Int32) (x6 : Int32) (x7 : Int32) (m : aM) : Option (Int32 × aM) :=
  (if 4 ≤ x7 then
  o_b2 (f_Mod_puts F  m) fun y1 m2 =>
  o_gd (inb x6 4) <|
  some ((m2 252 x6.toNatClampNeg), m2)
  else
  o_b (f_Mod_isKept x7 m) fun y4 =>
  (if y4 = 0 then
  b_Mod_put_89 F rec_62 x5 x6 x7 0 x7 m
  else
  b_Mod_put_89 F rec_62 x5 x6 x7 x5 x7 m
  )
  )
theorem tb_Mod_put_62 {K : aK} {d bc bs : Nat} {g : aG} (s : SyM g) {Q : aQ} {r : Int32} {m' : aM} (F : Nat) (rec_62 : Int32 → Int32 → Int32 → aM → Option (Int32 × aM)) (hr_62 : ∀ (x5 : Int32) (x6 : Int32) (x7 : Int32) (m : aM), rec_62 x5 x6 x7 m = some (r, m') → G K M_Mod_put d bc bs 62 [.ref 242, .double 0, .double 0, .double 0, .double 0, .int x5, .int x6, .int x7] [] (g, m) Q) (x5 : Int32) (x6 : Int32) (x7 : Int32) (m : aM) (hq : Q (.inl (some (.int r))) (g, m')) (e : lb_Mod_put_62 F rec_62 x5 x6 x7 m = some (r, m')) (hd : 399 ≤ d) : G K M_Mod_put d bc bs 62 [.ref 242, .double 0, .double 0, .double 0, .double 0, .int x5, .int x6, .int x7] [] (g, m) Q := by
  unfold lb_Mod_put_62 at e
  refine g_iload k_Mod_put_62 rfl ?_
  refine g_iconst (v := 4) k_Mod_put_64 rfl ?_
  refine g_icmp_ge (tgt := 96) k_Mod_put_65 (by decide) (fun c => ?_) (fun c => ?_)
  · rw [if_pos c] at e
    refine g_aload_n k_Mod_put_96 rfl rfl ?_
    obtain ⟨y1, m2, e_y1, e⟩ := o_b2_ex e
    refine g_cv k_Mod_put_97 lv_Mod_277 (by decide +kernel) (T := F_Mod) (N := 61) (ci := 10) rfl (sk_Mod s) (s_Mod_puts (bc := 0) (bs := 0) s F  m e_y1 (by omega)) rfl rfl (Nat.le_of_ble_eq_true rfl) (by simp [Value.category]) (by omega) (by omega) (by omega) ?_
    refine g_aload_n k_Mod_put_100 rfl rfl ?_
    refine p_getr k_Mod_put_101 fl_Mod_43 rfl (sk_Mod s) (by decide) (sr_Mod_27 s) ?_
    refine g_iload k_Mod_put_104 rfl ?_
    obtain ⟨q3, e⟩ := o_gd_ex e
    refine p_iald k_Mod_put_106 (sa_Mod_27 s) (inb_in q3) (j := x6.toNatClampNeg) rfl ?_
    refine g_iret k_Mod_put_107 rfl ?_
    exact (by cases e; exact hq)
  · rw [if_neg c] at e
    refine g_aload_n k_Mod_put_68 rfl rfl ?_
    refine p_getr k_Mod_put_69 fl_Mod_34 rfl (sk_Mod s) (by decide) (sr_Mod_24 s) ?_
    refine g_iload k_Mod_put_72 rfl ?_
    refine g_aload_n k_Mod_put_74 rfl rfl ?_
    refine g_iload k_Mod_put_75 rfl ?_
    obtain ⟨y4, e_y4, e⟩ := o_b_ex e
    refine g_cv k_Mod_put_77 lv_Mod_274 (by decide +kernel) (T := F_Mod) (N := 61) (ci := 10) rfl (sk_Mod s) (s_Mod_isKept (bc := 0) (bs := 0) s x7 m e_y4) rfl rfl (Nat.le_of_ble_eq_true rfl) (by simp [Value.category]) (by omega) (by omega) (by omega) ?_
    refine g_if_eq (tgt := 88) k_Mod_put_80 (by decide) (fun c => ?_) (fun c => ?_)
    · rw [if_pos c] at e
      refine g_iconst (v := 0) k_Mod_put_88 rfl ?_
      exact (t_Mod_put_89 s F rec_62 hr_62 x5 x6 x7 0 x7 m hq e hd)
    · rw [if_neg c] at e
      refine g_iload k_Mod_put_83 rfl ?_
      refine g_goto (tgt := 89) k_Mod_put_85 (by decide) ?_
      exact (t_Mod_put_89 s F rec_62 hr_62 x5 x6 x7 x5 x7 m hq e hd)
def ll_Mod_put_62 (F : Nat) : Nat → Int32 → Int32 → Int32 → aM → Option (Int32 × aM)
  | 0, _, _, _, _ => none
  | N + 1, x5, x6, x7, m => lb_Mod_put_62 F (ll_Mod_put_62 F N) x5 x6 x7 m
theorem t_Mod_put_62 {K : aK} {d bc bs : Nat} {g : aG} (s : SyM g) {Q : aQ} {r : Int32} {m' : aM} (F : Nat) : ∀ (N : Nat) (x5 : Int32) (x6 : Int32) (x7 : Int32) (m : aM), Q (.inl (some (.int r))) (g, m') → ll_Mod_put_62 F N x5 x6 x7 m = some (r, m') → 399 ≤ d → G K M_Mod_put d bc bs 62 [.ref 242, .double 0, .double 0, .double 0, .double 0, .int x5, .int x6, .int x7] [] (g, m) Q
  | 0, _, _, _, _ => fun _ e => nomatch e
  | N + 1, x5, x6, x7, m => fun hq e hd => tb_Mod_put_62 s F (ll_Mod_put_62 F N) (fun x5 x6 x7 m e => t_Mod_put_62 s F N x5 x6 x7 m hq e hd) x5 x6 x7 m hq e hd
def b_Mod_put_21 (F : Nat) (x1 : Int32) (x2 : Int32) (x3 : Int32) (x4 : Int32) (x5 : Int32) (x6 : Int32) (xt0 : Int32) (m : aM) : Option (Int32 × aM) :=
  o_b2 (f_Mod_bad xt0 1 m) fun y1 m2 =>
  (if y1 = 0 then
  o_let (a_st m2 250 0 x1) fun m3 =>
  o_let (a_st m3 250 1 x2) fun m4 =>
  o_let (a_st m4 250 2 x3) fun m5 =>
  o_let (a_st m5 250 3 x4) fun m6 =>
  ll_Mod_put_62 F F x5 x6 0 m6
  else
  some (0, m2)
  )
theorem t_Mod_put_21 {K : aK} {d bc bs : Nat} {g : aG} (s : SyM g) {Q : aQ} {r : Int32} {m' : aM} (F : Nat) (x1 : Int32) (x2 : Int32) (x3 : Int32) (x4 : Int32) (x5 : Int32) (x6 : Int32) (xt0 : Int32) (m : aM) (hq : Q (.inl (some (.int r))) (g, m')) (e : b_Mod_put_21 F x1 x2 x3 x4 x5 x6 xt0 m = some (r, m')) (hd : 399 ≤ d) : G K M_Mod_put d bc bs 21 [.ref 242, .int x1, .int x2, .int x3, .int x4, .int x5, .int x6, .double 0] [.int xt0, .ref 242] (g, m) Q := by
  unfold b_Mod_put_21 at e
  refine g_iconst (v := 1) k_Mod_put_21 rfl ?_
  obtain ⟨y1, m2, e_y1, e⟩ := o_b2_ex e
  refine g_cv k_Mod_put_22 lv_Mod_240 (by decide +kernel) (T := F_Mod) (N := 61) (ci := 10) rfl (sk_Mod s) (s_Mod_bad (bc := 0) (bs := 0) s xt0 1 m e_y1) rfl rfl (Nat.le_of_ble_eq_true rfl) (by simp [Value.category]) (by omega) (by omega) (by omega) ?_
  refine g_if_eq (tgt := 30) k_Mod_put_25 (by decide) (fun c => ?_) (fun c => ?_)
  · rw [if_pos c] at e
    refine g_aload_n k_Mod_put_30 rfl rfl ?_
    refine p_getr k_Mod_put_31 fl_Mod_37 rfl (sk_Mod s) (by decide) (sr_Mod_25 s) ?_
    refine g_iconst (v := 0) k_Mod_put_34 rfl ?_
    refine g_iload_n k_Mod_put_35 rfl rfl ?_
    refine p_iast k_Mod_put_36 (sa_Mod_25 s) (vp_in_nI (n := 0) (N := 4) (by decide) (by decide)) (j := 0) rfl ?_
    obtain ⟨m3, u_m3, e⟩ := o_let_ex e
    refine G.hm u_m3 ?_
    refine g_aload_n k_Mod_put_37 rfl rfl ?_
    refine p_getr k_Mod_put_38 fl_Mod_37 rfl (sk_Mod s) (by decide) (sr_Mod_25 s) ?_
    refine g_iconst (v := 1) k_Mod_put_41 rfl ?_
    refine g_iload_n k_Mod_put_42 rfl rfl ?_
    refine p_iast k_Mod_put_43 (sa_Mod_25 s) (vp_in_nI (n := 1) (N := 4) (by decide) (by decide)) (j := 1) rfl ?_
    obtain ⟨m4, u_m4, e⟩ := o_let_ex e
    refine G.hm u_m4 ?_
    refine g_aload_n k_Mod_put_44 rfl rfl ?_
    refine p_getr k_Mod_put_45 fl_Mod_37 rfl (sk_Mod s) (by decide) (sr_Mod_25 s) ?_
    refine g_iconst (v := 2) k_Mod_put_48 rfl ?_
    refine g_iload_n k_Mod_put_49 rfl rfl ?_
    refine p_iast k_Mod_put_50 (sa_Mod_25 s) (vp_in_nI (n := 2) (N := 4) (by decide) (by decide)) (j := 2) rfl ?_
    obtain ⟨m5, u_m5, e⟩ := o_let_ex e
    refine G.hm u_m5 ?_
    refine g_aload_n k_Mod_put_51 rfl rfl ?_
    refine p_getr k_Mod_put_52 fl_Mod_37 rfl (sk_Mod s) (by decide) (sr_Mod_25 s) ?_
    refine g_iconst (v := 3) k_Mod_put_55 rfl ?_
    refine g_iload k_Mod_put_56 rfl ?_
    refine p_iast k_Mod_put_58 (sa_Mod_25 s) (vp_in_nI (n := 3) (N := 4) (by decide) (by decide)) (j := 3) rfl ?_
    obtain ⟨m6, u_m6, e⟩ := o_let_ex e
    refine G.hm u_m6 ?_
    refine g_iconst (v := 0) k_Mod_put_59 rfl ?_
    refine g_istore k_Mod_put_60 (by decide) ?_
    exact G.wl (wls (wld (wld (wld (wld (wls (wls (wls wl0)))))))) (t_Mod_put_62 s F F x5 x6 0 m6 hq e hd)
  · rw [if_neg c] at e
    refine g_iconst (v := 0) k_Mod_put_28 rfl ?_
    refine g_iret k_Mod_put_29 rfl ?_
    exact (by cases e; exact hq)
def f_Mod_put (F : Nat) (x1 : Int32) (x2 : Int32) (x3 : Int32) (x4 : Int32) (x5 : Int32) (x6 : Int32) (m : aM) : Option (Int32 × aM) :=
  o_let (a_st m 242 0 0) fun m1 =>
  o_b (f_Mod_in x6 0 3 m1) fun y2 =>
  (if y2 = 0 then
  b_Mod_put_21 F x1 x2 x3 x4 x5 x6 1 m1
  else
  b_Mod_put_21 F x1 x2 x3 x4 x5 x6 0 m1
  )
theorem s_Mod_put {K : aK} {d bc bs : Nat} {g : aG} (s : SyM g) (F : Nat) (x1 : Int32) (x2 : Int32) (x3 : Int32) (x4 : Int32) (x5 : Int32) (x6 : Int32) (m : aM) {r : Int32} {m' : aM} (e : f_Mod_put F x1 x2 x3 x4 x5 x6 m = some (r, m')) (hd : 399 ≤ d) : Sp K M_Mod_put d bc bs [.ref 242, .int x1, .int x2, .int x3, .int x4, .int x5, .int x6] (g, m) (some (.int r)) (g, m') := by
  refine sp_of ok_Mod_put rfl (Nat.le_of_ble_eq_true rfl) (by simp [Value.category]) (fun Q hq => ?_)
  unfold f_Mod_put at e
  refine g_aload_n k_Mod_put_0 rfl rfl ?_
  refine g_iconst (v := 0) k_Mod_put_1 rfl ?_
  refine p_puti k_Mod_put_2 fl_Mod_131 rfl ⟨R_Mod, F_Mod, 61, rfl, Or.inl rfl⟩ (sk_Mod s) (by decide) ?_
  obtain ⟨m1, u_m1, e⟩ := o_let_ex e
  refine G.hm u_m1 ?_
  refine g_aload_n k_Mod_put_5 rfl rfl ?_
  refine g_iload k_Mod_put_6 rfl ?_
  refine g_iconst (v := 0) k_Mod_put_8 rfl ?_
  refine g_iconst (v := 3) k_Mod_put_9 rfl ?_
  obtain ⟨y2, e_y2, e⟩ := o_b_ex e
  refine g_cs k_Mod_put_10 ls_Mod_236 (by decide +kernel) (s_Mod_in (bc := 0) (bs := 0) s x6 0 3 m1 e_y2) rfl rfl (Nat.le_of_ble_eq_true rfl) (by simp [Value.category]) (by omega) (by omega) (by omega) ?_
  refine g_if_ne (tgt := 20) k_Mod_put_13 (by decide) (fun c => ?_) (fun c => ?_)
  · rw [if_pos c] at e
    refine g_iconst (v := 1) k_Mod_put_16 rfl ?_
    refine g_goto (tgt := 21) k_Mod_put_17 (by decide) ?_
    exact (t_Mod_put_21 s F x1 x2 x3 x4 x5 x6 1 m1 hq e hd)
  · rw [if_neg c] at e
    refine g_iconst (v := 0) k_Mod_put_20 rfl ?_
    exact (t_Mod_put_21 s F x1 x2 x3 x4 x5 x6 0 m1 hq e hd)
def b_Mod_box_66 (x1 : Int32) (x2 : Int32) (x3 : Int32) (xt0 : Int32) (m : aM) : Option (Int32 × aM) :=
  o_b2 (f_Mod_bad xt0 1 m) fun y1 m2 =>
  (if y1 = 0 then
  o_gd (inb x1 4) <|
  o_let (a_st m2 253 x1.toNatClampNeg x2) fun m4 =>
  o_gd (inb x1 4) <|
  o_let (a_st m4 254 x1.toNatClampNeg x3) fun m6 =>
  some (0, m6)
  else
  some (0, m2)
  )
theorem t_Mod_box_66 {K : aK} {d bc bs : Nat} {g : aG} (s : SyM g) {Q : aQ} {r : Int32} {m' : aM} (x1 : Int32) (x2 : Int32) (x3 : Int32) (xt0 : Int32) (m : aM) (hq : Q (.inl none) (g, m')) (e : b_Mod_box_66 x1 x2 x3 xt0 m = some (r, m')) (hd : 1 ≤ d) : G K M_Mod_box d bc bs 66 [.ref 242, .int x1, .int x2, .int x3] [.int xt0, .ref 242] (g, m) Q := by
  unfold b_Mod_box_66 at e
  refine g_iconst (v := 1) k_Mod_box_66 rfl ?_
  obtain ⟨y1, m2, e_y1, e⟩ := o_b2_ex e
  refine g_cv k_Mod_box_67 lv_Mod_240 (by decide +kernel) (T := F_Mod) (N := 61) (ci := 10) rfl (sk_Mod s) (s_Mod_bad (bc := 0) (bs := 0) s xt0 1 m e_y1) rfl rfl (Nat.le_of_ble_eq_true rfl) (by simp [Value.category]) (by omega) (by omega) (by omega) ?_
  refine g_if_eq (tgt := 74) k_Mod_box_70 (by decide) (fun c => ?_) (fun c => ?_)
  · rw [if_pos c] at e
    refine g_aload_n k_Mod_box_74 rfl rfl ?_
    refine p_getr k_Mod_box_75 fl_Mod_46 rfl (sk_Mod s) (by decide) (sr_Mod_28 s) ?_
    refine g_iload_n k_Mod_box_78 rfl rfl ?_
    refine g_iload_n k_Mod_box_79 rfl rfl ?_
    obtain ⟨q3, e⟩ := o_gd_ex e
    refine p_iast k_Mod_box_80 (sa_Mod_28 s) (inb_in q3) (j := x1.toNatClampNeg) rfl ?_
    obtain ⟨m4, u_m4, e⟩ := o_let_ex e
    refine G.hm u_m4 ?_
    refine g_aload_n k_Mod_box_81 rfl rfl ?_
    refine p_getr k_Mod_box_82 fl_Mod_49 rfl (sk_Mod s) (by decide) (sr_Mod_29 s) ?_
    refine g_iload_n k_Mod_box_85 rfl rfl ?_
    refine g_iload_n k_Mod_box_86 rfl rfl ?_
    obtain ⟨q5, e⟩ := o_gd_ex e
    refine p_iast k_Mod_box_87 (sa_Mod_29 s) (inb_in q5) (j := x1.toNatClampNeg) rfl ?_
    obtain ⟨m6, u_m6, e⟩ := o_let_ex e
    refine G.hm u_m6 ?_
    refine g_vret k_Mod_box_88 rfl ?_
    exact (by cases e; exact hq)
  · rw [if_neg c] at e
    refine g_vret k_Mod_box_73 rfl ?_
    exact (by cases e; exact hq)
def b_Mod_box_44 (x1 : Int32) (x2 : Int32) (x3 : Int32) (xt0 : Int32) (m : aM) : Option (Int32 × aM) :=
  o_b2 (f_Mod_bad xt0 1 m) fun y1 m2 =>
  (if y1 = 0 then
  (if x3 ≤ (x2 + 7) then
  b_Mod_box_66 x1 x2 x3 0 m2
  else
  b_Mod_box_66 x1 x2 x3 1 m2
  )
  else
  some (0, m2)
  )
theorem t_Mod_box_44 {K : aK} {d bc bs : Nat} {g : aG} (s : SyM g) {Q : aQ} {r : Int32} {m' : aM} (x1 : Int32) (x2 : Int32) (x3 : Int32) (xt0 : Int32) (m : aM) (hq : Q (.inl none) (g, m')) (e : b_Mod_box_44 x1 x2 x3 xt0 m = some (r, m')) (hd : 1 ≤ d) : G K M_Mod_box d bc bs 44 [.ref 242, .int x1, .int x2, .int x3] [.int xt0, .ref 242] (g, m) Q := by
  unfold b_Mod_box_44 at e
  refine g_iconst (v := 1) k_Mod_box_44 rfl ?_
  obtain ⟨y1, m2, e_y1, e⟩ := o_b2_ex e
  refine g_cv k_Mod_box_45 lv_Mod_240 (by decide +kernel) (T := F_Mod) (N := 61) (ci := 10) rfl (sk_Mod s) (s_Mod_bad (bc := 0) (bs := 0) s xt0 1 m e_y1) rfl rfl (Nat.le_of_ble_eq_true rfl) (by simp [Value.category]) (by omega) (by omega) (by omega) ?_
  refine g_if_eq (tgt := 52) k_Mod_box_48 (by decide) (fun c => ?_) (fun c => ?_)
  · rw [if_pos c] at e
    refine g_aload_n k_Mod_box_52 rfl rfl ?_
    refine g_iload_n k_Mod_box_53 rfl rfl ?_
    refine g_iload_n k_Mod_box_54 rfl rfl ?_
    refine g_bipush (v := 7) k_Mod_box_55 rfl ?_
    refine g_iadd k_Mod_box_57 ?_
    refine g_icmp_le (tgt := 65) k_Mod_box_58 (by decide) (fun c => ?_) (fun c => ?_)
    · rw [if_pos c] at e
      refine g_iconst (v := 0) k_Mod_box_65 rfl ?_
      exact (t_Mod_box_66 s x1 x2 x3 0 m2 hq e hd)
    · rw [if_neg c] at e
      refine g_iconst (v := 1) k_Mod_box_61 rfl ?_
      refine g_goto (tgt := 66) k_Mod_box_62 (by decide) ?_
      exact (t_Mod_box_66 s x1 x2 x3 1 m2 hq e hd)
  · rw [if_neg c] at e
    refine g_vret k_Mod_box_51 rfl ?_
    exact (by cases e; exact hq)
def b_Mod_box_39 (x1 : Int32) (x2 : Int32) (x3 : Int32) (m : aM) : Option (Int32 × aM) :=
  b_Mod_box_44 x1 x2 x3 1 m
theorem t_Mod_box_39 {K : aK} {d bc bs : Nat} {g : aG} (s : SyM g) {Q : aQ} {r : Int32} {m' : aM} (x1 : Int32) (x2 : Int32) (x3 : Int32) (m : aM) (hq : Q (.inl none) (g, m')) (e : b_Mod_box_39 x1 x2 x3 m = some (r, m')) (hd : 1 ≤ d) : G K M_Mod_box d bc bs 39 [.ref 242, .int x1, .int x2, .int x3] [.ref 242] (g, m) Q := by
  unfold b_Mod_box_39 at e
  refine g_iconst (v := 1) k_Mod_box_39 rfl ?_
  refine g_goto (tgt := 44) k_Mod_box_40 (by decide) ?_
  exact (t_Mod_box_44 s x1 x2 x3 1 m hq e hd)
def f_Mod_box (x1 : Int32) (x2 : Int32) (x3 : Int32) (m : aM) : Option (Int32 × aM) :=
  o_let (a_st m 242 0 0) fun m1 =>
  o_b (f_Mod_in x1 0 3 m1) fun y2 =>
  (if y2 = 0 then
  b_Mod_box_39 x1 x2 x3 m1
  else
  o_b (f_Mod_in x2 (-999) 999 m1) fun y3 =>
  (if y3 = 0 then
  b_Mod_box_39 x1 x2 x3 m1
  else
  o_b (f_Mod_in x3 x2 999 m1) fun y4 =>
  (if y4 = 0 then
  b_Mod_box_39 x1 x2 x3 m1
  else
  b_Mod_box_44 x1 x2 x3 0 m1
  )
  )
  )
theorem s_Mod_box {K : aK} {d bc bs : Nat} {g : aG} (s : SyM g) (x1 : Int32) (x2 : Int32) (x3 : Int32) (m : aM) {r : Int32} {m' : aM} (e : f_Mod_box x1 x2 x3 m = some (r, m')) (hd : 1 ≤ d) : Sp K M_Mod_box d bc bs [.ref 242, .int x1, .int x2, .int x3] (g, m) none (g, m') := by
  refine sp_of ok_Mod_box rfl (Nat.le_of_ble_eq_true rfl) (by simp [Value.category]) (fun Q hq => ?_)
  unfold f_Mod_box at e
  refine g_aload_n k_Mod_box_0 rfl rfl ?_
  refine g_iconst (v := 0) k_Mod_box_1 rfl ?_
  refine p_puti k_Mod_box_2 fl_Mod_131 rfl ⟨R_Mod, F_Mod, 61, rfl, Or.inl rfl⟩ (sk_Mod s) (by decide) ?_
  obtain ⟨m1, u_m1, e⟩ := o_let_ex e
  refine G.hm u_m1 ?_
  refine g_aload_n k_Mod_box_5 rfl rfl ?_
  refine g_iload_n k_Mod_box_6 rfl rfl ?_
  refine g_iconst (v := 0) k_Mod_box_7 rfl ?_
  refine g_iconst (v := 3) k_Mod_box_8 rfl ?_
  obtain ⟨y2, e_y2, e⟩ := o_b_ex e
  refine g_cs k_Mod_box_9 ls_Mod_236 (by decide +kernel) (s_Mod_in (bc := 0) (bs := 0) s x1 0 3 m1 e_y2) rfl rfl (Nat.le_of_ble_eq_true rfl) (by simp [Value.category]) (by omega) (by omega) (by omega) ?_
  refine g_if_eq (tgt := 39) k_Mod_box_12 (by decide) (fun c => ?_) (fun c => ?_)
  · rw [if_pos c] at e
    exact (t_Mod_box_39 s x1 x2 x3 m1 hq e hd)
  · rw [if_neg c] at e
    refine g_iload_n k_Mod_box_15 rfl rfl ?_
    refine g_sipush (v := (-999)) k_Mod_box_16 rfl ?_
    refine g_sipush (v := 999) k_Mod_box_19 rfl ?_
    obtain ⟨y3, e_y3, e⟩ := o_b_ex e
    refine g_cs k_Mod_box_22 ls_Mod_236 (by decide +kernel) (s_Mod_in (bc := 0) (bs := 0) s x2 (-999) 999 m1 e_y3) rfl rfl (Nat.le_of_ble_eq_true rfl) (by simp [Value.category]) (by omega) (by omega) (by omega) ?_
    refine g_if_eq (tgt := 39) k_Mod_box_25 (by decide) (fun c => ?_) (fun c => ?_)
    · rw [if_pos c] at e
      exact (t_Mod_box_39 s x1 x2 x3 m1 hq e hd)
    · rw [if_neg c] at e
      refine g_iload_n k_Mod_box_28 rfl rfl ?_
      refine g_iload_n k_Mod_box_29 rfl rfl ?_
      refine g_sipush (v := 999) k_Mod_box_30 rfl ?_
      obtain ⟨y4, e_y4, e⟩ := o_b_ex e
      refine g_cs k_Mod_box_33 ls_Mod_236 (by decide +kernel) (s_Mod_in (bc := 0) (bs := 0) s x3 x2 999 m1 e_y4) rfl rfl (Nat.le_of_ble_eq_true rfl) (by simp [Value.category]) (by omega) (by omega) (by omega) ?_
      refine g_if_ne (tgt := 43) k_Mod_box_36 (by decide) (fun c => ?_) (fun c => ?_)
      · rw [if_pos c] at e
        exact (t_Mod_box_39 s x1 x2 x3 m1 hq e hd)
      · rw [if_neg c] at e
        refine g_iconst (v := 0) k_Mod_box_43 rfl ?_
        exact (t_Mod_box_44 s x1 x2 x3 0 m1 hq e hd)
def lb_Mod_begin_2 (F : Nat) (rec_2 : Int32 → aM → Option (Int32 × aM)) (x1 : Int32) (m : aM) : Option (Int32 × aM) :=
  (if 4 ≤ x1 then
  some (0, m)
  else
  o_gd (inb x1 4) <|
  o_gd (inb x1 4) <|
  o_let (a_st m 255 x1.toNatClampNeg (m 253 x1.toNatClampNeg)) fun m3 =>
  rec_2 (x1 + 1) m3
  )
theorem tb_Mod_begin_2 {K : aK} {d bc bs : Nat} {g : aG} (s : SyM g) {Q : aQ} {r : Int32} {m' : aM} (F : Nat) (rec_2 : Int32 → aM → Option (Int32 × aM)) (hr_2 : ∀ (x1 : Int32) (m : aM), rec_2 x1 m = some (r, m') → G K M_Mod_begin d bc bs 2 [.ref 242, .int x1] [] (g, m) Q) (x1 : Int32) (m : aM) (hq : Q (.inl none) (g, m')) (e : lb_Mod_begin_2 F rec_2 x1 m = some (r, m')) : G K M_Mod_begin d bc bs 2 [.ref 242, .int x1] [] (g, m) Q := by
  unfold lb_Mod_begin_2 at e
  refine g_iload_n k_Mod_begin_2 rfl rfl ?_
  refine g_iconst (v := 4) k_Mod_begin_3 rfl ?_
  refine g_icmp_ge (tgt := 25) k_Mod_begin_4 (by decide) (fun c => ?_) (fun c => ?_)
  · rw [if_pos c] at e
    refine g_vret k_Mod_begin_25 rfl ?_
    exact (by cases e; exact hq)
  · rw [if_neg c] at e
    refine g_aload_n k_Mod_begin_7 rfl rfl ?_
    refine p_getr k_Mod_begin_8 fl_Mod_52 rfl (sk_Mod s) (by decide) (sr_Mod_30 s) ?_
    refine g_iload_n k_Mod_begin_11 rfl rfl ?_
    refine g_aload_n k_Mod_begin_12 rfl rfl ?_
    refine p_getr k_Mod_begin_13 fl_Mod_46 rfl (sk_Mod s) (by decide) (sr_Mod_28 s) ?_
    refine g_iload_n k_Mod_begin_16 rfl rfl ?_
    obtain ⟨q1, e⟩ := o_gd_ex e
    refine p_iald k_Mod_begin_17 (sa_Mod_28 s) (inb_in q1) (j := x1.toNatClampNeg) rfl ?_
    obtain ⟨q2, e⟩ := o_gd_ex e
    refine p_iast k_Mod_begin_18 (sa_Mod_30 s) (inb_in q2) (j := x1.toNatClampNeg) rfl ?_
    obtain ⟨m3, u_m3, e⟩ := o_let_ex e
    refine G.hm u_m3 ?_
    refine g_iinc (v := _ + 1) k_Mod_begin_19 rfl rfl (by decide) ?_
    refine g_goto (tgt := 2) k_Mod_begin_22 (by decide) ?_
    exact (hr_2 (x1 + 1) m3 e)
def ll_Mod_begin_2 (F : Nat) : Nat → Int32 → aM → Option (Int32 × aM)
  | 0, _, _ => none
  | N + 1, x1, m => lb_Mod_begin_2 F (ll_Mod_begin_2 F N) x1 m
theorem t_Mod_begin_2 {K : aK} {d bc bs : Nat} {g : aG} (s : SyM g) {Q : aQ} {r : Int32} {m' : aM} (F : Nat) : ∀ (N : Nat) (x1 : Int32) (m : aM), Q (.inl none) (g, m') → ll_Mod_begin_2 F N x1 m = some (r, m') → G K M_Mod_begin d bc bs 2 [.ref 242, .int x1] [] (g, m) Q
  | 0, _, _ => fun _ e => nomatch e
  | N + 1, x1, m => fun hq e => tb_Mod_begin_2 s F (ll_Mod_begin_2 F N) (fun x1 m e => t_Mod_begin_2 s F N x1 m hq e) x1 m hq e
def f_Mod_begin (F : Nat)  (m : aM) : Option (Int32 × aM) :=
  ll_Mod_begin_2 F F 0 m
theorem s_Mod_begin {K : aK} {d bc bs : Nat} {g : aG} (s : SyM g) (F : Nat)  (m : aM) {r : Int32} {m' : aM} (e : f_Mod_begin F  m = some (r, m')) : Sp K M_Mod_begin d bc bs [.ref 242] (g, m) none (g, m') := by
  refine sp_of ok_Mod_begin rfl (Nat.le_of_ble_eq_true rfl) (by simp [Value.category]) (fun Q hq => ?_)
  unfold f_Mod_begin at e
  refine g_iconst (v := 0) k_Mod_begin_0 rfl ?_
  refine g_istore_n k_Mod_begin_1 rfl (by decide) ?_
  exact (t_Mod_begin_2 s F F 0 m hq e)
def b_Mod_seesRow_59 (F : Nat) (rec_31 : Int32 → aM → Option (Int32 × aM)) (x1 : Int32) (xt0 : Int32) (xt1 : Int32) (m : aM) : Option (Int32 × aM) :=
  o_gd (inb xt1 4) <|
  o_let (a_st m 256 xt1.toNatClampNeg xt0) fun m2 =>
  rec_31 (x1 + 1) m2
theorem t_Mod_seesRow_59 {K : aK} {d bc bs : Nat} {g : aG} (s : SyM g) {Q : aQ} {r : Int32} {m' : aM} (F : Nat) (rec_31 : Int32 → aM → Option (Int32 × aM)) (hr_31 : ∀ (x1 : Int32) (m : aM), rec_31 x1 m = some (r, m') → G K M_Mod_seesRow d bc bs 31 [.ref 242, .int x1] [] (g, m) Q) (x1 : Int32) (xt0 : Int32) (xt1 : Int32) (m : aM) (hq : Q (.inl none) (g, m')) (e : b_Mod_seesRow_59 F rec_31 x1 xt0 xt1 m = some (r, m')) (hd : 399 ≤ d) : G K M_Mod_seesRow d bc bs 59 [.ref 242, .int x1] [.int xt0, .int xt1, .ref 256] (g, m) Q := by
  unfold b_Mod_seesRow_59 at e
  obtain ⟨q1, e⟩ := o_gd_ex e
  refine p_iast k_Mod_seesRow_59 (sa_Mod_31 s) (inb_in q1) (j := xt1.toNatClampNeg) rfl ?_
  obtain ⟨m2, u_m2, e⟩ := o_let_ex e
  refine G.hm u_m2 ?_
  refine g_iinc (v := _ + 1) k_Mod_seesRow_60 rfl rfl (by decide) ?_
  refine g_goto (tgt := 31) k_Mod_seesRow_63 (by decide) ?_
  exact (hr_31 (x1 + 1) m2 e)
def lb_Mod_seesRow_31 (F : Nat) (rec_31 : Int32 → aM → Option (Int32 × aM)) (x1 : Int32) (m : aM) : Option (Int32 × aM) :=
  (if 4 ≤ x1 then
  some (0, m)
  else
  o_b (f_Mod_isKept x1 m) fun y1 =>
  (if y1 = 0 then
  b_Mod_seesRow_59 F rec_31 x1 0 x1 m
  else
  o_gd (inb x1 4) <|
  b_Mod_seesRow_59 F rec_31 x1 (m 255 x1.toNatClampNeg) x1 m
  )
  )
theorem tb_Mod_seesRow_31 {K : aK} {d bc bs : Nat} {g : aG} (s : SyM g) {Q : aQ} {r : Int32} {m' : aM} (F : Nat) (rec_31 : Int32 → aM → Option (Int32 × aM)) (hr_31 : ∀ (x1 : Int32) (m : aM), rec_31 x1 m = some (r, m') → G K M_Mod_seesRow d bc bs 31 [.ref 242, .int x1] [] (g, m) Q) (x1 : Int32) (m : aM) (hq : Q (.inl none) (g, m')) (e : lb_Mod_seesRow_31 F rec_31 x1 m = some (r, m')) (hd : 399 ≤ d) : G K M_Mod_seesRow d bc bs 31 [.ref 242, .int x1] [] (g, m) Q := by
  unfold lb_Mod_seesRow_31 at e
  refine g_iload_n k_Mod_seesRow_31 rfl rfl ?_
  refine g_iconst (v := 4) k_Mod_seesRow_32 rfl ?_
  refine g_icmp_ge (tgt := 66) k_Mod_seesRow_33 (by decide) (fun c => ?_) (fun c => ?_)
  · rw [if_pos c] at e
    refine g_vret k_Mod_seesRow_66 rfl ?_
    exact (by cases e; exact hq)
  · rw [if_neg c] at e
    refine g_aload_n k_Mod_seesRow_36 rfl rfl ?_
    refine p_getr k_Mod_seesRow_37 fl_Mod_55 rfl (sk_Mod s) (by decide) (sr_Mod_31 s) ?_
    refine g_iload_n k_Mod_seesRow_40 rfl rfl ?_
    refine g_aload_n k_Mod_seesRow_41 rfl rfl ?_
    refine g_iload_n k_Mod_seesRow_42 rfl rfl ?_
    obtain ⟨y1, e_y1, e⟩ := o_b_ex e
    refine g_cv k_Mod_seesRow_43 lv_Mod_274 (by decide +kernel) (T := F_Mod) (N := 61) (ci := 10) rfl (sk_Mod s) (s_Mod_isKept (bc := 0) (bs := 0) s x1 m e_y1) rfl rfl (Nat.le_of_ble_eq_true rfl) (by simp [Value.category]) (by omega) (by omega) (by omega) ?_
    refine g_if_eq (tgt := 58) k_Mod_seesRow_46 (by decide) (fun c => ?_) (fun c => ?_)
    · rw [if_pos c] at e
      refine g_iconst (v := 0) k_Mod_seesRow_58 rfl ?_
      exact (t_Mod_seesRow_59 s F rec_31 hr_31 x1 0 x1 m hq e hd)
    · rw [if_neg c] at e
      refine g_aload_n k_Mod_seesRow_49 rfl rfl ?_
      refine p_getr k_Mod_seesRow_50 fl_Mod_52 rfl (sk_Mod s) (by decide) (sr_Mod_30 s) ?_
      refine g_iload_n k_Mod_seesRow_53 rfl rfl ?_
      obtain ⟨q2, e⟩ := o_gd_ex e
      refine p_iald k_Mod_seesRow_54 (sa_Mod_30 s) (inb_in q2) (j := x1.toNatClampNeg) rfl ?_
      refine g_goto (tgt := 59) k_Mod_seesRow_55 (by decide) ?_
      exact (t_Mod_seesRow_59 s F rec_31 hr_31 x1 (m 255 x1.toNatClampNeg) x1 m hq e hd)
def ll_Mod_seesRow_31 (F : Nat) : Nat → Int32 → aM → Option (Int32 × aM)
  | 0, _, _ => none
  | N + 1, x1, m => lb_Mod_seesRow_31 F (ll_Mod_seesRow_31 F N) x1 m
theorem t_Mod_seesRow_31 {K : aK} {d bc bs : Nat} {g : aG} (s : SyM g) {Q : aQ} {r : Int32} {m' : aM} (F : Nat) : ∀ (N : Nat) (x1 : Int32) (m : aM), Q (.inl none) (g, m') → ll_Mod_seesRow_31 F N x1 m = some (r, m') → 399 ≤ d → G K M_Mod_seesRow d bc bs 31 [.ref 242, .int x1] [] (g, m) Q
  | 0, _, _ => fun _ e => nomatch e
  | N + 1, x1, m => fun hq e hd => tb_Mod_seesRow_31 s F (ll_Mod_seesRow_31 F N) (fun x1 m e => t_Mod_seesRow_31 s F N x1 m hq e hd) x1 m hq e hd
def lb_Mod_seesRow_2 (F : Nat) (rec_2 : Int32 → aM → Option (Int32 × aM)) (x1 : Int32) (m : aM) : Option (Int32 × aM) :=
  (if 4 ≤ x1 then
  o_b2 (f_Mod_sees F  m) fun y1 m2 =>
  ll_Mod_seesRow_31 F F 0 m2
  else
  o_gd (inb x1 4) <|
  o_gd (inb x1 4) <|
  o_let (a_st m 249 x1.toNatClampNeg (m 255 x1.toNatClampNeg)) fun m5 =>
  rec_2 (x1 + 1) m5
  )
theorem tb_Mod_seesRow_2 {K : aK} {d bc bs : Nat} {g : aG} (s : SyM g) {Q : aQ} {r : Int32} {m' : aM} (F : Nat) (rec_2 : Int32 → aM → Option (Int32 × aM)) (hr_2 : ∀ (x1 : Int32) (m : aM), rec_2 x1 m = some (r, m') → G K M_Mod_seesRow d bc bs 2 [.ref 242, .int x1] [] (g, m) Q) (x1 : Int32) (m : aM) (hq : Q (.inl none) (g, m')) (e : lb_Mod_seesRow_2 F rec_2 x1 m = some (r, m')) (hd : 399 ≤ d) : G K M_Mod_seesRow d bc bs 2 [.ref 242, .int x1] [] (g, m) Q := by
  unfold lb_Mod_seesRow_2 at e
  refine g_iload_n k_Mod_seesRow_2 rfl rfl ?_
  refine g_iconst (v := 4) k_Mod_seesRow_3 rfl ?_
  refine g_icmp_ge (tgt := 25) k_Mod_seesRow_4 (by decide) (fun c => ?_) (fun c => ?_)
  · rw [if_pos c] at e
    refine g_aload_n k_Mod_seesRow_25 rfl rfl ?_
    obtain ⟨y1, m2, e_y1, e⟩ := o_b2_ex e
    refine g_cv k_Mod_seesRow_26 lv_Mod_271 (by decide +kernel) (T := F_Mod) (N := 61) (ci := 10) rfl (sk_Mod s) (s_Mod_sees (bc := 0) (bs := 0) s F  m e_y1 (by omega)) rfl rfl (Nat.le_of_ble_eq_true rfl) (by simp [Value.category]) (by omega) (by omega) (by omega) ?_
    refine g_iconst (v := 0) k_Mod_seesRow_29 rfl ?_
    refine g_istore_n k_Mod_seesRow_30 rfl (by decide) ?_
    exact (t_Mod_seesRow_31 s F F 0 m2 hq e hd)
  · rw [if_neg c] at e
    refine g_aload_n k_Mod_seesRow_7 rfl rfl ?_
    refine p_getr k_Mod_seesRow_8 fl_Mod_34 rfl (sk_Mod s) (by decide) (sr_Mod_24 s) ?_
    refine g_iload_n k_Mod_seesRow_11 rfl rfl ?_
    refine g_aload_n k_Mod_seesRow_12 rfl rfl ?_
    refine p_getr k_Mod_seesRow_13 fl_Mod_52 rfl (sk_Mod s) (by decide) (sr_Mod_30 s) ?_
    refine g_iload_n k_Mod_seesRow_16 rfl rfl ?_
    obtain ⟨q3, e⟩ := o_gd_ex e
    refine p_iald k_Mod_seesRow_17 (sa_Mod_30 s) (inb_in q3) (j := x1.toNatClampNeg) rfl ?_
    obtain ⟨q4, e⟩ := o_gd_ex e
    refine p_iast k_Mod_seesRow_18 (sa_Mod_24 s) (inb_in q4) (j := x1.toNatClampNeg) rfl ?_
    obtain ⟨m5, u_m5, e⟩ := o_let_ex e
    refine G.hm u_m5 ?_
    refine g_iinc (v := _ + 1) k_Mod_seesRow_19 rfl rfl (by decide) ?_
    refine g_goto (tgt := 2) k_Mod_seesRow_22 (by decide) ?_
    exact (hr_2 (x1 + 1) m5 e)
def ll_Mod_seesRow_2 (F : Nat) : Nat → Int32 → aM → Option (Int32 × aM)
  | 0, _, _ => none
  | N + 1, x1, m => lb_Mod_seesRow_2 F (ll_Mod_seesRow_2 F N) x1 m
theorem t_Mod_seesRow_2 {K : aK} {d bc bs : Nat} {g : aG} (s : SyM g) {Q : aQ} {r : Int32} {m' : aM} (F : Nat) : ∀ (N : Nat) (x1 : Int32) (m : aM), Q (.inl none) (g, m') → ll_Mod_seesRow_2 F N x1 m = some (r, m') → 399 ≤ d → G K M_Mod_seesRow d bc bs 2 [.ref 242, .int x1] [] (g, m) Q
  | 0, _, _ => fun _ e => nomatch e
  | N + 1, x1, m => fun hq e hd => tb_Mod_seesRow_2 s F (ll_Mod_seesRow_2 F N) (fun x1 m e => t_Mod_seesRow_2 s F N x1 m hq e hd) x1 m hq e hd
def f_Mod_seesRow (F : Nat)  (m : aM) : Option (Int32 × aM) :=
  ll_Mod_seesRow_2 F F 0 m
theorem s_Mod_seesRow {K : aK} {d bc bs : Nat} {g : aG} (s : SyM g) (F : Nat)  (m : aM) {r : Int32} {m' : aM} (e : f_Mod_seesRow F  m = some (r, m')) (hd : 399 ≤ d) : Sp K M_Mod_seesRow d bc bs [.ref 242] (g, m) none (g, m') := by
  refine sp_of ok_Mod_seesRow rfl (Nat.le_of_ble_eq_true rfl) (by simp [Value.category]) (fun Q hq => ?_)
  unfold f_Mod_seesRow at e
  refine g_iconst (v := 0) k_Mod_seesRow_0 rfl ?_
  refine g_istore_n k_Mod_seesRow_1 rfl (by decide) ?_
  exact (t_Mod_seesRow_2 s F F 0 m hq e hd)
def lb_Mod_agreesAt_112 (F : Nat) (rec_112 : Int32 → aM → Option (Int32 × aM)) (x2 : Int32) (m : aM) : Option (Int32 × aM) :=
  (if 4 ≤ x2 then
  some (1, m)
  else
  o_gd (inb x2 4) <|
  o_gd (inb x2 4) <|
  (if (m 251 x2.toNatClampNeg) = (m 250 x2.toNatClampNeg) then
  rec_112 (x2 + 1) m
  else
  some (0, m)
  )
  )
theorem tb_Mod_agreesAt_112 {K : aK} {d bc bs : Nat} {g : aG} (s : SyM g) {Q : aQ} {r : Int32} {m' : aM} (F : Nat) (rec_112 : Int32 → aM → Option (Int32 × aM)) (hr_112 : ∀ (x2 : Int32) (m : aM), rec_112 x2 m = some (r, m') → G K M_Mod_agreesAt d bc bs 112 [.ref 242, .double 0, .int x2] [] (g, m) Q) (x2 : Int32) (m : aM) (hq : Q (.inl (some (.int r))) (g, m')) (e : lb_Mod_agreesAt_112 F rec_112 x2 m = some (r, m')) (hd : 400 ≤ d) : G K M_Mod_agreesAt d bc bs 112 [.ref 242, .double 0, .int x2] [] (g, m) Q := by
  unfold lb_Mod_agreesAt_112 at e
  refine g_iload_n k_Mod_agreesAt_112 rfl rfl ?_
  refine g_iconst (v := 4) k_Mod_agreesAt_113 rfl ?_
  refine g_icmp_ge (tgt := 140) k_Mod_agreesAt_114 (by decide) (fun c => ?_) (fun c => ?_)
  · rw [if_pos c] at e
    refine g_iconst (v := 1) k_Mod_agreesAt_140 rfl ?_
    refine g_zret k_Mod_agreesAt_141 rfl (by decide) ?_
    exact (by cases e; exact hq)
  · rw [if_neg c] at e
    refine g_aload_n k_Mod_agreesAt_117 rfl rfl ?_
    refine p_getr k_Mod_agreesAt_118 fl_Mod_40 rfl (sk_Mod s) (by decide) (sr_Mod_26 s) ?_
    refine g_iload_n k_Mod_agreesAt_121 rfl rfl ?_
    obtain ⟨q1, e⟩ := o_gd_ex e
    refine p_iald k_Mod_agreesAt_122 (sa_Mod_26 s) (inb_in q1) (j := x2.toNatClampNeg) rfl ?_
    refine g_aload_n k_Mod_agreesAt_123 rfl rfl ?_
    refine p_getr k_Mod_agreesAt_124 fl_Mod_37 rfl (sk_Mod s) (by decide) (sr_Mod_25 s) ?_
    refine g_iload_n k_Mod_agreesAt_127 rfl rfl ?_
    obtain ⟨q2, e⟩ := o_gd_ex e
    refine p_iald k_Mod_agreesAt_128 (sa_Mod_25 s) (inb_in q2) (j := x2.toNatClampNeg) rfl ?_
    refine g_icmp_eq (tgt := 134) k_Mod_agreesAt_129 (by decide) (fun c => ?_) (fun c => ?_)
    · rw [if_pos c] at e
      refine g_iinc (v := _ + 1) k_Mod_agreesAt_134 rfl rfl (by decide) ?_
      refine g_goto (tgt := 112) k_Mod_agreesAt_137 (by decide) ?_
      exact (hr_112 (x2 + 1) m e)
    · rw [if_neg c] at e
      refine g_iconst (v := 0) k_Mod_agreesAt_132 rfl ?_
      refine g_zret k_Mod_agreesAt_133 rfl (by decide) ?_
      exact (by cases e; exact hq)
def ll_Mod_agreesAt_112 (F : Nat) : Nat → Int32 → aM → Option (Int32 × aM)
  | 0, _, _ => none
  | N + 1, x2, m => lb_Mod_agreesAt_112 F (ll_Mod_agreesAt_112 F N) x2 m
theorem t_Mod_agreesAt_112 {K : aK} {d bc bs : Nat} {g : aG} (s : SyM g) {Q : aQ} {r : Int32} {m' : aM} (F : Nat) : ∀ (N : Nat) (x2 : Int32) (m : aM), Q (.inl (some (.int r))) (g, m') → ll_Mod_agreesAt_112 F N x2 m = some (r, m') → 400 ≤ d → G K M_Mod_agreesAt d bc bs 112 [.ref 242, .double 0, .int x2] [] (g, m) Q
  | 0, _, _ => fun _ e => nomatch e
  | N + 1, x2, m => fun hq e hd => tb_Mod_agreesAt_112 s F (ll_Mod_agreesAt_112 F N) (fun x2 m e => t_Mod_agreesAt_112 s F N x2 m hq e hd) x2 m hq e hd
def lb_Mod_agreesAt_83 (F : Nat) (rec_83 : Int32 → aM → Option (Int32 × aM)) (x2 : Int32) (m : aM) : Option (Int32 × aM) :=
  (if 4 ≤ x2 then
  o_b2 (f_Mod_sees F  m) fun y1 m2 =>
  ll_Mod_agreesAt_112 F F 0 m2
  else
  o_gd (inb x2 4) <|
  o_gd (inb x2 4) <|
  o_let (a_st m 249 x2.toNatClampNeg (m 252 x2.toNatClampNeg)) fun m5 =>
  rec_83 (x2 + 1) m5
  )
theorem tb_Mod_agreesAt_83 {K : aK} {d bc bs : Nat} {g : aG} (s : SyM g) {Q : aQ} {r : Int32} {m' : aM} (F : Nat) (rec_83 : Int32 → aM → Option (Int32 × aM)) (hr_83 : ∀ (x2 : Int32) (m : aM), rec_83 x2 m = some (r, m') → G K M_Mod_agreesAt d bc bs 83 [.ref 242, .double 0, .int x2] [] (g, m) Q) (x2 : Int32) (m : aM) (hq : Q (.inl (some (.int r))) (g, m')) (e : lb_Mod_agreesAt_83 F rec_83 x2 m = some (r, m')) (hd : 400 ≤ d) : G K M_Mod_agreesAt d bc bs 83 [.ref 242, .double 0, .int x2] [] (g, m) Q := by
  unfold lb_Mod_agreesAt_83 at e
  refine g_iload_n k_Mod_agreesAt_83 rfl rfl ?_
  refine g_iconst (v := 4) k_Mod_agreesAt_84 rfl ?_
  refine g_icmp_ge (tgt := 106) k_Mod_agreesAt_85 (by decide) (fun c => ?_) (fun c => ?_)
  · rw [if_pos c] at e
    refine g_aload_n k_Mod_agreesAt_106 rfl rfl ?_
    obtain ⟨y1, m2, e_y1, e⟩ := o_b2_ex e
    refine g_cv k_Mod_agreesAt_107 lv_Mod_271 (by decide +kernel) (T := F_Mod) (N := 61) (ci := 10) rfl (sk_Mod s) (s_Mod_sees (bc := 0) (bs := 0) s F  m e_y1 (by omega)) rfl rfl (Nat.le_of_ble_eq_true rfl) (by simp [Value.category]) (by omega) (by omega) (by omega) ?_
    refine g_iconst (v := 0) k_Mod_agreesAt_110 rfl ?_
    refine g_istore_n k_Mod_agreesAt_111 rfl (by decide) ?_
    exact (t_Mod_agreesAt_112 s F F 0 m2 hq e hd)
  · rw [if_neg c] at e
    refine g_aload_n k_Mod_agreesAt_88 rfl rfl ?_
    refine p_getr k_Mod_agreesAt_89 fl_Mod_34 rfl (sk_Mod s) (by decide) (sr_Mod_24 s) ?_
    refine g_iload_n k_Mod_agreesAt_92 rfl rfl ?_
    refine g_aload_n k_Mod_agreesAt_93 rfl rfl ?_
    refine p_getr k_Mod_agreesAt_94 fl_Mod_43 rfl (sk_Mod s) (by decide) (sr_Mod_27 s) ?_
    refine g_iload_n k_Mod_agreesAt_97 rfl rfl ?_
    obtain ⟨q3, e⟩ := o_gd_ex e
    refine p_iald k_Mod_agreesAt_98 (sa_Mod_27 s) (inb_in q3) (j := x2.toNatClampNeg) rfl ?_
    obtain ⟨q4, e⟩ := o_gd_ex e
    refine p_iast k_Mod_agreesAt_99 (sa_Mod_24 s) (inb_in q4) (j := x2.toNatClampNeg) rfl ?_
    obtain ⟨m5, u_m5, e⟩ := o_let_ex e
    refine G.hm u_m5 ?_
    refine g_iinc (v := _ + 1) k_Mod_agreesAt_100 rfl rfl (by decide) ?_
    refine g_goto (tgt := 83) k_Mod_agreesAt_103 (by decide) ?_
    exact (hr_83 (x2 + 1) m5 e)
def ll_Mod_agreesAt_83 (F : Nat) : Nat → Int32 → aM → Option (Int32 × aM)
  | 0, _, _ => none
  | N + 1, x2, m => lb_Mod_agreesAt_83 F (ll_Mod_agreesAt_83 F N) x2 m
theorem t_Mod_agreesAt_83 {K : aK} {d bc bs : Nat} {g : aG} (s : SyM g) {Q : aQ} {r : Int32} {m' : aM} (F : Nat) : ∀ (N : Nat) (x2 : Int32) (m : aM), Q (.inl (some (.int r))) (g, m') → ll_Mod_agreesAt_83 F N x2 m = some (r, m') → 400 ≤ d → G K M_Mod_agreesAt d bc bs 83 [.ref 242, .double 0, .int x2] [] (g, m) Q
  | 0, _, _ => fun _ e => nomatch e
  | N + 1, x2, m => fun hq e hd => tb_Mod_agreesAt_83 s F (ll_Mod_agreesAt_83 F N) (fun x2 m e => t_Mod_agreesAt_83 s F N x2 m hq e hd) x2 m hq e hd
def lb_Mod_agreesAt_51 (F : Nat) (rec_51 : Int32 → aM → Option (Int32 × aM)) (x2 : Int32) (m : aM) : Option (Int32 × aM) :=
  (if 4 ≤ x2 then
  some (1, m)
  else
  o_gd (inb x2 4) <|
  o_gd (inb x2 4) <|
  (if (m 252 x2.toNatClampNeg) = (m 255 x2.toNatClampNeg) then
  rec_51 (x2 + 1) m
  else
  some (0, m)
  )
  )
theorem tb_Mod_agreesAt_51 {K : aK} {d bc bs : Nat} {g : aG} (s : SyM g) {Q : aQ} {r : Int32} {m' : aM} (F : Nat) (rec_51 : Int32 → aM → Option (Int32 × aM)) (hr_51 : ∀ (x2 : Int32) (m : aM), rec_51 x2 m = some (r, m') → G K M_Mod_agreesAt d bc bs 51 [.ref 242, .double 0, .int x2] [] (g, m) Q) (x2 : Int32) (m : aM) (hq : Q (.inl (some (.int r))) (g, m')) (e : lb_Mod_agreesAt_51 F rec_51 x2 m = some (r, m')) (hd : 400 ≤ d) : G K M_Mod_agreesAt d bc bs 51 [.ref 242, .double 0, .int x2] [] (g, m) Q := by
  unfold lb_Mod_agreesAt_51 at e
  refine g_iload_n k_Mod_agreesAt_51 rfl rfl ?_
  refine g_iconst (v := 4) k_Mod_agreesAt_52 rfl ?_
  refine g_icmp_ge (tgt := 79) k_Mod_agreesAt_53 (by decide) (fun c => ?_) (fun c => ?_)
  · rw [if_pos c] at e
    refine g_iconst (v := 1) k_Mod_agreesAt_79 rfl ?_
    refine g_zret k_Mod_agreesAt_80 rfl (by decide) ?_
    exact (by cases e; exact hq)
  · rw [if_neg c] at e
    refine g_aload_n k_Mod_agreesAt_56 rfl rfl ?_
    refine p_getr k_Mod_agreesAt_57 fl_Mod_43 rfl (sk_Mod s) (by decide) (sr_Mod_27 s) ?_
    refine g_iload_n k_Mod_agreesAt_60 rfl rfl ?_
    obtain ⟨q1, e⟩ := o_gd_ex e
    refine p_iald k_Mod_agreesAt_61 (sa_Mod_27 s) (inb_in q1) (j := x2.toNatClampNeg) rfl ?_
    refine g_aload_n k_Mod_agreesAt_62 rfl rfl ?_
    refine p_getr k_Mod_agreesAt_63 fl_Mod_52 rfl (sk_Mod s) (by decide) (sr_Mod_30 s) ?_
    refine g_iload_n k_Mod_agreesAt_66 rfl rfl ?_
    obtain ⟨q2, e⟩ := o_gd_ex e
    refine p_iald k_Mod_agreesAt_67 (sa_Mod_30 s) (inb_in q2) (j := x2.toNatClampNeg) rfl ?_
    refine g_icmp_eq (tgt := 73) k_Mod_agreesAt_68 (by decide) (fun c => ?_) (fun c => ?_)
    · rw [if_pos c] at e
      refine g_iinc (v := _ + 1) k_Mod_agreesAt_73 rfl rfl (by decide) ?_
      refine g_goto (tgt := 51) k_Mod_agreesAt_76 (by decide) ?_
      exact (hr_51 (x2 + 1) m e)
    · rw [if_neg c] at e
      refine g_iconst (v := 0) k_Mod_agreesAt_71 rfl ?_
      refine g_zret k_Mod_agreesAt_72 rfl (by decide) ?_
      exact (by cases e; exact hq)
def ll_Mod_agreesAt_51 (F : Nat) : Nat → Int32 → aM → Option (Int32 × aM)
  | 0, _, _ => none
  | N + 1, x2, m => lb_Mod_agreesAt_51 F (ll_Mod_agreesAt_51 F N) x2 m
theorem t_Mod_agreesAt_51 {K : aK} {d bc bs : Nat} {g : aG} (s : SyM g) {Q : aQ} {r : Int32} {m' : aM} (F : Nat) : ∀ (N : Nat) (x2 : Int32) (m : aM), Q (.inl (some (.int r))) (g, m') → ll_Mod_agreesAt_51 F N x2 m = some (r, m') → 400 ≤ d → G K M_Mod_agreesAt d bc bs 51 [.ref 242, .double 0, .int x2] [] (g, m) Q
  | 0, _, _ => fun _ e => nomatch e
  | N + 1, x2, m => fun hq e hd => tb_Mod_agreesAt_51 s F (ll_Mod_agreesAt_51 F N) (fun x2 m e => t_Mod_agreesAt_51 s F N x2 m hq e hd) x2 m hq e hd
def lb_Mod_agreesAt_6 (F : Nat) (rec_6 : Int32 → Int32 → aM → Option (Int32 × aM)) (x1 : Int32) (x2 : Int32) (m : aM) : Option (Int32 × aM) :=
  (if 4 ≤ x2 then
  o_b2 (f_Mod_puts F  m) fun y1 m2 =>
  (if x1 = 0 then
  ll_Mod_agreesAt_51 F F 0 m2
  else
  ll_Mod_agreesAt_83 F F 0 m2
  )
  else
  o_gd (inb x2 4) <|
  o_gd (inb x2 4) <|
  o_let (a_st m 250 x2.toNatClampNeg (m 251 x2.toNatClampNeg)) fun m5 =>
  o_gd (inb x2 4) <|
  o_gd (inb x2 4) <|
  o_let (a_st m5 249 x2.toNatClampNeg (m5 256 x2.toNatClampNeg)) fun m8 =>
  rec_6 x1 (x2 + 1) m8
  )
theorem tb_Mod_agreesAt_6 {K : aK} {d bc bs : Nat} {g : aG} (s : SyM g) {Q : aQ} {r : Int32} {m' : aM} (F : Nat) (rec_6 : Int32 → Int32 → aM → Option (Int32 × aM)) (hr_6 : ∀ (x1 : Int32) (x2 : Int32) (m : aM), rec_6 x1 x2 m = some (r, m') → G K M_Mod_agreesAt d bc bs 6 [.ref 242, .int x1, .int x2] [] (g, m) Q) (x1 : Int32) (x2 : Int32) (m : aM) (hq : Q (.inl (some (.int r))) (g, m')) (e : lb_Mod_agreesAt_6 F rec_6 x1 x2 m = some (r, m')) (hd : 400 ≤ d) : G K M_Mod_agreesAt d bc bs 6 [.ref 242, .int x1, .int x2] [] (g, m) Q := by
  unfold lb_Mod_agreesAt_6 at e
  refine g_iload_n k_Mod_agreesAt_6 rfl rfl ?_
  refine g_iconst (v := 4) k_Mod_agreesAt_7 rfl ?_
  refine g_icmp_ge (tgt := 41) k_Mod_agreesAt_8 (by decide) (fun c => ?_) (fun c => ?_)
  · rw [if_pos c] at e
    refine g_aload_n k_Mod_agreesAt_41 rfl rfl ?_
    obtain ⟨y1, m2, e_y1, e⟩ := o_b2_ex e
    refine g_cv k_Mod_agreesAt_42 lv_Mod_277 (by decide +kernel) (T := F_Mod) (N := 61) (ci := 10) rfl (sk_Mod s) (s_Mod_puts (bc := 0) (bs := 0) s F  m e_y1 (by omega)) rfl rfl (Nat.le_of_ble_eq_true rfl) (by simp [Value.category]) (by omega) (by omega) (by omega) ?_
    refine g_iload_n k_Mod_agreesAt_45 rfl rfl ?_
    refine g_if_ne (tgt := 81) k_Mod_agreesAt_46 (by decide) (fun c => ?_) (fun c => ?_)
    · rw [if_pos c] at e
      refine g_iconst (v := 0) k_Mod_agreesAt_49 rfl ?_
      refine g_istore_n k_Mod_agreesAt_50 rfl (by decide) ?_
      exact G.wl (wls (wld (wls wl0))) (t_Mod_agreesAt_51 s F F 0 m2 hq e hd)
    · rw [if_neg c] at e
      refine g_iconst (v := 0) k_Mod_agreesAt_81 rfl ?_
      refine g_istore_n k_Mod_agreesAt_82 rfl (by decide) ?_
      exact G.wl (wls (wld (wls wl0))) (t_Mod_agreesAt_83 s F F 0 m2 hq e hd)
  · rw [if_neg c] at e
    refine g_aload_n k_Mod_agreesAt_11 rfl rfl ?_
    refine p_getr k_Mod_agreesAt_12 fl_Mod_37 rfl (sk_Mod s) (by decide) (sr_Mod_25 s) ?_
    refine g_iload_n k_Mod_agreesAt_15 rfl rfl ?_
    refine g_aload_n k_Mod_agreesAt_16 rfl rfl ?_
    refine p_getr k_Mod_agreesAt_17 fl_Mod_40 rfl (sk_Mod s) (by decide) (sr_Mod_26 s) ?_
    refine g_iload_n k_Mod_agreesAt_20 rfl rfl ?_
    obtain ⟨q3, e⟩ := o_gd_ex e
    refine p_iald k_Mod_agreesAt_21 (sa_Mod_26 s) (inb_in q3) (j := x2.toNatClampNeg) rfl ?_
    obtain ⟨q4, e⟩ := o_gd_ex e
    refine p_iast k_Mod_agreesAt_22 (sa_Mod_25 s) (inb_in q4) (j := x2.toNatClampNeg) rfl ?_
    obtain ⟨m5, u_m5, e⟩ := o_let_ex e
    refine G.hm u_m5 ?_
    refine g_aload_n k_Mod_agreesAt_23 rfl rfl ?_
    refine p_getr k_Mod_agreesAt_24 fl_Mod_34 rfl (sk_Mod s) (by decide) (sr_Mod_24 s) ?_
    refine g_iload_n k_Mod_agreesAt_27 rfl rfl ?_
    refine g_aload_n k_Mod_agreesAt_28 rfl rfl ?_
    refine p_getr k_Mod_agreesAt_29 fl_Mod_55 rfl (sk_Mod s) (by decide) (sr_Mod_31 s) ?_
    refine g_iload_n k_Mod_agreesAt_32 rfl rfl ?_
    obtain ⟨q6, e⟩ := o_gd_ex e
    refine p_iald k_Mod_agreesAt_33 (sa_Mod_31 s) (inb_in q6) (j := x2.toNatClampNeg) rfl ?_
    obtain ⟨q7, e⟩ := o_gd_ex e
    refine p_iast k_Mod_agreesAt_34 (sa_Mod_24 s) (inb_in q7) (j := x2.toNatClampNeg) rfl ?_
    obtain ⟨m8, u_m8, e⟩ := o_let_ex e
    refine G.hm u_m8 ?_
    refine g_iinc (v := _ + 1) k_Mod_agreesAt_35 rfl rfl (by decide) ?_
    refine g_goto (tgt := 6) k_Mod_agreesAt_38 (by decide) ?_
    exact (hr_6 x1 (x2 + 1) m8 e)
def ll_Mod_agreesAt_6 (F : Nat) : Nat → Int32 → Int32 → aM → Option (Int32 × aM)
  | 0, _, _, _ => none
  | N + 1, x1, x2, m => lb_Mod_agreesAt_6 F (ll_Mod_agreesAt_6 F N) x1 x2 m
theorem t_Mod_agreesAt_6 {K : aK} {d bc bs : Nat} {g : aG} (s : SyM g) {Q : aQ} {r : Int32} {m' : aM} (F : Nat) : ∀ (N : Nat) (x1 : Int32) (x2 : Int32) (m : aM), Q (.inl (some (.int r))) (g, m') → ll_Mod_agreesAt_6 F N x1 x2 m = some (r, m') → 400 ≤ d → G K M_Mod_agreesAt d bc bs 6 [.ref 242, .int x1, .int x2] [] (g, m) Q
  | 0, _, _, _ => fun _ e => nomatch e
  | N + 1, x1, x2, m => fun hq e hd => tb_Mod_agreesAt_6 s F (ll_Mod_agreesAt_6 F N) (fun x1 x2 m e => t_Mod_agreesAt_6 s F N x1 x2 m hq e hd) x1 x2 m hq e hd
def f_Mod_agreesAt (F : Nat) (x1 : Int32) (m : aM) : Option (Int32 × aM) :=
  o_b2 (f_Mod_seesRow F  m) fun y1 m2 =>
  ll_Mod_agreesAt_6 F F x1 0 m2
theorem s_Mod_agreesAt {K : aK} {d bc bs : Nat} {g : aG} (s : SyM g) (F : Nat) (x1 : Int32) (m : aM) {r : Int32} {m' : aM} (e : f_Mod_agreesAt F x1 m = some (r, m')) (hd : 400 ≤ d) : Sp K M_Mod_agreesAt d bc bs [.ref 242, .int x1] (g, m) (some (.int r)) (g, m') := by
  refine sp_of ok_Mod_agreesAt rfl (Nat.le_of_ble_eq_true rfl) (by simp [Value.category]) (fun Q hq => ?_)
  unfold f_Mod_agreesAt at e
  refine g_aload_n k_Mod_agreesAt_0 rfl rfl ?_
  obtain ⟨y1, m2, e_y1, e⟩ := o_b2_ex e
  refine g_cv k_Mod_agreesAt_1 lv_Mod_280 (by decide +kernel) (T := F_Mod) (N := 61) (ci := 10) rfl (sk_Mod s) (s_Mod_seesRow (bc := 0) (bs := 0) s F  m e_y1 (by omega)) rfl rfl (Nat.le_of_ble_eq_true rfl) (by simp [Value.category]) (by omega) (by omega) (by omega) ?_
  refine g_iconst (v := 0) k_Mod_agreesAt_4 rfl ?_
  refine g_istore_n k_Mod_agreesAt_5 rfl (by decide) ?_
  exact (t_Mod_agreesAt_6 s F F x1 0 m2 hq e hd)
def lb_Mod_goesOn_2 (F : Nat) (rec_2 : Int32 → aM → Option (Int32 × aM)) (x1 : Int32) (m : aM) : Option (Int32 × aM) :=
  (if x1 < 0 then
  some (0, m)
  else
  o_gd (inb x1 4) <|
  o_gd (inb x1 4) <|
  (if (m 254 x1.toNatClampNeg) ≤ (m 255 x1.toNatClampNeg) then
  o_gd (inb x1 4) <|
  o_gd (inb x1 4) <|
  o_let (a_st m 255 x1.toNatClampNeg (m 253 x1.toNatClampNeg)) fun m5 =>
  rec_2 (x1 - 1) m5
  else
  o_gd (inb x1 4) <|
  o_let (((m 255 x1.toNatClampNeg) + 1)) fun y7 =>
  o_gd (inb x1 4) <|
  o_let (a_st m 255 x1.toNatClampNeg y7) fun m9 =>
  some (1, m9)
  )
  )
theorem tb_Mod_goesOn_2 {K : aK} {d bc bs : Nat} {g : aG} (s : SyM g) {Q : aQ} {r : Int32} {m' : aM} (F : Nat) (rec_2 : Int32 → aM → Option (Int32 × aM)) (hr_2 : ∀ (x1 : Int32) (m : aM), rec_2 x1 m = some (r, m') → G K M_Mod_goesOn d bc bs 2 [.ref 242, .int x1] [] (g, m) Q) (x1 : Int32) (m : aM) (hq : Q (.inl (some (.int r))) (g, m')) (e : lb_Mod_goesOn_2 F rec_2 x1 m = some (r, m')) : G K M_Mod_goesOn d bc bs 2 [.ref 242, .int x1] [] (g, m) Q := by
  unfold lb_Mod_goesOn_2 at e
  refine g_iload_n k_Mod_goesOn_2 rfl rfl ?_
  refine g_if_lt (tgt := 51) k_Mod_goesOn_3 (by decide) (fun c => ?_) (fun c => ?_)
  · rw [if_pos c] at e
    refine g_iconst (v := 0) k_Mod_goesOn_51 rfl ?_
    refine g_zret k_Mod_goesOn_52 rfl (by decide) ?_
    exact (by cases e; exact hq)
  · rw [if_neg c] at e
    refine g_aload_n k_Mod_goesOn_6 rfl rfl ?_
    refine p_getr k_Mod_goesOn_7 fl_Mod_52 rfl (sk_Mod s) (by decide) (sr_Mod_30 s) ?_
    refine g_iload_n k_Mod_goesOn_10 rfl rfl ?_
    obtain ⟨q1, e⟩ := o_gd_ex e
    refine p_iald k_Mod_goesOn_11 (sa_Mod_30 s) (inb_in q1) (j := x1.toNatClampNeg) rfl ?_
    refine g_aload_n k_Mod_goesOn_12 rfl rfl ?_
    refine p_getr k_Mod_goesOn_13 fl_Mod_49 rfl (sk_Mod s) (by decide) (sr_Mod_29 s) ?_
    refine g_iload_n k_Mod_goesOn_16 rfl rfl ?_
    obtain ⟨q2, e⟩ := o_gd_ex e
    refine p_iald k_Mod_goesOn_17 (sa_Mod_29 s) (inb_in q2) (j := x1.toNatClampNeg) rfl ?_
    refine g_icmp_ge (tgt := 33) k_Mod_goesOn_18 (by decide) (fun c => ?_) (fun c => ?_)
    · rw [if_pos c] at e
      refine g_aload_n k_Mod_goesOn_33 rfl rfl ?_
      refine p_getr k_Mod_goesOn_34 fl_Mod_52 rfl (sk_Mod s) (by decide) (sr_Mod_30 s) ?_
      refine g_iload_n k_Mod_goesOn_37 rfl rfl ?_
      refine g_aload_n k_Mod_goesOn_38 rfl rfl ?_
      refine p_getr k_Mod_goesOn_39 fl_Mod_46 rfl (sk_Mod s) (by decide) (sr_Mod_28 s) ?_
      refine g_iload_n k_Mod_goesOn_42 rfl rfl ?_
      obtain ⟨q3, e⟩ := o_gd_ex e
      refine p_iald k_Mod_goesOn_43 (sa_Mod_28 s) (inb_in q3) (j := x1.toNatClampNeg) rfl ?_
      obtain ⟨q4, e⟩ := o_gd_ex e
      refine p_iast k_Mod_goesOn_44 (sa_Mod_30 s) (inb_in q4) (j := x1.toNatClampNeg) rfl ?_
      obtain ⟨m5, u_m5, e⟩ := o_let_ex e
      refine G.hm u_m5 ?_
      refine g_iinc k_Mod_goesOn_45 rfl (i_m1 _) (by decide) ?_
      refine g_goto (tgt := 2) k_Mod_goesOn_48 (by decide) ?_
      exact (hr_2 (x1 - 1) m5 e)
    · rw [if_neg c] at e
      refine g_aload_n k_Mod_goesOn_21 rfl rfl ?_
      refine p_getr k_Mod_goesOn_22 fl_Mod_52 rfl (sk_Mod s) (by decide) (sr_Mod_30 s) ?_
      refine g_iload_n k_Mod_goesOn_25 rfl rfl ?_
      refine g_dup2 k_Mod_goesOn_26 rfl rfl ?_
      obtain ⟨q6, e⟩ := o_gd_ex e
      refine p_iald k_Mod_goesOn_27 (sa_Mod_30 s) (inb_in q6) (j := x1.toNatClampNeg) rfl ?_
      refine g_iconst (v := 1) k_Mod_goesOn_28 rfl ?_
      refine g_iadd k_Mod_goesOn_29 ?_
      obtain ⟨y7, u_y7, e⟩ := o_let_ex e
      refine G.vy u_y7 ?_
      obtain ⟨q8, e⟩ := o_gd_ex e
      refine p_iast k_Mod_goesOn_30 (sa_Mod_30 s) (inb_in q8) (j := x1.toNatClampNeg) rfl ?_
      obtain ⟨m9, u_m9, e⟩ := o_let_ex e
      refine G.hm u_m9 ?_
      refine g_iconst (v := 1) k_Mod_goesOn_31 rfl ?_
      refine g_zret k_Mod_goesOn_32 rfl (by decide) ?_
      exact (by cases e; exact hq)
def ll_Mod_goesOn_2 (F : Nat) : Nat → Int32 → aM → Option (Int32 × aM)
  | 0, _, _ => none
  | N + 1, x1, m => lb_Mod_goesOn_2 F (ll_Mod_goesOn_2 F N) x1 m
theorem t_Mod_goesOn_2 {K : aK} {d bc bs : Nat} {g : aG} (s : SyM g) {Q : aQ} {r : Int32} {m' : aM} (F : Nat) : ∀ (N : Nat) (x1 : Int32) (m : aM), Q (.inl (some (.int r))) (g, m') → ll_Mod_goesOn_2 F N x1 m = some (r, m') → G K M_Mod_goesOn d bc bs 2 [.ref 242, .int x1] [] (g, m) Q
  | 0, _, _ => fun _ e => nomatch e
  | N + 1, x1, m => fun hq e => tb_Mod_goesOn_2 s F (ll_Mod_goesOn_2 F N) (fun x1 m e => t_Mod_goesOn_2 s F N x1 m hq e) x1 m hq e
def f_Mod_goesOn (F : Nat)  (m : aM) : Option (Int32 × aM) :=
  ll_Mod_goesOn_2 F F 3 m
theorem s_Mod_goesOn {K : aK} {d bc bs : Nat} {g : aG} (s : SyM g) (F : Nat)  (m : aM) {r : Int32} {m' : aM} (e : f_Mod_goesOn F  m = some (r, m')) : Sp K M_Mod_goesOn d bc bs [.ref 242] (g, m) (some (.int r)) (g, m') := by
  refine sp_of ok_Mod_goesOn rfl (Nat.le_of_ble_eq_true rfl) (by simp [Value.category]) (fun Q hq => ?_)
  unfold f_Mod_goesOn at e
  refine g_iconst (v := 3) k_Mod_goesOn_0 rfl ?_
  refine g_istore_n k_Mod_goesOn_1 rfl (by decide) ?_
  exact (t_Mod_goesOn_2 s F F 3 m hq e)
def b_Mod_unlikeRows_56 (F : Nat) (rec_8 : Int32 → Int32 → Int32 → aM → Option (Int32 × aM)) (x1 : Int32) (x2 : Int32) (m : aM) : Option (Int32 × aM) :=
  o_b2 (f_Mod_goesOn F  m) fun y1 m2 =>
  rec_8 x1 x2 y1 m2
theorem t_Mod_unlikeRows_56 {K : aK} {d bc bs : Nat} {g : aG} (s : SyM g) {Q : aQ} {r : Int32} {m' : aM} (F : Nat) (rec_8 : Int32 → Int32 → Int32 → aM → Option (Int32 × aM)) (hr_8 : ∀ (x1 : Int32) (x2 : Int32) (x3 : Int32) (m : aM), rec_8 x1 x2 x3 m = some (r, m') → G K M_Mod_unlikeRows d bc bs 8 [.ref 242, .int x1, .int x2, .int x3, .double 0] [] (g, m) Q) (x1 : Int32) (x2 : Int32) (m : aM) (hq : Q (.inl (some (.int r))) (g, m')) (e : b_Mod_unlikeRows_56 F rec_8 x1 x2 m = some (r, m')) (hd : 401 ≤ d) : G K M_Mod_unlikeRows d bc bs 56 [.ref 242, .int x1, .int x2, .double 0, .double 0] [] (g, m) Q := by
  unfold b_Mod_unlikeRows_56 at e
  refine g_aload_n k_Mod_unlikeRows_56 rfl rfl ?_
  obtain ⟨y1, m2, e_y1, e⟩ := o_b2_ex e
  refine g_cv k_Mod_unlikeRows_57 lv_Mod_289 (by decide +kernel) (T := F_Mod) (N := 61) (ci := 10) rfl (sk_Mod s) (s_Mod_goesOn (bc := 0) (bs := 0) s F  m e_y1) rfl rfl (Nat.le_of_ble_eq_true rfl) (by simp [Value.category]) (by omega) (by omega) (by omega) ?_
  refine g_istore_n k_Mod_unlikeRows_60 rfl (by decide) ?_
  refine g_goto (tgt := 8) k_Mod_unlikeRows_61 (by decide) ?_
  exact (hr_8 x1 x2 y1 m2 e)
def b_Mod_unlikeRows_53 (F : Nat) (rec_8 : Int32 → Int32 → Int32 → aM → Option (Int32 × aM)) (x1 : Int32) (x2 : Int32) (m : aM) : Option (Int32 × aM) :=
  b_Mod_unlikeRows_56 F rec_8 x1 (x2 + 1) m
theorem t_Mod_unlikeRows_53 {K : aK} {d bc bs : Nat} {g : aG} (s : SyM g) {Q : aQ} {r : Int32} {m' : aM} (F : Nat) (rec_8 : Int32 → Int32 → Int32 → aM → Option (Int32 × aM)) (hr_8 : ∀ (x1 : Int32) (x2 : Int32) (x3 : Int32) (m : aM), rec_8 x1 x2 x3 m = some (r, m') → G K M_Mod_unlikeRows d bc bs 8 [.ref 242, .int x1, .int x2, .int x3, .double 0] [] (g, m) Q) (x1 : Int32) (x2 : Int32) (m : aM) (hq : Q (.inl (some (.int r))) (g, m')) (e : b_Mod_unlikeRows_53 F rec_8 x1 x2 m = some (r, m')) (hd : 401 ≤ d) : G K M_Mod_unlikeRows d bc bs 53 [.ref 242, .int x1, .int x2, .double 0, .double 0] [] (g, m) Q := by
  unfold b_Mod_unlikeRows_53 at e
  refine g_iinc (v := _ + 1) k_Mod_unlikeRows_53 rfl rfl (by decide) ?_
  exact (t_Mod_unlikeRows_56 s F rec_8 hr_8 x1 (x2 + 1) m hq e hd)
def lb_Mod_unlikeRows_23 (F : Nat) (rec_8 : Int32 → Int32 → Int32 → aM → Option (Int32 × aM)) (rec_23 : Int32 → Int32 → Int32 → aM → Option (Int32 × aM)) (x1 : Int32) (x2 : Int32) (x4 : Int32) (m : aM) : Option (Int32 × aM) :=
  (if 4 ≤ x4 then
  b_Mod_unlikeRows_53 F rec_8 x1 x2 m
  else
  (if x2 = 0 then
  o_gd (inb x4 4) <|
  o_gd (inb x4 4) <|
  o_let (a_st m 257 x4.toNatClampNeg (m 255 x4.toNatClampNeg)) fun m3 =>
  rec_23 x1 x2 (x4 + 1) m3
  else
  b_Mod_unlikeRows_53 F rec_8 x1 x2 m
  )
  )
theorem tb_Mod_unlikeRows_23 {K : aK} {d bc bs : Nat} {g : aG} (s : SyM g) {Q : aQ} {r : Int32} {m' : aM} (F : Nat) (rec_8 : Int32 → Int32 → Int32 → aM → Option (Int32 × aM)) (hr_8 : ∀ (x1 : Int32) (x2 : Int32) (x3 : Int32) (m : aM), rec_8 x1 x2 x3 m = some (r, m') → G K M_Mod_unlikeRows d bc bs 8 [.ref 242, .int x1, .int x2, .int x3, .double 0] [] (g, m) Q) (rec_23 : Int32 → Int32 → Int32 → aM → Option (Int32 × aM)) (hr_23 : ∀ (x1 : Int32) (x2 : Int32) (x4 : Int32) (m : aM), rec_23 x1 x2 x4 m = some (r, m') → G K M_Mod_unlikeRows d bc bs 23 [.ref 242, .int x1, .int x2, .double 0, .int x4] [] (g, m) Q) (x1 : Int32) (x2 : Int32) (x4 : Int32) (m : aM) (hq : Q (.inl (some (.int r))) (g, m')) (e : lb_Mod_unlikeRows_23 F rec_8 rec_23 x1 x2 x4 m = some (r, m')) (hd : 401 ≤ d) : G K M_Mod_unlikeRows d bc bs 23 [.ref 242, .int x1, .int x2, .double 0, .int x4] [] (g, m) Q := by
  unfold lb_Mod_unlikeRows_23 at e
  refine g_iload k_Mod_unlikeRows_23 rfl ?_
  refine g_iconst (v := 4) k_Mod_unlikeRows_25 rfl ?_
  refine g_icmp_ge (tgt := 53) k_Mod_unlikeRows_26 (by decide) (fun c => ?_) (fun c => ?_)
  · rw [if_pos c] at e
    exact G.wl (wls (wls (wls (wls (wld wl0))))) (t_Mod_unlikeRows_53 s F rec_8 hr_8 x1 x2 m hq e hd)
  · rw [if_neg c] at e
    refine g_iload_n k_Mod_unlikeRows_29 rfl rfl ?_
    refine g_if_ne (tgt := 53) k_Mod_unlikeRows_30 (by decide) (fun c => ?_) (fun c => ?_)
    · rw [if_pos c] at e
      refine g_aload_n k_Mod_unlikeRows_33 rfl rfl ?_
      refine p_getr k_Mod_unlikeRows_34 fl_Mod_58 rfl (sk_Mod s) (by decide) (sr_Mod_32 s) ?_
      refine g_iload k_Mod_unlikeRows_37 rfl ?_
      refine g_aload_n k_Mod_unlikeRows_39 rfl rfl ?_
      refine p_getr k_Mod_unlikeRows_40 fl_Mod_52 rfl (sk_Mod s) (by decide) (sr_Mod_30 s) ?_
      refine g_iload k_Mod_unlikeRows_43 rfl ?_
      obtain ⟨q1, e⟩ := o_gd_ex e
      refine p_iald k_Mod_unlikeRows_45 (sa_Mod_30 s) (inb_in q1) (j := x4.toNatClampNeg) rfl ?_
      obtain ⟨q2, e⟩ := o_gd_ex e
      refine p_iast k_Mod_unlikeRows_46 (sa_Mod_32 s) (inb_in q2) (j := x4.toNatClampNeg) rfl ?_
      obtain ⟨m3, u_m3, e⟩ := o_let_ex e
      refine G.hm u_m3 ?_
      refine g_iinc (v := _ + 1) k_Mod_unlikeRows_47 rfl rfl (by decide) ?_
      refine g_goto (tgt := 23) k_Mod_unlikeRows_50 (by decide) ?_
      exact (hr_23 x1 x2 (x4 + 1) m3 e)
    · rw [if_neg c] at e
      exact G.wl (wls (wls (wls (wls (wld wl0))))) (t_Mod_unlikeRows_53 s F rec_8 hr_8 x1 x2 m hq e hd)
def ll_Mod_unlikeRows_23 (F : Nat) (rec_8 : Int32 → Int32 → Int32 → aM → Option (Int32 × aM)) : Nat → Int32 → Int32 → Int32 → aM → Option (Int32 × aM)
  | 0, _, _, _, _ => none
  | N + 1, x1, x2, x4, m => lb_Mod_unlikeRows_23 F rec_8 (ll_Mod_unlikeRows_23 F rec_8 N) x1 x2 x4 m
theorem t_Mod_unlikeRows_23 {K : aK} {d bc bs : Nat} {g : aG} (s : SyM g) {Q : aQ} {r : Int32} {m' : aM} (F : Nat) (rec_8 : Int32 → Int32 → Int32 → aM → Option (Int32 × aM)) (hr_8 : ∀ (x1 : Int32) (x2 : Int32) (x3 : Int32) (m : aM), rec_8 x1 x2 x3 m = some (r, m') → G K M_Mod_unlikeRows d bc bs 8 [.ref 242, .int x1, .int x2, .int x3, .double 0] [] (g, m) Q) : ∀ (N : Nat) (x1 : Int32) (x2 : Int32) (x4 : Int32) (m : aM), Q (.inl (some (.int r))) (g, m') → ll_Mod_unlikeRows_23 F rec_8 N x1 x2 x4 m = some (r, m') → 401 ≤ d → G K M_Mod_unlikeRows d bc bs 23 [.ref 242, .int x1, .int x2, .double 0, .int x4] [] (g, m) Q
  | 0, _, _, _, _ => fun _ e => nomatch e
  | N + 1, x1, x2, x4, m => fun hq e hd => tb_Mod_unlikeRows_23 s F rec_8 hr_8 (ll_Mod_unlikeRows_23 F rec_8 N) (fun x1 x2 x4 m e => t_Mod_unlikeRows_23 s F rec_8 hr_8 N x1 x2 x4 m hq e hd) x1 x2 x4 m hq e hd
def lb_Mod_unlikeRows_8 (F : Nat) (rec_8 : Int32 → Int32 → Int32 → aM → Option (Int32 × aM)) (x1 : Int32) (x2 : Int32) (x3 : Int32) (m : aM) : Option (Int32 × aM) :=
  (if x3 = 0 then
  some (x2, m)
  else
  o_b2 (f_Mod_agreesAt F x1 m) fun y1 m2 =>
  (if y1 = 0 then
  ll_Mod_unlikeRows_23 F rec_8 F x1 x2 0 m2
  else
  b_Mod_unlikeRows_56 F rec_8 x1 x2 m2
  )
  )
theorem tb_Mod_unlikeRows_8 {K : aK} {d bc bs : Nat} {g : aG} (s : SyM g) {Q : aQ} {r : Int32} {m' : aM} (F : Nat) (rec_8 : Int32 → Int32 → Int32 → aM → Option (Int32 × aM)) (hr_8 : ∀ (x1 : Int32) (x2 : Int32) (x3 : Int32) (m : aM), rec_8 x1 x2 x3 m = some (r, m') → G K M_Mod_unlikeRows d bc bs 8 [.ref 242, .int x1, .int x2, .int x3, .double 0] [] (g, m) Q) (x1 : Int32) (x2 : Int32) (x3 : Int32) (m : aM) (hq : Q (.inl (some (.int r))) (g, m')) (e : lb_Mod_unlikeRows_8 F rec_8 x1 x2 x3 m = some (r, m')) (hd : 401 ≤ d) : G K M_Mod_unlikeRows d bc bs 8 [.ref 242, .int x1, .int x2, .int x3, .double 0] [] (g, m) Q := by
  unfold lb_Mod_unlikeRows_8 at e
  refine g_iload_n k_Mod_unlikeRows_8 rfl rfl ?_
  refine g_if_eq (tgt := 64) k_Mod_unlikeRows_9 (by decide) (fun c => ?_) (fun c => ?_)
  · rw [if_pos c] at e
    refine g_iload_n k_Mod_unlikeRows_64 rfl rfl ?_
    refine g_iret k_Mod_unlikeRows_65 rfl ?_
    exact (by cases e; exact hq)
  · rw [if_neg c] at e
    refine g_aload_n k_Mod_unlikeRows_12 rfl rfl ?_
    refine g_iload_n k_Mod_unlikeRows_13 rfl rfl ?_
    obtain ⟨y1, m2, e_y1, e⟩ := o_b2_ex e
    refine g_cv k_Mod_unlikeRows_14 lv_Mod_286 (by decide +kernel) (T := F_Mod) (N := 61) (ci := 10) rfl (sk_Mod s) (s_Mod_agreesAt (bc := 0) (bs := 0) s F x1 m e_y1 (by omega)) rfl rfl (Nat.le_of_ble_eq_true rfl) (by simp [Value.category]) (by omega) (by omega) (by omega) ?_
    refine g_if_ne (tgt := 56) k_Mod_unlikeRows_17 (by decide) (fun c => ?_) (fun c => ?_)
    · rw [if_pos c] at e
      refine g_iconst (v := 0) k_Mod_unlikeRows_20 rfl ?_
      refine g_istore k_Mod_unlikeRows_21 (by decide) ?_
      exact G.wl (wls (wls (wls (wld (wls wl0))))) (t_Mod_unlikeRows_23 s F rec_8 hr_8 F x1 x2 0 m2 hq e hd)
    · rw [if_neg c] at e
      exact G.wl (wls (wls (wls (wld (wls wl0))))) (t_Mod_unlikeRows_56 s F rec_8 hr_8 x1 x2 m2 hq e hd)
def ll_Mod_unlikeRows_8 (F : Nat) : Nat → Int32 → Int32 → Int32 → aM → Option (Int32 × aM)
  | 0, _, _, _, _ => none
  | N + 1, x1, x2, x3, m => lb_Mod_unlikeRows_8 F (ll_Mod_unlikeRows_8 F N) x1 x2 x3 m
theorem t_Mod_unlikeRows_8 {K : aK} {d bc bs : Nat} {g : aG} (s : SyM g) {Q : aQ} {r : Int32} {m' : aM} (F : Nat) : ∀ (N : Nat) (x1 : Int32) (x2 : Int32) (x3 : Int32) (m : aM), Q (.inl (some (.int r))) (g, m') → ll_Mod_unlikeRows_8 F N x1 x2 x3 m = some (r, m') → 401 ≤ d → G K M_Mod_unlikeRows d bc bs 8 [.ref 242, .int x1, .int x2, .int x3, .double 0] [] (g, m) Q
  | 0, _, _, _, _ => fun _ e => nomatch e
  | N + 1, x1, x2, x3, m => fun hq e hd => tb_Mod_unlikeRows_8 s F (ll_Mod_unlikeRows_8 F N) (fun x1 x2 x3 m e => t_Mod_unlikeRows_8 s F N x1 x2 x3 m hq e hd) x1 x2 x3 m hq e hd
def f_Mod_unlikeRows (F : Nat) (x1 : Int32) (m : aM) : Option (Int32 × aM) :=
  o_b2 (f_Mod_begin F  m) fun y1 m2 =>
  ll_Mod_unlikeRows_8 F F x1 0 1 m2
theorem s_Mod_unlikeRows {K : aK} {d bc bs : Nat} {g : aG} (s : SyM g) (F : Nat) (x1 : Int32) (m : aM) {r : Int32} {m' : aM} (e : f_Mod_unlikeRows F x1 m = some (r, m')) (hd : 401 ≤ d) : Sp K M_Mod_unlikeRows d bc bs [.ref 242, .int x1] (g, m) (some (.int r)) (g, m') := by
  refine sp_of ok_Mod_unlikeRows rfl (Nat.le_of_ble_eq_true rfl) (by simp [Value.category]) (fun Q hq => ?_)
  unfold f_Mod_unlikeRows at e
  refine g_iconst (v := 0) k_Mod_unlikeRows_0 rfl ?_
  refine g_istore_n k_Mod_unlikeRows_1 rfl (by decide) ?_
  refine g_aload_n k_Mod_unlikeRows_2 rfl rfl ?_
  obtain ⟨y1, m2, e_y1, e⟩ := o_b2_ex e
  refine g_cv k_Mod_unlikeRows_3 lv_Mod_283 (by decide +kernel) (T := F_Mod) (N := 61) (ci := 10) rfl (sk_Mod s) (s_Mod_begin (bc := 0) (bs := 0) s F  m e_y1) rfl rfl (Nat.le_of_ble_eq_true rfl) (by simp [Value.category]) (by omega) (by omega) (by omega) ?_
  refine g_iconst (v := 1) k_Mod_unlikeRows_6 rfl ?_
  refine g_istore_n k_Mod_unlikeRows_7 rfl (by decide) ?_
  exact (t_Mod_unlikeRows_8 s F F x1 0 1 m2 hq e hd)
def b_Mod_agree_29 (F : Nat) (x1 : Int32) (x2 : Int32) (xt0 : Int32) (m : aM) : Option (Int32 × aM) :=
  o_b2 (f_Mod_bad xt0 1 m) fun y1 m2 =>
  (if y1 = 0 then
  o_b2 (f_Mod_unlikeRows F x1 m2) fun y3 m4 =>
  (if y3 = 0 then
  some ((-2147483648), m4)
  else
  o_gd (inb x2 4) <|
  some ((m4 257 x2.toNatClampNeg), m4)
  )
  else
  some (0, m2)
  )
theorem t_Mod_agree_29 {K : aK} {d bc bs : Nat} {g : aG} (s : SyM g) {Q : aQ} {r : Int32} {m' : aM} (F : Nat) (x1 : Int32) (x2 : Int32) (xt0 : Int32) (m : aM) (hq : Q (.inl (some (.int r))) (g, m')) (e : b_Mod_agree_29 F x1 x2 xt0 m = some (r, m')) (hd : 402 ≤ d) : G K M_Mod_agree d bc bs 29 [.ref 242, .int x1, .int x2] [.int xt0, .ref 242] (g, m) Q := by
  unfold b_Mod_agree_29 at e
  refine g_iconst (v := 1) k_Mod_agree_29 rfl ?_
  obtain ⟨y1, m2, e_y1, e⟩ := o_b2_ex e
  refine g_cv k_Mod_agree_30 lv_Mod_240 (by decide +kernel) (T := F_Mod) (N := 61) (ci := 10) rfl (sk_Mod s) (s_Mod_bad (bc := 0) (bs := 0) s xt0 1 m e_y1) rfl rfl (Nat.le_of_ble_eq_true rfl) (by simp [Value.category]) (by omega) (by omega) (by omega) ?_
  refine g_if_eq (tgt := 38) k_Mod_agree_33 (by decide) (fun c => ?_) (fun c => ?_)
  · rw [if_pos c] at e
    refine g_aload_n k_Mod_agree_38 rfl rfl ?_
    refine g_iload_n k_Mod_agree_39 rfl rfl ?_
    obtain ⟨y3, m4, e_y3, e⟩ := o_b2_ex e
    refine g_cv k_Mod_agree_40 lv_Mod_292 (by decide +kernel) (T := F_Mod) (N := 61) (ci := 10) rfl (sk_Mod s) (s_Mod_unlikeRows (bc := 0) (bs := 0) s F x1 m2 e_y3 (by omega)) rfl rfl (Nat.le_of_ble_eq_true rfl) (by simp [Value.category]) (by omega) (by omega) (by omega) ?_
    refine g_if_ne (tgt := 52) k_Mod_agree_43 (by decide) (fun c => ?_) (fun c => ?_)
    · rw [if_pos c] at e
      refine g_ldcw k_Mod_agree_46 kc_Mod_295 ?_
      refine g_goto (tgt := 58) k_Mod_agree_49 (by decide) ?_
      refine g_iret k_Mod_agree_58 rfl ?_
      exact (by cases e; exact hq)
    · rw [if_neg c] at e
      refine g_aload_n k_Mod_agree_52 rfl rfl ?_
      refine p_getr k_Mod_agree_53 fl_Mod_58 rfl (sk_Mod s) (by decide) (sr_Mod_32 s) ?_
      refine g_iload_n k_Mod_agree_56 rfl rfl ?_
      obtain ⟨q5, e⟩ := o_gd_ex e
      refine p_iald k_Mod_agree_57 (sa_Mod_32 s) (inb_in q5) (j := x2.toNatClampNeg) rfl ?_
      refine g_iret k_Mod_agree_58 rfl ?_
      exact (by cases e; exact hq)
  · rw [if_neg c] at e
    refine g_iconst (v := 0) k_Mod_agree_36 rfl ?_
    refine g_iret k_Mod_agree_37 rfl ?_
    exact (by cases e; exact hq)
def b_Mod_agree_24 (F : Nat) (x1 : Int32) (x2 : Int32) (m : aM) : Option (Int32 × aM) :=
  b_Mod_agree_29 F x1 x2 1 m
theorem t_Mod_agree_24 {K : aK} {d bc bs : Nat} {g : aG} (s : SyM g) {Q : aQ} {r : Int32} {m' : aM} (F : Nat) (x1 : Int32) (x2 : Int32) (m : aM) (hq : Q (.inl (some (.int r))) (g, m')) (e : b_Mod_agree_24 F x1 x2 m = some (r, m')) (hd : 402 ≤ d) : G K M_Mod_agree d bc bs 24 [.ref 242, .int x1, .int x2] [.ref 242] (g, m) Q := by
  unfold b_Mod_agree_24 at e
  refine g_iconst (v := 1) k_Mod_agree_24 rfl ?_
  refine g_goto (tgt := 29) k_Mod_agree_25 (by decide) ?_
  exact (t_Mod_agree_29 s F x1 x2 1 m hq e hd)
def f_Mod_agree (F : Nat) (x1 : Int32) (x2 : Int32) (m : aM) : Option (Int32 × aM) :=
  o_let (a_st m 242 0 0) fun m1 =>
  o_b (f_Mod_in x1 0 1 m1) fun y2 =>
  (if y2 = 0 then
  b_Mod_agree_24 F x1 x2 m1
  else
  o_b (f_Mod_in x2 0 3 m1) fun y3 =>
  (if y3 = 0 then
  b_Mod_agree_24 F x1 x2 m1
  else
  b_Mod_agree_29 F x1 x2 0 m1
  )
  )
theorem s_Mod_agree {K : aK} {d bc bs : Nat} {g : aG} (s : SyM g) (F : Nat) (x1 : Int32) (x2 : Int32) (m : aM) {r : Int32} {m' : aM} (e : f_Mod_agree F x1 x2 m = some (r, m')) (hd : 402 ≤ d) : Sp K M_Mod_agree d bc bs [.ref 242, .int x1, .int x2] (g, m) (some (.int r)) (g, m') := by
  refine sp_of ok_Mod_agree rfl (Nat.le_of_ble_eq_true rfl) (by simp [Value.category]) (fun Q hq => ?_)
  unfold f_Mod_agree at e
  refine g_aload_n k_Mod_agree_0 rfl rfl ?_
  refine g_iconst (v := 0) k_Mod_agree_1 rfl ?_
  refine p_puti k_Mod_agree_2 fl_Mod_131 rfl ⟨R_Mod, F_Mod, 61, rfl, Or.inl rfl⟩ (sk_Mod s) (by decide) ?_
  obtain ⟨m1, u_m1, e⟩ := o_let_ex e
  refine G.hm u_m1 ?_
  refine g_aload_n k_Mod_agree_5 rfl rfl ?_
  refine g_iload_n k_Mod_agree_6 rfl rfl ?_
  refine g_iconst (v := 0) k_Mod_agree_7 rfl ?_
  refine g_iconst (v := 1) k_Mod_agree_8 rfl ?_
  obtain ⟨y2, e_y2, e⟩ := o_b_ex e
  refine g_cs k_Mod_agree_9 ls_Mod_236 (by decide +kernel) (s_Mod_in (bc := 0) (bs := 0) s x1 0 1 m1 e_y2) rfl rfl (Nat.le_of_ble_eq_true rfl) (by simp [Value.category]) (by omega) (by omega) (by omega) ?_
  refine g_if_eq (tgt := 24) k_Mod_agree_12 (by decide) (fun c => ?_) (fun c => ?_)
  · rw [if_pos c] at e
    exact (t_Mod_agree_24 s F x1 x2 m1 hq e hd)
  · rw [if_neg c] at e
    refine g_iload_n k_Mod_agree_15 rfl rfl ?_
    refine g_iconst (v := 0) k_Mod_agree_16 rfl ?_
    refine g_iconst (v := 3) k_Mod_agree_17 rfl ?_
    obtain ⟨y3, e_y3, e⟩ := o_b_ex e
    refine g_cs k_Mod_agree_18 ls_Mod_236 (by decide +kernel) (s_Mod_in (bc := 0) (bs := 0) s x2 0 3 m1 e_y3) rfl rfl (Nat.le_of_ble_eq_true rfl) (by simp [Value.category]) (by omega) (by omega) (by omega) ?_
    refine g_if_ne (tgt := 28) k_Mod_agree_21 (by decide) (fun c => ?_) (fun c => ?_)
    · rw [if_pos c] at e
      exact (t_Mod_agree_24 s F x1 x2 m1 hq e hd)
    · rw [if_neg c] at e
      refine g_iconst (v := 0) k_Mod_agree_28 rfl ?_
      exact (t_Mod_agree_29 s F x1 x2 0 m1 hq e hd)
def b_Mod_unlike_20 (F : Nat) (x1 : Int32) (xt0 : Int32) (m : aM) : Option (Int32 × aM) :=
  o_b2 (f_Mod_bad xt0 1 m) fun y1 m2 =>
  (if y1 = 0 then
  o_b2 (f_Mod_unlikeRows F x1 m2) fun y3 m4 =>
  some (y3, m4)
  else
  some (0, m2)
  )
theorem t_Mod_unlike_20 {K : aK} {d bc bs : Nat} {g : aG} (s : SyM g) {Q : aQ} {r : Int32} {m' : aM} (F : Nat) (x1 : Int32) (xt0 : Int32) (m : aM) (hq : Q (.inl (some (.int r))) (g, m')) (e : b_Mod_unlike_20 F x1 xt0 m = some (r, m')) (hd : 402 ≤ d) : G K M_Mod_unlike d bc bs 20 [.ref 242, .int x1] [.int xt0, .ref 242] (g, m) Q := by
  unfold b_Mod_unlike_20 at e
  refine g_iconst (v := 1) k_Mod_unlike_20 rfl ?_
  obtain ⟨y1, m2, e_y1, e⟩ := o_b2_ex e
  refine g_cv k_Mod_unlike_21 lv_Mod_240 (by decide +kernel) (T := F_Mod) (N := 61) (ci := 10) rfl (sk_Mod s) (s_Mod_bad (bc := 0) (bs := 0) s xt0 1 m e_y1) rfl rfl (Nat.le_of_ble_eq_true rfl) (by simp [Value.category]) (by omega) (by omega) (by omega) ?_
  refine g_if_eq (tgt := 29) k_Mod_unlike_24 (by decide) (fun c => ?_) (fun c => ?_)
  · rw [if_pos c] at e
    refine g_aload_n k_Mod_unlike_29 rfl rfl ?_
    refine g_iload_n k_Mod_unlike_30 rfl rfl ?_
    obtain ⟨y3, m4, e_y3, e⟩ := o_b2_ex e
    refine g_cv k_Mod_unlike_31 lv_Mod_292 (by decide +kernel) (T := F_Mod) (N := 61) (ci := 10) rfl (sk_Mod s) (s_Mod_unlikeRows (bc := 0) (bs := 0) s F x1 m2 e_y3 (by omega)) rfl rfl (Nat.le_of_ble_eq_true rfl) (by simp [Value.category]) (by omega) (by omega) (by omega) ?_
    refine g_iret k_Mod_unlike_34 rfl ?_
    exact (by cases e; exact hq)
  · rw [if_neg c] at e
    refine g_iconst (v := 0) k_Mod_unlike_27 rfl ?_
    refine g_iret k_Mod_unlike_28 rfl ?_
    exact (by cases e; exact hq)
def f_Mod_unlike (F : Nat) (x1 : Int32) (m : aM) : Option (Int32 × aM) :=
  o_let (a_st m 242 0 0) fun m1 =>
  o_b (f_Mod_in x1 0 1 m1) fun y2 =>
  (if y2 = 0 then
  b_Mod_unlike_20 F x1 1 m1
  else
  b_Mod_unlike_20 F x1 0 m1
  )
theorem s_Mod_unlike {K : aK} {d bc bs : Nat} {g : aG} (s : SyM g) (F : Nat) (x1 : Int32) (m : aM) {r : Int32} {m' : aM} (e : f_Mod_unlike F x1 m = some (r, m')) (hd : 402 ≤ d) : Sp K M_Mod_unlike d bc bs [.ref 242, .int x1] (g, m) (some (.int r)) (g, m') := by
  refine sp_of ok_Mod_unlike rfl (Nat.le_of_ble_eq_true rfl) (by simp [Value.category]) (fun Q hq => ?_)
  unfold f_Mod_unlike at e
  refine g_aload_n k_Mod_unlike_0 rfl rfl ?_
  refine g_iconst (v := 0) k_Mod_unlike_1 rfl ?_
  refine p_puti k_Mod_unlike_2 fl_Mod_131 rfl ⟨R_Mod, F_Mod, 61, rfl, Or.inl rfl⟩ (sk_Mod s) (by decide) ?_
  obtain ⟨m1, u_m1, e⟩ := o_let_ex e
  refine G.hm u_m1 ?_
  refine g_aload_n k_Mod_unlike_5 rfl rfl ?_
  refine g_iload_n k_Mod_unlike_6 rfl rfl ?_
  refine g_iconst (v := 0) k_Mod_unlike_7 rfl ?_
  refine g_iconst (v := 1) k_Mod_unlike_8 rfl ?_
  obtain ⟨y2, e_y2, e⟩ := o_b_ex e
  refine g_cs k_Mod_unlike_9 ls_Mod_236 (by decide +kernel) (s_Mod_in (bc := 0) (bs := 0) s x1 0 1 m1 e_y2) rfl rfl (Nat.le_of_ble_eq_true rfl) (by simp [Value.category]) (by omega) (by omega) (by omega) ?_
  refine g_if_ne (tgt := 19) k_Mod_unlike_12 (by decide) (fun c => ?_) (fun c => ?_)
  · rw [if_pos c] at e
    refine g_iconst (v := 1) k_Mod_unlike_15 rfl ?_
    refine g_goto (tgt := 20) k_Mod_unlike_16 (by decide) ?_
    exact (t_Mod_unlike_20 s F x1 1 m1 hq e hd)
  · rw [if_neg c] at e
    refine g_iconst (v := 0) k_Mod_unlike_19 rfl ?_
    exact (t_Mod_unlike_20 s F x1 0 m1 hq e hd)
def b_Mod_isOfGroup_53 (F : Nat) (rec_2 : Int32 → Int32 → aM → Option Int32) (x1 : Int32) (x2 : Int32) (m : aM) : Option Int32 :=
  rec_2 x1 (x2 + 1) m
theorem t_Mod_isOfGroup_53 {K : aK} {d bc bs : Nat} {g : aG} (s : SyM g) {Q : aQ} {r : Int32} (F : Nat) (m : aM) (rec_2 : Int32 → Int32 → aM → Option Int32) (hr_2 : ∀ (x1 : Int32) (x2 : Int32), rec_2 x1 x2 m = some r → G K M_Mod_isOfGroup d bc bs 2 [.ref 242, .int x1, .int x2] [] (g, m) Q) (x1 : Int32) (x2 : Int32) (hq : Q (.inl (some (.int r))) (g, m)) (e : b_Mod_isOfGroup_53 F rec_2 x1 x2 m = some r) (hd : 1 ≤ d) : G K M_Mod_isOfGroup d bc bs 53 [.ref 242, .int x1, .int x2] [] (g, m) Q := by
  unfold b_Mod_isOfGroup_53 at e
  refine g_iinc (v := _ + 1) k_Mod_isOfGroup_53 rfl rfl (by decide) ?_
  refine g_goto (tgt := 2) k_Mod_isOfGroup_56 (by decide) ?_
  exact (hr_2 x1 (x2 + 1)  e)
def lb_Mod_isOfGroup_2 (F : Nat) (rec_2 : Int32 → Int32 → aM → Option Int32) (x1 : Int32) (x2 : Int32) (m : aM) : Option Int32 :=
  (if 4 ≤ x2 then
  some 1
  else
  o_gd (inb x1 8192) <|
  o_gd (inb x2 9) <|
  o_let ((m (259 + x1.toNatClampNeg) x2.toNatClampNeg)) fun y3 =>
  o_gd (inb x2 4) <|
  (if y3 = (m 251 x2.toNatClampNeg) then
  o_b (f_Mod_isKept x2 m) fun y5 =>
  (if y5 = 0 then
  b_Mod_isOfGroup_53 F rec_2 x1 x2 m
  else
  o_gd (inb x1 8192) <|
  o_gd (inb (x2 + 4) 9) <|
  o_let ((m (259 + x1.toNatClampNeg) ((x2 + 4).toNatClampNeg))) fun y8 =>
  o_gd (inb x2 4) <|
  (if y8 = (m 256 x2.toNatClampNeg) then
  b_Mod_isOfGroup_53 F rec_2 x1 x2 m
  else
  some 0
  )
  )
  else
  some 0
  )
  )
theorem tb_Mod_isOfGroup_2 {K : aK} {d bc bs : Nat} {g : aG} (s : SyM g) {Q : aQ} {r : Int32} (F : Nat) (m : aM) (rec_2 : Int32 → Int32 → aM → Option Int32) (hr_2 : ∀ (x1 : Int32) (x2 : Int32), rec_2 x1 x2 m = some r → G K M_Mod_isOfGroup d bc bs 2 [.ref 242, .int x1, .int x2] [] (g, m) Q) (x1 : Int32) (x2 : Int32) (hq : Q (.inl (some (.int r))) (g, m)) (e : lb_Mod_isOfGroup_2 F rec_2 x1 x2 m = some r) (hd : 1 ≤ d) : G K M_Mod_isOfGroup d bc bs 2 [.ref 242, .int x1, .int x2] [] (g, m) Q := by
  unfold lb_Mod_isOfGroup_2 at e
  refine g_iload_n k_Mod_isOfGroup_2 rfl rfl ?_
  refine g_iconst (v := 4) k_Mod_isOfGroup_3 rfl ?_
  refine g_icmp_ge (tgt := 59) k_Mod_isOfGroup_4 (by decide) (fun c => ?_) (fun c => ?_)
  · rw [if_pos c] at e
    refine g_iconst (v := 1) k_Mod_isOfGroup_59 rfl ?_
    refine g_zret k_Mod_isOfGroup_60 rfl (by decide) ?_
    exact (by cases e; exact hq)
  · rw [if_neg c] at e
    refine g_aload_n k_Mod_isOfGroup_7 rfl rfl ?_
    refine p_getr k_Mod_isOfGroup_8 fl_Mod_63 rfl (sk_Mod s) (by decide) (sr_Mod_33 s) ?_
    refine g_iload_n k_Mod_isOfGroup_11 rfl rfl ?_
    obtain ⟨q1, e⟩ := o_gd_ex e
    refine p_aald k_Mod_isOfGroup_12 (sa_Mod_33 s) (by decide) (by decide) (inb_in q1) (j := x1.toNatClampNeg) rfl (si_Mod_33 s _ (vp_lt (inb_in q1))).1 ?_
    refine g_iload_n k_Mod_isOfGroup_13 rfl rfl ?_
    obtain ⟨q2, e⟩ := o_gd_ex e
    refine p_iald k_Mod_isOfGroup_14 (si_Mod_33 s _ (vp_lt (inb_in q1))).2 (inb_in q2) (j := x2.toNatClampNeg) rfl ?_
    obtain ⟨y3, u_y3, e⟩ := o_let_ex e
    refine G.vy u_y3 ?_
    refine g_aload_n k_Mod_isOfGroup_15 rfl rfl ?_
    refine p_getr k_Mod_isOfGroup_16 fl_Mod_40 rfl (sk_Mod s) (by decide) (sr_Mod_26 s) ?_
    refine g_iload_n k_Mod_isOfGroup_19 rfl rfl ?_
    obtain ⟨q4, e⟩ := o_gd_ex e
    refine p_iald k_Mod_isOfGroup_20 (sa_Mod_26 s) (inb_in q4) (j := x2.toNatClampNeg) rfl ?_
    refine g_icmp_ne (tgt := 51) k_Mod_isOfGroup_21 (by decide) (fun c => ?_) (fun c => ?_)
    · rw [if_pos c] at e
      refine g_aload_n k_Mod_isOfGroup_24 rfl rfl ?_
      refine g_iload_n k_Mod_isOfGroup_25 rfl rfl ?_
      obtain ⟨y5, e_y5, e⟩ := o_b_ex e
      refine g_cv k_Mod_isOfGroup_26 lv_Mod_274 (by decide +kernel) (T := F_Mod) (N := 61) (ci := 10) rfl (sk_Mod s) (s_Mod_isKept (bc := 0) (bs := 0) s x2 m e_y5) rfl rfl (Nat.le_of_ble_eq_true rfl) (by simp [Value.category]) (by omega) (by omega) (by omega) ?_
      refine g_if_eq (tgt := 53) k_Mod_isOfGroup_29 (by decide) (fun c => ?_) (fun c => ?_)
      · rw [if_pos c] at e
        exact (t_Mod_isOfGroup_53 s F m rec_2 hr_2 x1 x2  hq e hd)
      · rw [if_neg c] at e
        refine g_aload_n k_Mod_isOfGroup_32 rfl rfl ?_
        refine p_getr k_Mod_isOfGroup_33 fl_Mod_63 rfl (sk_Mod s) (by decide) (sr_Mod_33 s) ?_
        refine g_iload_n k_Mod_isOfGroup_36 rfl rfl ?_
        obtain ⟨q6, e⟩ := o_gd_ex e
        refine p_aald k_Mod_isOfGroup_37 (sa_Mod_33 s) (by decide) (by decide) (inb_in q6) (j := x1.toNatClampNeg) rfl (si_Mod_33 s _ (vp_lt (inb_in q6))).1 ?_
        refine g_iload_n k_Mod_isOfGroup_38 rfl rfl ?_
        refine g_iconst (v := 4) k_Mod_isOfGroup_39 rfl ?_
        refine g_iadd k_Mod_isOfGroup_40 ?_
        obtain ⟨q7, e⟩ := o_gd_ex e
        refine p_iald k_Mod_isOfGroup_41 (si_Mod_33 s _ (vp_lt (inb_in q6))).2 (inb_in q7) (j := (x2 + 4).toNatClampNeg) rfl ?_
        obtain ⟨y8, u_y8, e⟩ := o_let_ex e
        refine G.vy u_y8 ?_
        refine g_aload_n k_Mod_isOfGroup_42 rfl rfl ?_
        refine p_getr k_Mod_isOfGroup_43 fl_Mod_55 rfl (sk_Mod s) (by decide) (sr_Mod_31 s) ?_
        refine g_iload_n k_Mod_isOfGroup_46 rfl rfl ?_
        obtain ⟨q9, e⟩ := o_gd_ex e
        refine p_iald k_Mod_isOfGroup_47 (sa_Mod_31 s) (inb_in q9) (j := x2.toNatClampNeg) rfl ?_
        refine g_icmp_eq (tgt := 53) k_Mod_isOfGroup_48 (by decide) (fun c => ?_) (fun c => ?_)
        · rw [if_pos c] at e
          exact (t_Mod_isOfGroup_53 s F m rec_2 hr_2 x1 x2  hq e hd)
        · rw [if_neg c] at e
          refine g_iconst (v := 0) k_Mod_isOfGroup_51 rfl ?_
          refine g_zret k_Mod_isOfGroup_52 rfl (by decide) ?_
          exact (by cases e; exact hq)
    · rw [if_neg c] at e
      refine g_iconst (v := 0) k_Mod_isOfGroup_51 rfl ?_
      refine g_zret k_Mod_isOfGroup_52 rfl (by decide) ?_
      exact (by cases e; exact hq)
def ll_Mod_isOfGroup_2 (F : Nat) : Nat → Int32 → Int32 → aM → Option Int32
  | 0, _, _, _ => none
  | N + 1, x1, x2, m => lb_Mod_isOfGroup_2 F (ll_Mod_isOfGroup_2 F N) x1 x2 m
theorem t_Mod_isOfGroup_2 {K : aK} {d bc bs : Nat} {g : aG} (s : SyM g) {Q : aQ} {r : Int32} (F : Nat) (m : aM) : ∀ (N : Nat) (x1 : Int32) (x2 : Int32), Q (.inl (some (.int r))) (g, m) → ll_Mod_isOfGroup_2 F N x1 x2 m = some r → 1 ≤ d → G K M_Mod_isOfGroup d bc bs 2 [.ref 242, .int x1, .int x2] [] (g, m) Q
  | 0, _, _ => fun _ e => nomatch e
  | N + 1, x1, x2 => fun hq e hd => tb_Mod_isOfGroup_2 s F m (ll_Mod_isOfGroup_2 F N) (fun x1 x2 e => t_Mod_isOfGroup_2 s F m N x1 x2 hq e hd) x1 x2 hq e hd
def f_Mod_isOfGroup (F : Nat) (x1 : Int32) (m : aM) : Option Int32 :=
  ll_Mod_isOfGroup_2 F F x1 0 m
theorem s_Mod_isOfGroup {K : aK} {d bc bs : Nat} {g : aG} (s : SyM g) (F : Nat) (x1 : Int32) (m : aM) {r : Int32} (e : f_Mod_isOfGroup F x1 m = some r) (hd : 1 ≤ d) : Sp K M_Mod_isOfGroup d bc bs [.ref 242, .int x1] (g, m) (some (.int r)) (g, m) := by
  refine sp_of ok_Mod_isOfGroup rfl (Nat.le_of_ble_eq_true rfl) (by simp [Value.category]) (fun Q hq => ?_)
  unfold f_Mod_isOfGroup at e
  refine g_iconst (v := 0) k_Mod_isOfGroup_0 rfl ?_
  refine g_istore_n k_Mod_isOfGroup_1 rfl (by decide) ?_
  exact (t_Mod_isOfGroup_2 s F m F x1 0  hq e hd)
def lb_Mod_groupOf_49 (F : Nat) (rec_49 : Int32 → aM → Option Int32) (x2 : Int32) (m : aM) : Option Int32 :=
  o_gd (inb x2 8192) <|
  (if (m 8451 x2.toNatClampNeg) = 0 then
  some x2
  else
  o_b (f_Mod_isOfGroup F x2 m) fun y2 =>
  (if y2 = 0 then
  rec_49 ((x2 + 1) &&& 8191) m
  else
  some x2
  )
  )
theorem tb_Mod_groupOf_49 {K : aK} {d bc bs : Nat} {g : aG} (s : SyM g) {Q : aQ} {r : Int32} (F : Nat) (m : aM) (rec_49 : Int32 → aM → Option Int32) (hr_49 : ∀ (x2 : Int32), rec_49 x2 m = some r → G K M_Mod_groupOf d bc bs 49 [.ref 242, .double 0, .int x2] [] (g, m) Q) (x2 : Int32) (hq : Q (.inl (some (.int r))) (g, m)) (e : lb_Mod_groupOf_49 F rec_49 x2 m = some r) (hd : 2 ≤ d) : G K M_Mod_groupOf d bc bs 49 [.ref 242, .double 0, .int x2] [] (g, m) Q := by
  unfold lb_Mod_groupOf_49 at e
  refine g_aload_n k_Mod_groupOf_49 rfl rfl ?_
  refine p_getr k_Mod_groupOf_50 fl_Mod_66 rfl (sk_Mod s) (by decide) (sr_Mod_34 s) ?_
  refine g_iload_n k_Mod_groupOf_53 rfl rfl ?_
  obtain ⟨q1, e⟩ := o_gd_ex e
  refine p_zald k_Mod_groupOf_54 (sa_Mod_34 s) (inb_in q1) (j := x2.toNatClampNeg) rfl ?_
  refine g_if_eq (tgt := 77) k_Mod_groupOf_55 (by decide) (fun c => ?_) (fun c => ?_)
  · rw [if_pos c] at e
    refine g_iload_n k_Mod_groupOf_77 rfl rfl ?_
    refine g_iret k_Mod_groupOf_78 rfl ?_
    exact (by cases e; exact hq)
  · rw [if_neg c] at e
    refine g_aload_n k_Mod_groupOf_58 rfl rfl ?_
    refine g_iload_n k_Mod_groupOf_59 rfl rfl ?_
    obtain ⟨y2, e_y2, e⟩ := o_b_ex e
    refine g_cv k_Mod_groupOf_60 lv_Mod_296 (by decide +kernel) (T := F_Mod) (N := 61) (ci := 10) rfl (sk_Mod s) (s_Mod_isOfGroup (bc := 0) (bs := 0) s F x2 m e_y2 (by omega)) rfl rfl (Nat.le_of_ble_eq_true rfl) (by simp [Value.category]) (by omega) (by omega) (by omega) ?_
    refine g_if_ne (tgt := 77) k_Mod_groupOf_63 (by decide) (fun c => ?_) (fun c => ?_)
    · rw [if_pos c] at e
      refine g_iload_n k_Mod_groupOf_66 rfl rfl ?_
      refine g_iconst (v := 1) k_Mod_groupOf_67 rfl ?_
      refine g_iadd k_Mod_groupOf_68 ?_
      refine g_sipush (v := 8191) k_Mod_groupOf_69 rfl ?_
      refine g_iand k_Mod_groupOf_72 ?_
      refine g_istore_n k_Mod_groupOf_73 rfl (by decide) ?_
      refine g_goto (tgt := 49) k_Mod_groupOf_74 (by decide) ?_
      exact (hr_49 ((x2 + 1) &&& 8191)  e)
    · rw [if_neg c] at e
      refine g_iload_n k_Mod_groupOf_77 rfl rfl ?_
      refine g_iret k_Mod_groupOf_78 rfl ?_
      exact (by cases e; exact hq)
def ll_Mod_groupOf_49 (F : Nat) : Nat → Int32 → aM → Option Int32
  | 0, _, _ => none
  | N + 1, x2, m => lb_Mod_groupOf_49 F (ll_Mod_groupOf_49 F N) x2 m
theorem t_Mod_groupOf_49 {K : aK} {d bc bs : Nat} {g : aG} (s : SyM g) {Q : aQ} {r : Int32} (F : Nat) (m : aM) : ∀ (N : Nat) (x2 : Int32), Q (.inl (some (.int r))) (g, m) → ll_Mod_groupOf_49 F N x2 m = some r → 2 ≤ d → G K M_Mod_groupOf d bc bs 49 [.ref 242, .double 0, .int x2] [] (g, m) Q
  | 0, _ => fun _ e => nomatch e
  | N + 1, x2 => fun hq e hd => tb_Mod_groupOf_49 s F m (ll_Mod_groupOf_49 F N) (fun x2 e => t_Mod_groupOf_49 s F m N x2 hq e hd) x2 hq e hd
def lb_Mod_groupOf_5 (F : Nat) (rec_5 : Int32 → Int32 → aM → Option Int32) (x1 : Int32) (x2 : Int32) (m : aM) : Option Int32 :=
  (if 4 ≤ x2 then
  o_let (((x1 : Int32).toUInt32 >>> ((15 : Int32).toUInt32 &&& Int32.toUInt32 31)).toInt32) fun y1 =>
  ll_Mod_groupOf_49 F F ((x1 ^^^ y1) &&& 8191) m
  else
  o_gd (inb x2 4) <|
  o_let (((31 * x1) + (m 251 x2.toNatClampNeg))) fun y3 =>
  o_gd (inb x2 4) <|
  o_let (((31 * y3) + (m 256 x2.toNatClampNeg))) fun y5 =>
  rec_5 y5 (x2 + 1) m
  )
theorem tb_Mod_groupOf_5 {K : aK} {d bc bs : Nat} {g : aG} (s : SyM g) {Q : aQ} {r : Int32} (F : Nat) (m : aM) (rec_5 : Int32 → Int32 → aM → Option Int32) (hr_5 : ∀ (x1 : Int32) (x2 : Int32), rec_5 x1 x2 m = some r → G K M_Mod_groupOf d bc bs 5 [.ref 242, .int x1, .int x2] [] (g, m) Q) (x1 : Int32) (x2 : Int32) (hq : Q (.inl (some (.int r))) (g, m)) (e : lb_Mod_groupOf_5 F rec_5 x1 x2 m = some r) (hd : 2 ≤ d) : G K M_Mod_groupOf d bc bs 5 [.ref 242, .int x1, .int x2] [] (g, m) Q := by
  unfold lb_Mod_groupOf_5 at e
  refine g_iload_n k_Mod_groupOf_5 rfl rfl ?_
  refine g_iconst (v := 4) k_Mod_groupOf_6 rfl ?_
  refine g_icmp_ge (tgt := 38) k_Mod_groupOf_7 (by decide) (fun c => ?_) (fun c => ?_)
  · rw [if_pos c] at e
    refine g_iload_n k_Mod_groupOf_38 rfl rfl ?_
    refine g_iload_n k_Mod_groupOf_39 rfl rfl ?_
    refine g_bipush (v := 15) k_Mod_groupOf_40 rfl ?_
    refine g_iushr k_Mod_groupOf_42 ?_
    obtain ⟨y1, u_y1, e⟩ := o_let_ex e
    refine G.vy u_y1 ?_
    refine g_ixor k_Mod_groupOf_43 ?_
    refine g_sipush (v := 8191) k_Mod_groupOf_44 rfl ?_
    refine g_iand k_Mod_groupOf_47 ?_
    refine g_istore_n k_Mod_groupOf_48 rfl (by decide) ?_
    exact G.wl (wls (wld (wls wl0))) (t_Mod_groupOf_49 s F m F ((x1 ^^^ y1) &&& 8191)  hq e hd)
  · rw [if_neg c] at e
    refine g_bipush (v := 31) k_Mod_groupOf_10 rfl ?_
    refine g_bipush (v := 31) k_Mod_groupOf_12 rfl ?_
    refine g_iload_n k_Mod_groupOf_14 rfl rfl ?_
    refine g_imul k_Mod_groupOf_15 ?_
    refine g_aload_n k_Mod_groupOf_16 rfl rfl ?_
    refine p_getr k_Mod_groupOf_17 fl_Mod_40 rfl (sk_Mod s) (by decide) (sr_Mod_26 s) ?_
    refine g_iload_n k_Mod_groupOf_20 rfl rfl ?_
    obtain ⟨q2, e⟩ := o_gd_ex e
    refine p_iald k_Mod_groupOf_21 (sa_Mod_26 s) (inb_in q2) (j := x2.toNatClampNeg) rfl ?_
    refine g_iadd k_Mod_groupOf_22 ?_
    obtain ⟨y3, u_y3, e⟩ := o_let_ex e
    refine G.vy u_y3 ?_
    refine g_imul k_Mod_groupOf_23 ?_
    refine g_aload_n k_Mod_groupOf_24 rfl rfl ?_
    refine p_getr k_Mod_groupOf_25 fl_Mod_55 rfl (sk_Mod s) (by decide) (sr_Mod_31 s) ?_
    refine g_iload_n k_Mod_groupOf_28 rfl rfl ?_
    obtain ⟨q4, e⟩ := o_gd_ex e
    refine p_iald k_Mod_groupOf_29 (sa_Mod_31 s) (inb_in q4) (j := x2.toNatClampNeg) rfl ?_
    refine g_iadd k_Mod_groupOf_30 ?_
    obtain ⟨y5, u_y5, e⟩ := o_let_ex e
    refine G.vy u_y5 ?_
    refine g_istore_n k_Mod_groupOf_31 rfl (by decide) ?_
    refine g_iinc (v := _ + 1) k_Mod_groupOf_32 rfl rfl (by decide) ?_
    refine g_goto (tgt := 5) k_Mod_groupOf_35 (by decide) ?_
    exact (hr_5 y5 (x2 + 1)  e)
def ll_Mod_groupOf_5 (F : Nat) : Nat → Int32 → Int32 → aM → Option Int32
  | 0, _, _, _ => none
  | N + 1, x1, x2, m => lb_Mod_groupOf_5 F (ll_Mod_groupOf_5 F N) x1 x2 m
theorem t_Mod_groupOf_5 {K : aK} {d bc bs : Nat} {g : aG} (s : SyM g) {Q : aQ} {r : Int32} (F : Nat) (m : aM) : ∀ (N : Nat) (x1 : Int32) (x2 : Int32), Q (.inl (some (.int r))) (g, m) → ll_Mod_groupOf_5 F N x1 x2 m = some r → 2 ≤ d → G K M_Mod_groupOf d bc bs 5 [.ref 242, .int x1, .int x2] [] (g, m) Q
  | 0, _, _ => fun _ e => nomatch e
  | N + 1, x1, x2 => fun hq e hd => tb_Mod_groupOf_5 s F m (ll_Mod_groupOf_5 F N) (fun x1 x2 e => t_Mod_groupOf_5 s F m N x1 x2 hq e hd) x1 x2 hq e hd
def f_Mod_groupOf (F : Nat)  (m : aM) : Option Int32 :=
  ll_Mod_groupOf_5 F F 17 0 m
theorem s_Mod_groupOf {K : aK} {d bc bs : Nat} {g : aG} (s : SyM g) (F : Nat)  (m : aM) {r : Int32} (e : f_Mod_groupOf F  m = some r) (hd : 2 ≤ d) : Sp K M_Mod_groupOf d bc bs [.ref 242] (g, m) (some (.int r)) (g, m) := by
  refine sp_of ok_Mod_groupOf rfl (Nat.le_of_ble_eq_true rfl) (by simp [Value.category]) (fun Q hq => ?_)
  unfold f_Mod_groupOf at e
  refine g_bipush (v := 17) k_Mod_groupOf_0 rfl ?_
  refine g_istore_n k_Mod_groupOf_2 rfl (by decide) ?_
  refine g_iconst (v := 0) k_Mod_groupOf_3 rfl ?_
  refine g_istore_n k_Mod_groupOf_4 rfl (by decide) ?_
  exact (t_Mod_groupOf_5 s F m F 17 0  hq e hd)
def b_Mod_lost_140 (F : Nat) (rec_35 : Int32 → Int32 → aM → Option (Int32 × aM)) (rec_51 : Int32 → Int32 → Int32 → aM → Option (Int32 × aM)) (x1 : Int32) (x3 : Int32) (x4 : Int32) (m : aM) : Option (Int32 × aM) :=
  rec_51 x1 x3 (x4 + 1) m
theorem t_Mod_lost_140 {K : aK} {d bc bs : Nat} {g : aG} (s : SyM g) {Q : aQ} {r : Int32} {m' : aM} (F : Nat) (rec_35 : Int32 → Int32 → aM → Option (Int32 × aM)) (hr_35 : ∀ (x1 : Int32) (x2 : Int32) (m : aM), rec_35 x1 x2 m = some (r, m') → G K M_Mod_lost d bc bs 35 [.ref 242, .int x1, .int x2, .double 0, .double 0] [] (g, m) Q) (rec_51 : Int32 → Int32 → Int32 → aM → Option (Int32 × aM)) (hr_51 : ∀ (x1 : Int32) (x3 : Int32) (x4 : Int32) (m : aM), rec_51 x1 x3 x4 m = some (r, m') → G K M_Mod_lost d bc bs 51 [.ref 242, .int x1, .double 0, .int x3, .int x4] [] (g, m) Q) (x1 : Int32) (x3 : Int32) (x4 : Int32) (m : aM) (hq : Q (.inl (some (.int r))) (g, m')) (e : b_Mod_lost_140 F rec_35 rec_51 x1 x3 x4 m = some (r, m')) (hd : 400 ≤ d) : G K M_Mod_lost d bc bs 140 [.ref 242, .int x1, .double 0, .int x3, .int x4] [] (g, m) Q := by
  unfold b_Mod_lost_140 at e
  refine g_iinc (v := _ + 1) k_Mod_lost_140 rfl rfl (by decide) ?_
  refine g_goto (tgt := 51) k_Mod_lost_143 (by decide) ?_
  exact (hr_51 x1 x3 (x4 + 1) m e)
def lb_Mod_lost_51 (F : Nat) (rec_35 : Int32 → Int32 → aM → Option (Int32 × aM)) (rec_51 : Int32 → Int32 → Int32 → aM → Option (Int32 × aM)) (x1 : Int32) (x3 : Int32) (x4 : Int32) (m : aM) : Option (Int32 × aM) :=
  (if 4 ≤ x4 then
  o_gd (inb x3 8192) <|
  o_let (a_st m 8451 x3.toNatClampNeg 1) fun m2 =>
  o_b2 (f_Mod_goesOn F  m2) fun y3 m4 =>
  rec_35 x1 y3 m4
  else
  o_gd (inb x3 8192) <|
  (if (m 8451 x3.toNatClampNeg) = 0 then
  o_gd (inb x3 8192) <|
  o_gd (inb x4 4) <|
  o_gd (inb x4 9) <|
  o_let (a_st m (259 + x3.toNatClampNeg) x4.toNatClampNeg (m 251 x4.toNatClampNeg)) fun m9 =>
  o_gd (inb x3 8192) <|
  o_gd (inb x4 4) <|
  o_gd (inb (x4 + 4) 9) <|
  o_let (a_st m9 (259 + x3.toNatClampNeg) ((x4 + 4).toNatClampNeg) (m9 255 x4.toNatClampNeg)) fun m13 =>
  b_Mod_lost_140 F rec_35 rec_51 x1 x3 x4 m13
  else
  o_b (f_Mod_isKept x4 m) fun y14 =>
  (if y14 = 0 then
  o_gd (inb x3 8192) <|
  o_gd (inb (x4 + 4) 9) <|
  o_let ((m (259 + x3.toNatClampNeg) ((x4 + 4).toNatClampNeg))) fun y17 =>
  o_gd (inb x4 4) <|
  (if y17 = (m 255 x4.toNatClampNeg) then
  b_Mod_lost_140 F rec_35 rec_51 x1 x3 x4 m
  else
  o_let (((1 : Int32) <<< (x4 &&& 31))) fun y19 =>
  b_Mod_lost_140 F rec_35 rec_51 (x1 ||| y19) x3 x4 m
  )
  else
  b_Mod_lost_140 F rec_35 rec_51 x1 x3 x4 m
  )
  )
  )
theorem tb_Mod_lost_51 {K : aK} {d bc bs : Nat} {g : aG} (s : SyM g) {Q : aQ} {r : Int32} {m' : aM} (F : Nat) (rec_35 : Int32 → Int32 → aM → Option (Int32 × aM)) (hr_35 : ∀ (x1 : Int32) (x2 : Int32) (m : aM), rec_35 x1 x2 m = some (r, m') → G K M_Mod_lost d bc bs 35 [.ref 242, .int x1, .int x2, .double 0, .double 0] [] (g, m) Q) (rec_51 : Int32 → Int32 → Int32 → aM → Option (Int32 × aM)) (hr_51 : ∀ (x1 : Int32) (x3 : Int32) (x4 : Int32) (m : aM), rec_51 x1 x3 x4 m = some (r, m') → G K M_Mod_lost d bc bs 51 [.ref 242, .int x1, .double 0, .int x3, .int x4] [] (g, m) Q) (x1 : Int32) (x3 : Int32) (x4 : Int32) (m : aM) (hq : Q (.inl (some (.int r))) (g, m')) (e : lb_Mod_lost_51 F rec_35 rec_51 x1 x3 x4 m = some (r, m')) (hd : 400 ≤ d) : G K M_Mod_lost d bc bs 51 [.ref 242, .int x1, .double 0, .int x3, .int x4] [] (g, m) Q := by
  unfold lb_Mod_lost_51 at e
  refine g_iload k_Mod_lost_51 rfl ?_
  refine g_iconst (v := 4) k_Mod_lost_53 rfl ?_
  refine g_icmp_ge (tgt := 146) k_Mod_lost_54 (by decide) (fun c => ?_) (fun c => ?_)
  · rw [if_pos c] at e
    refine g_aload_n k_Mod_lost_146 rfl rfl ?_
    refine p_getr k_Mod_lost_147 fl_Mod_66 rfl (sk_Mod s) (by decide) (sr_Mod_34 s) ?_
    refine g_iload_n k_Mod_lost_150 rfl rfl ?_
    refine g_iconst (v := 1) k_Mod_lost_151 rfl ?_
    obtain ⟨q1, e⟩ := o_gd_ex e
    refine p_zast k_Mod_lost_152 (sa_Mod_34 s) (inb_in q1) (j := x3.toNatClampNeg) rfl (by decide) ?_
    obtain ⟨m2, u_m2, e⟩ := o_let_ex e
    refine G.hm u_m2 ?_
    refine g_aload_n k_Mod_lost_153 rfl rfl ?_
    obtain ⟨y3, m4, e_y3, e⟩ := o_b2_ex e
    refine g_cv k_Mod_lost_154 lv_Mod_289 (by decide +kernel) (T := F_Mod) (N := 61) (ci := 10) rfl (sk_Mod s) (s_Mod_goesOn (bc := 0) (bs := 0) s F  m2 e_y3) rfl rfl (Nat.le_of_ble_eq_true rfl) (by simp [Value.category]) (by omega) (by omega) (by omega) ?_
    refine g_istore_n k_Mod_lost_157 rfl (by decide) ?_
    refine g_goto (tgt := 35) k_Mod_lost_158 (by decide) ?_
    exact G.wl (wls (wls (wls (wld (wld wl0))))) (hr_35 x1 y3 m4 e)
  · rw [if_neg c] at e
    refine g_aload_n k_Mod_lost_57 rfl rfl ?_
    refine p_getr k_Mod_lost_58 fl_Mod_66 rfl (sk_Mod s) (by decide) (sr_Mod_34 s) ?_
    refine g_iload_n k_Mod_lost_61 rfl rfl ?_
    obtain ⟨q5, e⟩ := o_gd_ex e
    refine p_zald k_Mod_lost_62 (sa_Mod_34 s) (inb_in q5) (j := x3.toNatClampNeg) rfl ?_
    refine g_if_eq (tgt := 106) k_Mod_lost_63 (by decide) (fun c => ?_) (fun c => ?_)
    · rw [if_pos c] at e
      refine g_aload_n k_Mod_lost_106 rfl rfl ?_
      refine p_getr k_Mod_lost_107 fl_Mod_63 rfl (sk_Mod s) (by decide) (sr_Mod_33 s) ?_
      refine g_iload_n k_Mod_lost_110 rfl rfl ?_
      obtain ⟨q6, e⟩ := o_gd_ex e
      refine p_aald k_Mod_lost_111 (sa_Mod_33 s) (by decide) (by decide) (inb_in q6) (j := x3.toNatClampNeg) rfl (si_Mod_33 s _ (vp_lt (inb_in q6))).1 ?_
      refine g_iload k_Mod_lost_112 rfl ?_
      refine g_aload_n k_Mod_lost_114 rfl rfl ?_
      refine p_getr k_Mod_lost_115 fl_Mod_40 rfl (sk_Mod s) (by decide) (sr_Mod_26 s) ?_
      refine g_iload k_Mod_lost_118 rfl ?_
      obtain ⟨q7, e⟩ := o_gd_ex e
      refine p_iald k_Mod_lost_120 (sa_Mod_26 s) (inb_in q7) (j := x4.toNatClampNeg) rfl ?_
      obtain ⟨q8, e⟩ := o_gd_ex e
      refine p_iast k_Mod_lost_121 (si_Mod_33 s _ (vp_lt (inb_in q6))).2 (inb_in q8) (j := x4.toNatClampNeg) rfl ?_
      obtain ⟨m9, u_m9, e⟩ := o_let_ex e
      refine G.hm u_m9 ?_
      refine g_aload_n k_Mod_lost_122 rfl rfl ?_
      refine p_getr k_Mod_lost_123 fl_Mod_63 rfl (sk_Mod s) (by decide) (sr_Mod_33 s) ?_
      refine g_iload_n k_Mod_lost_126 rfl rfl ?_
      obtain ⟨q10, e⟩ := o_gd_ex e
      refine p_aald k_Mod_lost_127 (sa_Mod_33 s) (by decide) (by decide) (inb_in q10) (j := x3.toNatClampNeg) rfl (si_Mod_33 s _ (vp_lt (inb_in q10))).1 ?_
      refine g_iload k_Mod_lost_128 rfl ?_
      refine g_iconst (v := 4) k_Mod_lost_130 rfl ?_
      refine g_iadd k_Mod_lost_131 ?_
      refine g_aload_n k_Mod_lost_132 rfl rfl ?_
      refine p_getr k_Mod_lost_133 fl_Mod_52 rfl (sk_Mod s) (by decide) (sr_Mod_30 s) ?_
      refine g_iload k_Mod_lost_136 rfl ?_
      obtain ⟨q11, e⟩ := o_gd_ex e
      refine p_iald k_Mod_lost_138 (sa_Mod_30 s) (inb_in q11) (j := x4.toNatClampNeg) rfl ?_
      obtain ⟨q12, e⟩ := o_gd_ex e
      refine p_iast k_Mod_lost_139 (si_Mod_33 s _ (vp_lt (inb_in q10))).2 (inb_in q12) (j := (x4 + 4).toNatClampNeg) rfl ?_
      obtain ⟨m13, u_m13, e⟩ := o_let_ex e
      refine G.hm u_m13 ?_
      exact (t_Mod_lost_140 s F rec_35 hr_35 rec_51 hr_51 x1 x3 x4 m13 hq e hd)
    · rw [if_neg c] at e
      refine g_aload_n k_Mod_lost_66 rfl rfl ?_
      refine g_iload k_Mod_lost_67 rfl ?_
      obtain ⟨y14, e_y14, e⟩ := o_b_ex e
      refine g_cv k_Mod_lost_69 lv_Mod_274 (by decide +kernel) (T := F_Mod) (N := 61) (ci := 10) rfl (sk_Mod s) (s_Mod_isKept (bc := 0) (bs := 0) s x4 m e_y14) rfl rfl (Nat.le_of_ble_eq_true rfl) (by simp [Value.category]) (by omega) (by omega) (by omega) ?_
      refine g_if_ne (tgt := 140) k_Mod_lost_72 (by decide) (fun c => ?_) (fun c => ?_)
      · rw [if_pos c] at e
        refine g_aload_n k_Mod_lost_75 rfl rfl ?_
        refine p_getr k_Mod_lost_76 fl_Mod_63 rfl (sk_Mod s) (by decide) (sr_Mod_33 s) ?_
        refine g_iload_n k_Mod_lost_79 rfl rfl ?_
        obtain ⟨q15, e⟩ := o_gd_ex e
        refine p_aald k_Mod_lost_80 (sa_Mod_33 s) (by decide) (by decide) (inb_in q15) (j := x3.toNatClampNeg) rfl (si_Mod_33 s _ (vp_lt (inb_in q15))).1 ?_
        refine g_iload k_Mod_lost_81 rfl ?_
        refine g_iconst (v := 4) k_Mod_lost_83 rfl ?_
        refine g_iadd k_Mod_lost_84 ?_
        obtain ⟨q16, e⟩ := o_gd_ex e
        refine p_iald k_Mod_lost_85 (si_Mod_33 s _ (vp_lt (inb_in q15))).2 (inb_in q16) (j := (x4 + 4).toNatClampNeg) rfl ?_
        obtain ⟨y17, u_y17, e⟩ := o_let_ex e
        refine G.vy u_y17 ?_
        refine g_aload_n k_Mod_lost_86 rfl rfl ?_
        refine p_getr k_Mod_lost_87 fl_Mod_52 rfl (sk_Mod s) (by decide) (sr_Mod_30 s) ?_
        refine g_iload k_Mod_lost_90 rfl ?_
        obtain ⟨q18, e⟩ := o_gd_ex e
        refine p_iald k_Mod_lost_92 (sa_Mod_30 s) (inb_in q18) (j := x4.toNatClampNeg) rfl ?_
        refine g_icmp_eq (tgt := 140) k_Mod_lost_93 (by decide) (fun c => ?_) (fun c => ?_)
        · rw [if_pos c] at e
          exact (t_Mod_lost_140 s F rec_35 hr_35 rec_51 hr_51 x1 x3 x4 m hq e hd)
        · rw [if_neg c] at e
          refine g_iload_n k_Mod_lost_96 rfl rfl ?_
          refine g_iconst (v := 1) k_Mod_lost_97 rfl ?_
          refine g_iload k_Mod_lost_98 rfl ?_
          refine g_ishl k_Mod_lost_100 ?_
          obtain ⟨y19, u_y19, e⟩ := o_let_ex e
          refine G.vy u_y19 ?_
          refine g_ior k_Mod_lost_101 ?_
          refine g_istore_n k_Mod_lost_102 rfl (by decide) ?_
          refine g_goto (tgt := 140) k_Mod_lost_103 (by decide) ?_
          exact (t_Mod_lost_140 s F rec_35 hr_35 rec_51 hr_51 (x1 ||| y19) x3 x4 m hq e hd)
      · rw [if_neg c] at e
        exact (t_Mod_lost_140 s F rec_35 hr_35 rec_51 hr_51 x1 x3 x4 m hq e hd)
def ll_Mod_lost_51 (F : Nat) (rec_35 : Int32 → Int32 → aM → Option (Int32 × aM)) : Nat → Int32 → Int32 → Int32 → aM → Option (Int32 × aM)
  | 0, _, _, _, _ => none
  | N + 1, x1, x3, x4, m => lb_Mod_lost_51 F rec_35 (ll_Mod_lost_51 F rec_35 N) x1 x3 x4 m
theorem t_Mod_lost_51 {K : aK} {d bc bs : Nat} {g : aG} (s : SyM g) {Q : aQ} {r : Int32} {m' : aM} (F : Nat) (rec_35 : Int32 → Int32 → aM → Option (Int32 × aM)) (hr_35 : ∀ (x1 : Int32) (x2 : Int32) (m : aM), rec_35 x1 x2 m = some (r, m') → G K M_Mod_lost d bc bs 35 [.ref 242, .int x1, .int x2, .double 0, .double 0] [] (g, m) Q) : ∀ (N : Nat) (x1 : Int32) (x3 : Int32) (x4 : Int32) (m : aM), Q (.inl (some (.int r))) (g, m') → ll_Mod_lost_51 F rec_35 N x1 x3 x4 m = some (r, m') → 400 ≤ d → G K M_Mod_lost d bc bs 51 [.ref 242, .int x1, .double 0, .int x3, .int x4] [] (g, m) Q
  | 0, _, _, _, _ => fun _ e => nomatch e
  | N + 1, x1, x3, x4, m => fun hq e hd => tb_Mod_lost_51 s F rec_35 hr_35 (ll_Mod_lost_51 F rec_35 N) (fun x1 x3 x4 m e => t_Mod_lost_51 s F rec_35 hr_35 N x1 x3 x4 m hq e hd) x1 x3 x4 m hq e hd
def lb_Mod_lost_35 (F : Nat) (rec_35 : Int32 → Int32 → aM → Option (Int32 × aM)) (x1 : Int32) (x2 : Int32) (m : aM) : Option (Int32 × aM) :=
  (if x2 = 0 then
  some (x1, m)
  else
  o_b2 (f_Mod_seesRow F  m) fun y1 m2 =>
  o_b (f_Mod_groupOf F  m2) fun y3 =>
  ll_Mod_lost_51 F rec_35 F x1 y3 0 m2
  )
theorem tb_Mod_lost_35 {K : aK} {d bc bs : Nat} {g : aG} (s : SyM g) {Q : aQ} {r : Int32} {m' : aM} (F : Nat) (rec_35 : Int32 → Int32 → aM → Option (Int32 × aM)) (hr_35 : ∀ (x1 : Int32) (x2 : Int32) (m : aM), rec_35 x1 x2 m = some (r, m') → G K M_Mod_lost d bc bs 35 [.ref 242, .int x1, .int x2, .double 0, .double 0] [] (g, m) Q) (x1 : Int32) (x2 : Int32) (m : aM) (hq : Q (.inl (some (.int r))) (g, m')) (e : lb_Mod_lost_35 F rec_35 x1 x2 m = some (r, m')) (hd : 400 ≤ d) : G K M_Mod_lost d bc bs 35 [.ref 242, .int x1, .int x2, .double 0, .double 0] [] (g, m) Q := by
  unfold lb_Mod_lost_35 at e
  refine g_iload_n k_Mod_lost_35 rfl rfl ?_
  refine g_if_eq (tgt := 161) k_Mod_lost_36 (by decide) (fun c => ?_) (fun c => ?_)
  · rw [if_pos c] at e
    refine g_iload_n k_Mod_lost_161 rfl rfl ?_
    refine g_iret k_Mod_lost_162 rfl ?_
    exact (by cases e; exact hq)
  · rw [if_neg c] at e
    refine g_aload_n k_Mod_lost_39 rfl rfl ?_
    obtain ⟨y1, m2, e_y1, e⟩ := o_b2_ex e
    refine g_cv k_Mod_lost_40 lv_Mod_280 (by decide +kernel) (T := F_Mod) (N := 61) (ci := 10) rfl (sk_Mod s) (s_Mod_seesRow (bc := 0) (bs := 0) s F  m e_y1 (by omega)) rfl rfl (Nat.le_of_ble_eq_true rfl) (by simp [Value.category]) (by omega) (by omega) (by omega) ?_
    refine g_aload_n k_Mod_lost_43 rfl rfl ?_
    obtain ⟨y3, e_y3, e⟩ := o_b_ex e
    refine g_cv k_Mod_lost_44 lv_Mod_299 (by decide +kernel) (T := F_Mod) (N := 61) (ci := 10) rfl (sk_Mod s) (s_Mod_groupOf (bc := 0) (bs := 0) s F  m2 e_y3 (by omega)) rfl rfl (Nat.le_of_ble_eq_true rfl) (by simp [Value.category]) (by omega) (by omega) (by omega) ?_
    refine g_istore_n k_Mod_lost_47 rfl (by decide) ?_
    refine g_iconst (v := 0) k_Mod_lost_48 rfl ?_
    refine g_istore k_Mod_lost_49 (by decide) ?_
    exact G.wl (wls (wls (wld (wls (wls wl0))))) (t_Mod_lost_51 s F rec_35 hr_35 F x1 y3 0 m2 hq e hd)
def ll_Mod_lost_35 (F : Nat) : Nat → Int32 → Int32 → aM → Option (Int32 × aM)
  | 0, _, _, _ => none
  | N + 1, x1, x2, m => lb_Mod_lost_35 F (ll_Mod_lost_35 F N) x1 x2 m
theorem t_Mod_lost_35 {K : aK} {d bc bs : Nat} {g : aG} (s : SyM g) {Q : aQ} {r : Int32} {m' : aM} (F : Nat) : ∀ (N : Nat) (x1 : Int32) (x2 : Int32) (m : aM), Q (.inl (some (.int r))) (g, m') → ll_Mod_lost_35 F N x1 x2 m = some (r, m') → 400 ≤ d → G K M_Mod_lost d bc bs 35 [.ref 242, .int x1, .int x2, .double 0, .double 0] [] (g, m) Q
  | 0, _, _, _ => fun _ e => nomatch e
  | N + 1, x1, x2, m => fun hq e hd => tb_Mod_lost_35 s F (ll_Mod_lost_35 F N) (fun x1 x2 m e => t_Mod_lost_35 s F N x1 x2 m hq e hd) x1 x2 m hq e hd
def lb_Mod_lost_9 (F : Nat) (rec_9 : Int32 → Int32 → aM → Option (Int32 × aM)) (x1 : Int32) (x2 : Int32) (m : aM) : Option (Int32 × aM) :=
  (if 8192 ≤ x2 then
  o_b2 (f_Mod_begin F  m) fun y1 m2 =>
  ll_Mod_lost_35 F F x1 1 m2
  else
  o_gd (inb x2 8192) <|
  o_let (a_st m 8451 x2.toNatClampNeg 0) fun m4 =>
  rec_9 x1 (x2 + 1) m4
  )
theorem tb_Mod_lost_9 {K : aK} {d bc bs : Nat} {g : aG} (s : SyM g) {Q : aQ} {r : Int32} {m' : aM} (F : Nat) (rec_9 : Int32 → Int32 → aM → Option (Int32 × aM)) (hr_9 : ∀ (x1 : Int32) (x2 : Int32) (m : aM), rec_9 x1 x2 m = some (r, m') → G K M_Mod_lost d bc bs 9 [.ref 242, .int x1, .int x2, .double 0, .double 0] [] (g, m) Q) (x1 : Int32) (x2 : Int32) (m : aM) (hq : Q (.inl (some (.int r))) (g, m')) (e : lb_Mod_lost_9 F rec_9 x1 x2 m = some (r, m')) (hd : 400 ≤ d) : G K M_Mod_lost d bc bs 9 [.ref 242, .int x1, .int x2, .double 0, .double 0] [] (g, m) Q := by
  unfold lb_Mod_lost_9 at e
  refine g_iload_n k_Mod_lost_9 rfl rfl ?_
  refine g_sipush (v := 8192) k_Mod_lost_10 rfl ?_
  refine g_icmp_ge (tgt := 29) k_Mod_lost_13 (by decide) (fun c => ?_) (fun c => ?_)
  · rw [if_pos c] at e
    refine g_aload_n k_Mod_lost_29 rfl rfl ?_
    obtain ⟨y1, m2, e_y1, e⟩ := o_b2_ex e
    refine g_cv k_Mod_lost_30 lv_Mod_283 (by decide +kernel) (T := F_Mod) (N := 61) (ci := 10) rfl (sk_Mod s) (s_Mod_begin (bc := 0) (bs := 0) s F  m e_y1) rfl rfl (Nat.le_of_ble_eq_true rfl) (by simp [Value.category]) (by omega) (by omega) (by omega) ?_
    refine g_iconst (v := 1) k_Mod_lost_33 rfl ?_
    refine g_istore_n k_Mod_lost_34 rfl (by decide) ?_
    exact (t_Mod_lost_35 s F F x1 1 m2 hq e hd)
  · rw [if_neg c] at e
    refine g_aload_n k_Mod_lost_16 rfl rfl ?_
    refine p_getr k_Mod_lost_17 fl_Mod_66 rfl (sk_Mod s) (by decide) (sr_Mod_34 s) ?_
    refine g_iload_n k_Mod_lost_20 rfl rfl ?_
    refine g_iconst (v := 0) k_Mod_lost_21 rfl ?_
    obtain ⟨q3, e⟩ := o_gd_ex e
    refine p_zast k_Mod_lost_22 (sa_Mod_34 s) (inb_in q3) (j := x2.toNatClampNeg) rfl (by decide) ?_
    obtain ⟨m4, u_m4, e⟩ := o_let_ex e
    refine G.hm u_m4 ?_
    refine g_iinc (v := _ + 1) k_Mod_lost_23 rfl rfl (by decide) ?_
    refine g_goto (tgt := 9) k_Mod_lost_26 (by decide) ?_
    exact (hr_9 x1 (x2 + 1) m4 e)
def ll_Mod_lost_9 (F : Nat) : Nat → Int32 → Int32 → aM → Option (Int32 × aM)
  | 0, _, _, _ => none
  | N + 1, x1, x2, m => lb_Mod_lost_9 F (ll_Mod_lost_9 F N) x1 x2 m
theorem t_Mod_lost_9 {K : aK} {d bc bs : Nat} {g : aG} (s : SyM g) {Q : aQ} {r : Int32} {m' : aM} (F : Nat) : ∀ (N : Nat) (x1 : Int32) (x2 : Int32) (m : aM), Q (.inl (some (.int r))) (g, m') → ll_Mod_lost_9 F N x1 x2 m = some (r, m') → 400 ≤ d → G K M_Mod_lost d bc bs 9 [.ref 242, .int x1, .int x2, .double 0, .double 0] [] (g, m) Q
  | 0, _, _, _ => fun _ e => nomatch e
  | N + 1, x1, x2, m => fun hq e hd => tb_Mod_lost_9 s F (ll_Mod_lost_9 F N) (fun x1 x2 m e => t_Mod_lost_9 s F N x1 x2 m hq e hd) x1 x2 m hq e hd
def f_Mod_lost (F : Nat)  (m : aM) : Option (Int32 × aM) :=
  o_let (a_st m 242 0 0) fun m1 =>
  ll_Mod_lost_9 F F 0 0 m1
theorem s_Mod_lost {K : aK} {d bc bs : Nat} {g : aG} (s : SyM g) (F : Nat)  (m : aM) {r : Int32} {m' : aM} (e : f_Mod_lost F  m = some (r, m')) (hd : 400 ≤ d) : Sp K M_Mod_lost d bc bs [.ref 242] (g, m) (some (.int r)) (g, m') := by
  refine sp_of ok_Mod_lost rfl (Nat.le_of_ble_eq_true rfl) (by simp [Value.category]) (fun Q hq => ?_)
  unfold f_Mod_lost at e
  refine g_aload_n k_Mod_lost_0 rfl rfl ?_
  refine g_iconst (v := 0) k_Mod_lost_1 rfl ?_
  refine p_puti k_Mod_lost_2 fl_Mod_131 rfl ⟨R_Mod, F_Mod, 61, rfl, Or.inl rfl⟩ (sk_Mod s) (by decide) ?_
  obtain ⟨m1, u_m1, e⟩ := o_let_ex e
  refine G.hm u_m1 ?_
  refine g_iconst (v := 0) k_Mod_lost_5 rfl ?_
  refine g_istore_n k_Mod_lost_6 rfl (by decide) ?_
  refine g_iconst (v := 0) k_Mod_lost_7 rfl ?_
  refine g_istore_n k_Mod_lost_8 rfl (by decide) ?_
  exact (t_Mod_lost_9 s F F 0 0 m1 hq e hd)
