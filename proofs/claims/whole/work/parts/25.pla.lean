/-! Plan (made by wip/gen/auto2.py) -/
def f_Pla_addChange  (m : aM) : Option (Int32 × aM) :=
  (if (m 29 5) < 3 then
  o_let (a_st m 29 5 ((m 29 5) + 1)) fun m1 =>
  o_let (a_st m1 29 7 ((m1 29 7) + 1)) fun m2 =>
  some (((m2 29 5) - 1), m2)
  else
  some ((-1), m)
  )
theorem s_Pla_addChange {K : aK} {d bc bs : Nat} {g : aG} (s : Sys g)  (m : aM) {r : Int32} {m' : aM} (e : f_Pla_addChange  m = some (r, m')) : Sp K M_Pla_addChange d bc bs [.ref 29] (g, m) (some (.int r)) (g, m') := by
  refine sp_of ok_Pla_addChange rfl (Nat.le_of_ble_eq_true rfl) (by simp [Value.category]) (fun Q hq => ?_)
  unfold f_Pla_addChange at e
  refine g_aload_n k_Pla_addChange_0 rfl rfl ?_
  refine p_geti k_Pla_addChange_1 fl_Pla_32 rfl (sk_Pla (sy_Pla s)) (by decide) ?_
  refine g_iconst (v := 3) k_Pla_addChange_4 rfl ?_
  refine g_icmp_lt (tgt := 10) k_Pla_addChange_5 (by decide) (fun c => ?_) (fun c => ?_)
  · rw [if_pos c] at e
    refine g_aload_n k_Pla_addChange_10 rfl rfl ?_
    refine g_dup k_Pla_addChange_11 rfl ?_
    refine p_geti k_Pla_addChange_12 fl_Pla_32 rfl (sk_Pla (sy_Pla s)) (by decide) ?_
    refine g_iconst (v := 1) k_Pla_addChange_15 rfl ?_
    refine g_iadd k_Pla_addChange_16 ?_
    refine p_puti k_Pla_addChange_17 fl_Pla_32 rfl ⟨R_Pla, F_Pla, 8, rfl, Or.inl rfl⟩ (sk_Pla (sy_Pla s)) (by decide) ?_
    obtain ⟨m1, u_m1, e⟩ := o_let_ex e
    refine G.hm u_m1 ?_
    refine g_aload_n k_Pla_addChange_20 rfl rfl ?_
    refine g_dup k_Pla_addChange_21 rfl ?_
    refine p_geti k_Pla_addChange_22 fl_Pla_28 rfl (sk_Pla (sy_Pla s)) (by decide) ?_
    refine g_iconst (v := 1) k_Pla_addChange_25 rfl ?_
    refine g_iadd k_Pla_addChange_26 ?_
    refine p_puti k_Pla_addChange_27 fl_Pla_28 rfl ⟨R_Pla, F_Pla, 8, rfl, Or.inl rfl⟩ (sk_Pla (sy_Pla s)) (by decide) ?_
    obtain ⟨m2, u_m2, e⟩ := o_let_ex e
    refine G.hm u_m2 ?_
    refine g_aload_n k_Pla_addChange_30 rfl rfl ?_
    refine p_geti k_Pla_addChange_31 fl_Pla_32 rfl (sk_Pla (sy_Pla s)) (by decide) ?_
    refine g_iconst (v := 1) k_Pla_addChange_34 rfl ?_
    refine g_isub k_Pla_addChange_35 ?_
    refine g_iret k_Pla_addChange_36 rfl ?_
    exact (by cases e; exact hq)
  · rw [if_neg c] at e
    refine g_iconst (v := (-1)) k_Pla_addChange_8 rfl ?_
    refine g_iret k_Pla_addChange_9 rfl ?_
    exact (by cases e; exact hq)
def f_Pla_addProgram  (m : aM) : Option (Int32 × aM) :=
  (if (m 29 6) < 5 then
  o_let (a_st m 29 6 ((m 29 6) + 1)) fun m1 =>
  o_let (a_st m1 29 7 ((m1 29 7) + 1)) fun m2 =>
  some (((m2 29 6) - 1), m2)
  else
  some ((-1), m)
  )
theorem s_Pla_addProgram {K : aK} {d bc bs : Nat} {g : aG} (s : Sys g)  (m : aM) {r : Int32} {m' : aM} (e : f_Pla_addProgram  m = some (r, m')) : Sp K M_Pla_addProgram d bc bs [.ref 29] (g, m) (some (.int r)) (g, m') := by
  refine sp_of ok_Pla_addProgram rfl (Nat.le_of_ble_eq_true rfl) (by simp [Value.category]) (fun Q hq => ?_)
  unfold f_Pla_addProgram at e
  refine g_aload_n k_Pla_addProgram_0 rfl rfl ?_
  refine p_geti k_Pla_addProgram_1 fl_Pla_35 rfl (sk_Pla (sy_Pla s)) (by decide) ?_
  refine g_iconst (v := 5) k_Pla_addProgram_4 rfl ?_
  refine g_icmp_lt (tgt := 10) k_Pla_addProgram_5 (by decide) (fun c => ?_) (fun c => ?_)
  · rw [if_pos c] at e
    refine g_aload_n k_Pla_addProgram_10 rfl rfl ?_
    refine g_dup k_Pla_addProgram_11 rfl ?_
    refine p_geti k_Pla_addProgram_12 fl_Pla_35 rfl (sk_Pla (sy_Pla s)) (by decide) ?_
    refine g_iconst (v := 1) k_Pla_addProgram_15 rfl ?_
    refine g_iadd k_Pla_addProgram_16 ?_
    refine p_puti k_Pla_addProgram_17 fl_Pla_35 rfl ⟨R_Pla, F_Pla, 8, rfl, Or.inl rfl⟩ (sk_Pla (sy_Pla s)) (by decide) ?_
    obtain ⟨m1, u_m1, e⟩ := o_let_ex e
    refine G.hm u_m1 ?_
    refine g_aload_n k_Pla_addProgram_20 rfl rfl ?_
    refine g_dup k_Pla_addProgram_21 rfl ?_
    refine p_geti k_Pla_addProgram_22 fl_Pla_28 rfl (sk_Pla (sy_Pla s)) (by decide) ?_
    refine g_iconst (v := 1) k_Pla_addProgram_25 rfl ?_
    refine g_iadd k_Pla_addProgram_26 ?_
    refine p_puti k_Pla_addProgram_27 fl_Pla_28 rfl ⟨R_Pla, F_Pla, 8, rfl, Or.inl rfl⟩ (sk_Pla (sy_Pla s)) (by decide) ?_
    obtain ⟨m2, u_m2, e⟩ := o_let_ex e
    refine G.hm u_m2 ?_
    refine g_aload_n k_Pla_addProgram_30 rfl rfl ?_
    refine p_geti k_Pla_addProgram_31 fl_Pla_35 rfl (sk_Pla (sy_Pla s)) (by decide) ?_
    refine g_iconst (v := 1) k_Pla_addProgram_34 rfl ?_
    refine g_isub k_Pla_addProgram_35 ?_
    refine g_iret k_Pla_addProgram_36 rfl ?_
    exact (by cases e; exact hq)
  · rw [if_neg c] at e
    refine g_iconst (v := (-1)) k_Pla_addProgram_8 rfl ?_
    refine g_iret k_Pla_addProgram_9 rfl ?_
    exact (by cases e; exact hq)
def f_Pla_tell (n1 : Nat) (a1 : Nat) (x2 : Int32) (x3 : Int32) (m : aM) : Option (Int32 × aM) :=
  (if x2 < 0 then
  some ((-1), m)
  else
  (if x2 < (Int32.ofNat n1) then
  o_gd (inb x2 n1) <|
  o_gd (inb x2 n1) <|
  o_let (a_st m a1 x2.toNatClampNeg x3) fun m3 =>
  o_let (a_st m3 29 7 ((m3 29 7) + 1)) fun m4 =>
  some ((m a1 x2.toNatClampNeg), m4)
  else
  some ((-1), m)
  )
  )
theorem s_Pla_tell {K : aK} {d bc bs : Nat} {g : aG} (s : Sys g) (n1 : Nat) (a1 : Nat) (h1 : g.2.1 a1 = (0, n1)) (x2 : Int32) (x3 : Int32) (m : aM) {r : Int32} {m' : aM} (e : f_Pla_tell n1 a1 x2 x3 m = some (r, m')) : Sp K M_Pla_tell d bc bs [.ref 29, .ref a1, .int x2, .int x3] (g, m) (some (.int r)) (g, m') := by
  refine sp_of ok_Pla_tell rfl (Nat.le_of_ble_eq_true rfl) (by simp [Value.category]) (fun Q hq => ?_)
  unfold f_Pla_tell at e
  refine g_iload_n k_Pla_tell_0 rfl rfl ?_
  refine g_if_lt (tgt := 10) k_Pla_tell_1 (by decide) (fun c => ?_) (fun c => ?_)
  · rw [if_pos c] at e
    refine g_iconst (v := (-1)) k_Pla_tell_10 rfl ?_
    refine g_iret k_Pla_tell_11 rfl ?_
    exact (by cases e; exact hq)
  · rw [if_neg c] at e
    refine g_iload_n k_Pla_tell_4 rfl rfl ?_
    refine g_aload_n k_Pla_tell_5 rfl rfl ?_
    refine p_alen (v := Int32.ofNat n1) k_Pla_tell_6 h1 (by decide) rfl ?_
    refine g_icmp_lt (tgt := 12) k_Pla_tell_7 (by decide) (fun c => ?_) (fun c => ?_)
    · rw [if_pos c] at e
      refine g_aload_n k_Pla_tell_12 rfl rfl ?_
      refine g_iload_n k_Pla_tell_13 rfl rfl ?_
      obtain ⟨q1, e⟩ := o_gd_ex e
      refine p_iald k_Pla_tell_14 h1 (inb_in q1) (j := x2.toNatClampNeg) rfl ?_
      refine g_istore k_Pla_tell_15 (by decide) ?_
      refine g_aload_n k_Pla_tell_17 rfl rfl ?_
      refine g_iload_n k_Pla_tell_18 rfl rfl ?_
      refine g_iload_n k_Pla_tell_19 rfl rfl ?_
      obtain ⟨q2, e⟩ := o_gd_ex e
      refine p_iast k_Pla_tell_20 h1 (inb_in q2) (j := x2.toNatClampNeg) rfl ?_
      obtain ⟨m3, u_m3, e⟩ := o_let_ex e
      refine G.hm u_m3 ?_
      refine g_aload_n k_Pla_tell_21 rfl rfl ?_
      refine g_dup k_Pla_tell_22 rfl ?_
      refine p_geti k_Pla_tell_23 fl_Pla_28 rfl (sk_Pla (sy_Pla s)) (by decide) ?_
      refine g_iconst (v := 1) k_Pla_tell_26 rfl ?_
      refine g_iadd k_Pla_tell_27 ?_
      refine p_puti k_Pla_tell_28 fl_Pla_28 rfl ⟨R_Pla, F_Pla, 8, rfl, Or.inl rfl⟩ (sk_Pla (sy_Pla s)) (by decide) ?_
      obtain ⟨m4, u_m4, e⟩ := o_let_ex e
      refine G.hm u_m4 ?_
      refine g_iload k_Pla_tell_31 rfl ?_
      refine g_iret k_Pla_tell_33 rfl ?_
      exact (by cases e; exact hq)
    · rw [if_neg c] at e
      refine g_iconst (v := (-1)) k_Pla_tell_10 rfl ?_
      refine g_iret k_Pla_tell_11 rfl ?_
      exact (by cases e; exact hq)
def f_Pla_tellHold (x1 : Int32) (x2 : Int32) (x3 : Int32) (m : aM) : Option (Int32 × aM) :=
  o_b2 (f_Pla_tell 15 30 ((x1 * 5) + x2) x3 m) fun y1 m2 =>
  some (y1, m2)
theorem s_Pla_tellHold {K : aK} {d bc bs : Nat} {g : aG} (s : Sys g) (x1 : Int32) (x2 : Int32) (x3 : Int32) (m : aM) {r : Int32} {m' : aM} (e : f_Pla_tellHold x1 x2 x3 m = some (r, m')) (hd : 1 ≤ d) : Sp K M_Pla_tellHold d bc bs [.ref 29, .int x1, .int x2, .int x3] (g, m) (some (.int r)) (g, m') := by
  refine sp_of ok_Pla_tellHold rfl (Nat.le_of_ble_eq_true rfl) (by simp [Value.category]) (fun Q hq => ?_)
  unfold f_Pla_tellHold at e
  refine g_aload_n k_Pla_tellHold_0 rfl rfl ?_
  refine g_aload_n k_Pla_tellHold_1 rfl rfl ?_
  refine p_getr k_Pla_tellHold_2 fl_Pla_9 rfl (sk_Pla (sy_Pla s)) (by decide) (sr_Pla_0 (sy_Pla s)) ?_
  refine g_iload_n k_Pla_tellHold_5 rfl rfl ?_
  refine g_iconst (v := 5) k_Pla_tellHold_6 rfl ?_
  refine g_imul k_Pla_tellHold_7 ?_
  refine g_iload_n k_Pla_tellHold_8 rfl rfl ?_
  refine g_iadd k_Pla_tellHold_9 ?_
  refine g_iload_n k_Pla_tellHold_10 rfl rfl ?_
  obtain ⟨y1, m2, e_y1, e⟩ := o_b2_ex e
  refine g_cv k_Pla_tellHold_11 lv_Pla_38 (by decide +kernel) (T := F_Pla) (N := 8) (ci := 4) rfl (sk_Pla (sy_Pla s)) (s_Pla_tell (bc := 0) (bs := 0) s 15 30 (sa_Pla_0 (sy_Pla s)) ((x1 * 5) + x2) x3 m e_y1) rfl rfl (Nat.le_of_ble_eq_true rfl) (by simp [Value.category]) (by omega) (by omega) (by omega) ?_
  refine g_iret k_Pla_tellHold_14 rfl ?_
  exact (by cases e; exact hq)
def f_Pla_tellPair (a1 : Nat) (x2 : Int32) (x3 : Int32) (m : aM) : Option (Int32 × aM) :=
  (if ((x2 * 3) + x3) < 0 then
  some (0, m)
  else
  (if 9 ≤ ((x2 * 3) + x3) then
  some (0, m)
  else
  o_gd (inb ((x2 * 3) + x3) 9) <|
  o_let ((m a1 (((x2 * 3) + x3).toNatClampNeg))) fun y2 =>
  (if y2 = 0 then
  o_gd (inb ((x2 * 3) + x3) 9) <|
  o_let (a_st m a1 (((x2 * 3) + x3).toNatClampNeg) 1) fun m4 =>
  o_let (a_st m4 29 7 ((m4 29 7) + 1)) fun m5 =>
  some (1, m5)
  else
  some (0, m)
  )
  )
  )
theorem s_Pla_tellPair {K : aK} {d bc bs : Nat} {g : aG} (s : Sys g) (a1 : Nat) (h1 : g.2.1 a1 = (1, 9)) (x2 : Int32) (x3 : Int32) (m : aM) {r : Int32} {m' : aM} (e : f_Pla_tellPair a1 x2 x3 m = some (r, m')) : Sp K M_Pla_tellPair d bc bs [.ref 29, .ref a1, .int x2, .int x3] (g, m) (some (.int r)) (g, m') := by
  refine sp_of ok_Pla_tellPair rfl (Nat.le_of_ble_eq_true rfl) (by simp [Value.category]) (fun Q hq => ?_)
  unfold f_Pla_tellPair at e
  refine g_iload_n k_Pla_tellPair_0 rfl rfl ?_
  refine g_iconst (v := 3) k_Pla_tellPair_1 rfl ?_
  refine g_imul k_Pla_tellPair_2 ?_
  refine g_iload_n k_Pla_tellPair_3 rfl rfl ?_
  refine g_iadd k_Pla_tellPair_4 ?_
  refine g_istore k_Pla_tellPair_5 (by decide) ?_
  refine g_iload k_Pla_tellPair_7 rfl ?_
  refine g_if_lt (tgt := 26) k_Pla_tellPair_9 (by decide) (fun c => ?_) (fun c => ?_)
  · rw [if_pos c] at e
    refine g_iconst (v := 0) k_Pla_tellPair_26 rfl ?_
    refine g_zret k_Pla_tellPair_27 rfl (by decide) ?_
    exact (by cases e; exact hq)
  · rw [if_neg c] at e
    refine g_iload k_Pla_tellPair_12 rfl ?_
    refine g_aload_n k_Pla_tellPair_14 rfl rfl ?_
    refine p_alen (v := 9) k_Pla_tellPair_15 h1 (by decide) rfl ?_
    refine g_icmp_ge (tgt := 26) k_Pla_tellPair_16 (by decide) (fun c => ?_) (fun c => ?_)
    · rw [if_pos c] at e
      refine g_iconst (v := 0) k_Pla_tellPair_26 rfl ?_
      refine g_zret k_Pla_tellPair_27 rfl (by decide) ?_
      exact (by cases e; exact hq)
    · rw [if_neg c] at e
      refine g_aload_n k_Pla_tellPair_19 rfl rfl ?_
      refine g_iload k_Pla_tellPair_20 rfl ?_
      obtain ⟨q1, e⟩ := o_gd_ex e
      refine p_zald k_Pla_tellPair_22 h1 (inb_in q1) (j := ((x2 * 3) + x3).toNatClampNeg) rfl ?_
      obtain ⟨y2, u_y2, e⟩ := o_let_ex e
      refine G.vy u_y2 ?_
      refine g_if_eq (tgt := 28) k_Pla_tellPair_23 (by decide) (fun c => ?_) (fun c => ?_)
      · rw [if_pos c] at e
        refine g_aload_n k_Pla_tellPair_28 rfl rfl ?_
        refine g_iload k_Pla_tellPair_29 rfl ?_
        refine g_iconst (v := 1) k_Pla_tellPair_31 rfl ?_
        obtain ⟨q3, e⟩ := o_gd_ex e
        refine p_zast k_Pla_tellPair_32 h1 (inb_in q3) (j := ((x2 * 3) + x3).toNatClampNeg) rfl (by decide) ?_
        obtain ⟨m4, u_m4, e⟩ := o_let_ex e
        refine G.hm u_m4 ?_
        refine g_aload_n k_Pla_tellPair_33 rfl rfl ?_
        refine g_dup k_Pla_tellPair_34 rfl ?_
        refine p_geti k_Pla_tellPair_35 fl_Pla_28 rfl (sk_Pla (sy_Pla s)) (by decide) ?_
        refine g_iconst (v := 1) k_Pla_tellPair_38 rfl ?_
        refine g_iadd k_Pla_tellPair_39 ?_
        refine p_puti k_Pla_tellPair_40 fl_Pla_28 rfl ⟨R_Pla, F_Pla, 8, rfl, Or.inl rfl⟩ (sk_Pla (sy_Pla s)) (by decide) ?_
        obtain ⟨m5, u_m5, e⟩ := o_let_ex e
        refine G.hm u_m5 ?_
        refine g_iconst (v := 1) k_Pla_tellPair_43 rfl ?_
        refine g_zret k_Pla_tellPair_44 rfl (by decide) ?_
        exact (by cases e; exact hq)
      · rw [if_neg c] at e
        refine g_iconst (v := 0) k_Pla_tellPair_26 rfl ?_
        refine g_zret k_Pla_tellPair_27 rfl (by decide) ?_
        exact (by cases e; exact hq)
def f_Pla_tellBar (x1 : Int32) (x2 : Int32) (m : aM) : Option (Int32 × aM) :=
  o_b2 (f_Pla_tellPair 34 (if x2 < x1 then x2 else x1) (if x1 < x2 then x2 else x1) m) fun y1 m2 =>
  o_gd (isb y1) <|
  some (y1, m2)
theorem s_Pla_tellBar {K : aK} {d bc bs : Nat} {g : aG} (s : Sys g) (x1 : Int32) (x2 : Int32) (m : aM) {r : Int32} {m' : aM} (e : f_Pla_tellBar x1 x2 m = some (r, m')) (hd : 1 ≤ d) : Sp K M_Pla_tellBar d bc bs [.ref 29, .int x1, .int x2] (g, m) (some (.int r)) (g, m') := by
  refine sp_of ok_Pla_tellBar rfl (Nat.le_of_ble_eq_true rfl) (by simp [Value.category]) (fun Q hq => ?_)
  unfold f_Pla_tellBar at e
  refine g_aload_n k_Pla_tellBar_0 rfl rfl ?_
  refine g_aload_n k_Pla_tellBar_1 rfl rfl ?_
  refine p_getr k_Pla_tellBar_2 fl_Pla_25 rfl (sk_Pla (sy_Pla s)) (by decide) (sr_Pla_4 (sy_Pla s)) ?_
  refine g_iload_n k_Pla_tellBar_5 rfl rfl ?_
  refine g_iload_n k_Pla_tellBar_6 rfl rfl ?_
  refine g_mn k_Pla_tellBar_7 mw_Pla_46 (Nat.le_of_ble_eq_true rfl) (by omega) ?_
  refine g_iload_n k_Pla_tellBar_10 rfl rfl ?_
  refine g_iload_n k_Pla_tellBar_11 rfl rfl ?_
  refine g_mx k_Pla_tellBar_12 mw_Pla_52 (Nat.le_of_ble_eq_true rfl) (by omega) ?_
  obtain ⟨y1, m2, e_y1, e⟩ := o_b2_ex e
  refine g_cv k_Pla_tellBar_15 lv_Pla_42 (by decide +kernel) (T := F_Pla) (N := 8) (ci := 4) rfl (sk_Pla (sy_Pla s)) (s_Pla_tellPair (bc := 0) (bs := 0) s 34 (sa_Pla_4 (sy_Pla s)) (if x2 < x1 then x2 else x1) (if x1 < x2 then x2 else x1) m e_y1) rfl rfl (Nat.le_of_ble_eq_true rfl) (by simp [Value.category]) (by omega) (by omega) (by omega) ?_
  obtain ⟨q3, e⟩ := o_gd_ex e
  refine g_zret k_Pla_tellBar_18 rfl (isb_or q3) ?_
  exact (by cases e; exact hq)
def f_Pla_tellOrder (x1 : Int32) (x2 : Int32) (m : aM) : Option (Int32 × aM) :=
  o_b2 (f_Pla_tellPair 33 x1 x2 m) fun y1 m2 =>
  o_gd (isb y1) <|
  some (y1, m2)
theorem s_Pla_tellOrder {K : aK} {d bc bs : Nat} {g : aG} (s : Sys g) (x1 : Int32) (x2 : Int32) (m : aM) {r : Int32} {m' : aM} (e : f_Pla_tellOrder x1 x2 m = some (r, m')) (hd : 1 ≤ d) : Sp K M_Pla_tellOrder d bc bs [.ref 29, .int x1, .int x2] (g, m) (some (.int r)) (g, m') := by
  refine sp_of ok_Pla_tellOrder rfl (Nat.le_of_ble_eq_true rfl) (by simp [Value.category]) (fun Q hq => ?_)
  unfold f_Pla_tellOrder at e
  refine g_aload_n k_Pla_tellOrder_0 rfl rfl ?_
  refine g_aload_n k_Pla_tellOrder_1 rfl rfl ?_
  refine p_getr k_Pla_tellOrder_2 fl_Pla_21 rfl (sk_Pla (sy_Pla s)) (by decide) (sr_Pla_3 (sy_Pla s)) ?_
  refine g_iload_n k_Pla_tellOrder_5 rfl rfl ?_
  refine g_iload_n k_Pla_tellOrder_6 rfl rfl ?_
  obtain ⟨y1, m2, e_y1, e⟩ := o_b2_ex e
  refine g_cv k_Pla_tellOrder_7 lv_Pla_42 (by decide +kernel) (T := F_Pla) (N := 8) (ci := 4) rfl (sk_Pla (sy_Pla s)) (s_Pla_tellPair (bc := 0) (bs := 0) s 33 (sa_Pla_3 (sy_Pla s)) x1 x2 m e_y1) rfl rfl (Nat.le_of_ble_eq_true rfl) (by simp [Value.category]) (by omega) (by omega) (by omega) ?_
  obtain ⟨q3, e⟩ := o_gd_ex e
  refine g_zret k_Pla_tellOrder_10 rfl (isb_or q3) ?_
  exact (by cases e; exact hq)
def f_Pla_tellNeed (x1 : Int32) (x2 : Int32) (x3 : Int32) (m : aM) : Option (Int32 × aM) :=
  o_b2 (f_Pla_tell 15 31 ((x1 * 3) + x2) x3 m) fun y1 m2 =>
  some (y1, m2)
theorem s_Pla_tellNeed {K : aK} {d bc bs : Nat} {g : aG} (s : Sys g) (x1 : Int32) (x2 : Int32) (x3 : Int32) (m : aM) {r : Int32} {m' : aM} (e : f_Pla_tellNeed x1 x2 x3 m = some (r, m')) (hd : 1 ≤ d) : Sp K M_Pla_tellNeed d bc bs [.ref 29, .int x1, .int x2, .int x3] (g, m) (some (.int r)) (g, m') := by
  refine sp_of ok_Pla_tellNeed rfl (Nat.le_of_ble_eq_true rfl) (by simp [Value.category]) (fun Q hq => ?_)
  unfold f_Pla_tellNeed at e
  refine g_aload_n k_Pla_tellNeed_0 rfl rfl ?_
  refine g_aload_n k_Pla_tellNeed_1 rfl rfl ?_
  refine p_getr k_Pla_tellNeed_2 fl_Pla_15 rfl (sk_Pla (sy_Pla s)) (by decide) (sr_Pla_1 (sy_Pla s)) ?_
  refine g_iload_n k_Pla_tellNeed_5 rfl rfl ?_
  refine g_iconst (v := 3) k_Pla_tellNeed_6 rfl ?_
  refine g_imul k_Pla_tellNeed_7 ?_
  refine g_iload_n k_Pla_tellNeed_8 rfl rfl ?_
  refine g_iadd k_Pla_tellNeed_9 ?_
  refine g_iload_n k_Pla_tellNeed_10 rfl rfl ?_
  obtain ⟨y1, m2, e_y1, e⟩ := o_b2_ex e
  refine g_cv k_Pla_tellNeed_11 lv_Pla_38 (by decide +kernel) (T := F_Pla) (N := 8) (ci := 4) rfl (sk_Pla (sy_Pla s)) (s_Pla_tell (bc := 0) (bs := 0) s 15 31 (sa_Pla_1 (sy_Pla s)) ((x1 * 3) + x2) x3 m e_y1) rfl rfl (Nat.le_of_ble_eq_true rfl) (by simp [Value.category]) (by omega) (by omega) (by omega) ?_
  refine g_iret k_Pla_tellNeed_14 rfl ?_
  exact (by cases e; exact hq)
def f_Pla_tellPrice (x1 : Int32) (x2 : Int32) (m : aM) : Option (Int32 × aM) :=
  o_b2 (f_Pla_tell 5 32 x1 x2 m) fun y1 m2 =>
  some (y1, m2)
theorem s_Pla_tellPrice {K : aK} {d bc bs : Nat} {g : aG} (s : Sys g) (x1 : Int32) (x2 : Int32) (m : aM) {r : Int32} {m' : aM} (e : f_Pla_tellPrice x1 x2 m = some (r, m')) (hd : 1 ≤ d) : Sp K M_Pla_tellPrice d bc bs [.ref 29, .int x1, .int x2] (g, m) (some (.int r)) (g, m') := by
  refine sp_of ok_Pla_tellPrice rfl (Nat.le_of_ble_eq_true rfl) (by simp [Value.category]) (fun Q hq => ?_)
  unfold f_Pla_tellPrice at e
  refine g_aload_n k_Pla_tellPrice_0 rfl rfl ?_
  refine g_aload_n k_Pla_tellPrice_1 rfl rfl ?_
  refine p_getr k_Pla_tellPrice_2 fl_Pla_18 rfl (sk_Pla (sy_Pla s)) (by decide) (sr_Pla_2 (sy_Pla s)) ?_
  refine g_iload_n k_Pla_tellPrice_5 rfl rfl ?_
  refine g_iload_n k_Pla_tellPrice_6 rfl rfl ?_
  obtain ⟨y1, m2, e_y1, e⟩ := o_b2_ex e
  refine g_cv k_Pla_tellPrice_7 lv_Pla_38 (by decide +kernel) (T := F_Pla) (N := 8) (ci := 4) rfl (sk_Pla (sy_Pla s)) (s_Pla_tell (bc := 0) (bs := 0) s 5 32 (sa_Pla_2 (sy_Pla s)) x1 x2 m e_y1) rfl rfl (Nat.le_of_ble_eq_true rfl) (by simp [Value.category]) (by omega) (by omega) (by omega) ?_
  refine g_iret k_Pla_tellPrice_10 rfl ?_
  exact (by cases e; exact hq)
def f_Pla_power (x0 : Int32) (m : aM) : Option Int32 :=
  (if x0 < 0 then
  some 1
  else
  (if 4 ≤ x0 then
  some 1
  else
  o_gd (inb x0 4) <|
  some (a_pow x0.toNatClampNeg)
  )
  )
theorem s_Pla_power {K : aK} {d bc bs : Nat} {g : aG} (s : Sys g) (x0 : Int32) (m : aM) {r : Int32} (e : f_Pla_power x0 m = some r) : Sp K M_Pla_power d bc bs [.int x0] (g, m) (some (.int r)) (g, m) := by
  refine sp_of ok_Pla_power rfl (Nat.le_of_ble_eq_true rfl) (by simp [Value.category]) (fun Q hq => ?_)
  unfold f_Pla_power at e
  refine g_iload_n k_Pla_power_0 rfl rfl ?_
  refine g_if_lt (tgt := 20) k_Pla_power_1 (by decide) (fun c => ?_) (fun c => ?_)
  · rw [if_pos c] at e
    refine g_iconst (v := 1) k_Pla_power_20 rfl ?_
    refine g_iret k_Pla_power_21 rfl ?_
    exact (by cases e; exact hq)
  · rw [if_neg c] at e
    refine g_iload_n k_Pla_power_4 rfl rfl ?_
    refine g_pow k_Pla_power_5 fp_Pla_59 ?_
    refine g_powlen k_Pla_power_8 ?_
    refine g_icmp_ge (tgt := 20) k_Pla_power_9 (by decide) (fun c => ?_) (fun c => ?_)
    · rw [if_pos c] at e
      refine g_iconst (v := 1) k_Pla_power_20 rfl ?_
      refine g_iret k_Pla_power_21 rfl ?_
      exact (by cases e; exact hq)
    · rw [if_neg c] at e
      refine g_pow k_Pla_power_12 fp_Pla_59 ?_
      refine g_iload_n k_Pla_power_15 rfl rfl ?_
      obtain ⟨q1, e⟩ := o_gd_ex e
      refine g_powld k_Pla_power_16 (inb_in q1) ?_
      refine g_goto (tgt := 21) k_Pla_power_17 (by decide) ?_
      refine g_iret k_Pla_power_21 rfl ?_
      exact (by cases e; exact hq)
def f_Pla_manyNodes  (m : aM) : Option Int32 :=
  o_b (f_Pla_power (m 29 5) m) fun y1 =>
  some y1
theorem s_Pla_manyNodes {K : aK} {d bc bs : Nat} {g : aG} (s : Sys g)  (m : aM) {r : Int32} (e : f_Pla_manyNodes  m = some r) (hd : 1 ≤ d) : Sp K M_Pla_manyNodes d bc bs [.ref 29] (g, m) (some (.int r)) (g, m) := by
  refine sp_of ok_Pla_manyNodes rfl (Nat.le_of_ble_eq_true rfl) (by simp [Value.category]) (fun Q hq => ?_)
  unfold f_Pla_manyNodes at e
  refine g_aload_n k_Pla_manyNodes_0 rfl rfl ?_
  refine p_geti k_Pla_manyNodes_1 fl_Pla_32 rfl (sk_Pla (sy_Pla s)) (by decide) ?_
  obtain ⟨y1, e_y1, e⟩ := o_b_ex e
  refine g_cs k_Pla_manyNodes_4 ls_Pla_55 (by decide +kernel) (s_Pla_power (bc := 0) (bs := 0) s (m 29 5) m e_y1) rfl rfl (Nat.le_of_ble_eq_true rfl) (by simp [Value.category]) (by omega) (by omega) (by omega) ?_
  refine g_iret k_Pla_manyNodes_7 rfl ?_
  exact (by cases e; exact hq)
def f_Pla_manySets  (m : aM) : Option Int32 :=
  o_let (((1 : Int32) <<< ((m 29 6) &&& 31))) fun y1 =>
  some y1
theorem s_Pla_manySets {K : aK} {d bc bs : Nat} {g : aG} (s : Sys g)  (m : aM) {r : Int32} (e : f_Pla_manySets  m = some r) : Sp K M_Pla_manySets d bc bs [.ref 29] (g, m) (some (.int r)) (g, m) := by
  refine sp_of ok_Pla_manySets rfl (Nat.le_of_ble_eq_true rfl) (by simp [Value.category]) (fun Q hq => ?_)
  unfold f_Pla_manySets at e
  refine g_iconst (v := 1) k_Pla_manySets_0 rfl ?_
  refine g_aload_n k_Pla_manySets_1 rfl rfl ?_
  refine p_geti k_Pla_manySets_2 fl_Pla_35 rfl (sk_Pla (sy_Pla s)) (by decide) ?_
  refine g_ishl k_Pla_manySets_5 ?_
  obtain ⟨y1, u_y1, e⟩ := o_let_ex e
  refine G.vy u_y1 ?_
  refine g_iret k_Pla_manySets_6 rfl ?_
  exact (by cases e; exact hq)
def b_Pla_stagesFor_104 (F : Nat) (rec_6 : Int32 → Int32 → Int32 → Int32 → aM → Option Int32) (x1 : Int32) (x2 : Int32) (x3 : Int32) (x4 : Int32) (m : aM) : Option Int32 :=
  rec_6 x1 x2 x3 (x4 + 1) m
theorem t_Pla_stagesFor_104 {K : aK} {d bc bs : Nat} {g : aG} (s : Sys g) {Q : aQ} {r : Int32} (F : Nat) (m : aM) (rec_6 : Int32 → Int32 → Int32 → Int32 → aM → Option Int32) (hr_6 : ∀ (x1 : Int32) (x2 : Int32) (x3 : Int32) (x4 : Int32), rec_6 x1 x2 x3 x4 m = some r → G K M_Pla_stagesFor d bc bs 6 [.ref 29, .int x1, .int x2, .int x3, .int x4, .double 0, .double 0, .double 0] [] (g, m) Q) (x1 : Int32) (x2 : Int32) (x3 : Int32) (x4 : Int32) (hq : Q (.inl (some (.int r))) (g, m)) (e : b_Pla_stagesFor_104 F rec_6 x1 x2 x3 x4 m = some r) : G K M_Pla_stagesFor d bc bs 104 [.ref 29, .int x1, .int x2, .int x3, .int x4, .double 0, .double 0, .double 0] [] (g, m) Q := by
  unfold b_Pla_stagesFor_104 at e
  refine g_iinc (v := _ + 1) k_Pla_stagesFor_104 rfl rfl (by decide) ?_
  refine g_goto (tgt := 6) k_Pla_stagesFor_107 (by decide) ?_
  exact (hr_6 x1 x2 x3 (x4 + 1)  e)
def b_Pla_stagesFor_93 (F : Nat) (rec_6 : Int32 → Int32 → Int32 → Int32 → aM → Option Int32) (x1 : Int32) (x2 : Int32) (x3 : Int32) (x4 : Int32) (x6 : Int32) (m : aM) : Option Int32 :=
  (if x6 = 1 then
  b_Pla_stagesFor_104 F rec_6 x1 x2 (x3 &&& 15) x4 m
  else
  b_Pla_stagesFor_104 F rec_6 x1 x2 x3 x4 m
  )
theorem t_Pla_stagesFor_93 {K : aK} {d bc bs : Nat} {g : aG} (s : Sys g) {Q : aQ} {r : Int32} (F : Nat) (m : aM) (rec_6 : Int32 → Int32 → Int32 → Int32 → aM → Option Int32) (hr_6 : ∀ (x1 : Int32) (x2 : Int32) (x3 : Int32) (x4 : Int32), rec_6 x1 x2 x3 x4 m = some r → G K M_Pla_stagesFor d bc bs 6 [.ref 29, .int x1, .int x2, .int x3, .int x4, .double 0, .double 0, .double 0] [] (g, m) Q) (x1 : Int32) (x2 : Int32) (x3 : Int32) (x4 : Int32) (x6 : Int32) (hq : Q (.inl (some (.int r))) (g, m)) (e : b_Pla_stagesFor_93 F rec_6 x1 x2 x3 x4 x6 m = some r) : G K M_Pla_stagesFor d bc bs 93 [.ref 29, .int x1, .int x2, .int x3, .int x4, .double 0, .int x6, .double 0] [] (g, m) Q := by
  unfold b_Pla_stagesFor_93 at e
  refine g_iload k_Pla_stagesFor_93 rfl ?_
  refine g_iconst (v := 1) k_Pla_stagesFor_95 rfl ?_
  refine g_icmp_ne (tgt := 104) k_Pla_stagesFor_96 (by decide) (fun c => ?_) (fun c => ?_)
  · rw [if_pos c] at e
    refine g_iload_n k_Pla_stagesFor_99 rfl rfl ?_
    refine g_bipush (v := 15) k_Pla_stagesFor_100 rfl ?_
    refine g_iand k_Pla_stagesFor_102 ?_
    refine g_istore_n k_Pla_stagesFor_103 rfl (by decide) ?_
    exact G.wl (wls (wls (wls (wls (wls (wls (wld (wls wl0)))))))) (t_Pla_stagesFor_104 s F m rec_6 hr_6 x1 x2 (x3 &&& 15) x4  hq e)
  · rw [if_neg c] at e
    exact G.wl (wls (wls (wls (wls (wls (wls (wld (wls wl0)))))))) (t_Pla_stagesFor_104 s F m rec_6 hr_6 x1 x2 x3 x4  hq e)
def b_Pla_stagesFor_85 (F : Nat) (rec_6 : Int32 → Int32 → Int32 → Int32 → aM → Option Int32) (x1 : Int32) (x2 : Int32) (x3 : Int32) (x4 : Int32) (m : aM) : Option Int32 :=
  b_Pla_stagesFor_104 F rec_6 x1 x2 (x3 &&& 60) x4 m
theorem t_Pla_stagesFor_85 {K : aK} {d bc bs : Nat} {g : aG} (s : Sys g) {Q : aQ} {r : Int32} (F : Nat) (m : aM) (rec_6 : Int32 → Int32 → Int32 → Int32 → aM → Option Int32) (hr_6 : ∀ (x1 : Int32) (x2 : Int32) (x3 : Int32) (x4 : Int32), rec_6 x1 x2 x3 x4 m = some r → G K M_Pla_stagesFor d bc bs 6 [.ref 29, .int x1, .int x2, .int x3, .int x4, .double 0, .double 0, .double 0] [] (g, m) Q) (x1 : Int32) (x2 : Int32) (x3 : Int32) (x4 : Int32) (hq : Q (.inl (some (.int r))) (g, m)) (e : b_Pla_stagesFor_85 F rec_6 x1 x2 x3 x4 m = some r) : G K M_Pla_stagesFor d bc bs 85 [.ref 29, .int x1, .int x2, .int x3, .int x4, .double 0, .double 0, .double 0] [] (g, m) Q := by
  unfold b_Pla_stagesFor_85 at e
  refine g_iload_n k_Pla_stagesFor_85 rfl rfl ?_
  refine g_bipush (v := 60) k_Pla_stagesFor_86 rfl ?_
  refine g_iand k_Pla_stagesFor_88 ?_
  refine g_istore_n k_Pla_stagesFor_89 rfl (by decide) ?_
  refine g_goto (tgt := 104) k_Pla_stagesFor_90 (by decide) ?_
  exact (t_Pla_stagesFor_104 s F m rec_6 hr_6 x1 x2 (x3 &&& 60) x4  hq e)
def b_Pla_stagesFor_66 (F : Nat) (rec_6 : Int32 → Int32 → Int32 → Int32 → aM → Option Int32) (x1 : Int32) (x2 : Int32) (x3 : Int32) (x4 : Int32) (x6 : Int32) (xt0 : Int32) (m : aM) : Option Int32 :=
  (if x6 = 2 then
  b_Pla_stagesFor_85 F rec_6 x1 x2 x3 x4 m
  else
  (if x6 = 1 then
  (if xt0 = 0 then
  b_Pla_stagesFor_93 F rec_6 x1 x2 x3 x4 x6 m
  else
  b_Pla_stagesFor_85 F rec_6 x1 x2 x3 x4 m
  )
  else
  b_Pla_stagesFor_93 F rec_6 x1 x2 x3 x4 x6 m
  )
  )
theorem t_Pla_stagesFor_66 {K : aK} {d bc bs : Nat} {g : aG} (s : Sys g) {Q : aQ} {r : Int32} (F : Nat) (m : aM) (rec_6 : Int32 → Int32 → Int32 → Int32 → aM → Option Int32) (hr_6 : ∀ (x1 : Int32) (x2 : Int32) (x3 : Int32) (x4 : Int32), rec_6 x1 x2 x3 x4 m = some r → G K M_Pla_stagesFor d bc bs 6 [.ref 29, .int x1, .int x2, .int x3, .int x4, .double 0, .double 0, .double 0] [] (g, m) Q) (x1 : Int32) (x2 : Int32) (x3 : Int32) (x4 : Int32) (x6 : Int32) (xt0 : Int32) (hq : Q (.inl (some (.int r))) (g, m)) (e : b_Pla_stagesFor_66 F rec_6 x1 x2 x3 x4 x6 xt0 m = some r) : G K M_Pla_stagesFor d bc bs 66 [.ref 29, .int x1, .int x2, .int x3, .int x4, .double 0, .int x6, .double 0] [.int xt0] (g, m) Q := by
  unfold b_Pla_stagesFor_66 at e
  refine g_istore k_Pla_stagesFor_66 (by decide) ?_
  refine g_iload k_Pla_stagesFor_68 rfl ?_
  refine g_iconst (v := 2) k_Pla_stagesFor_70 rfl ?_
  refine g_icmp_eq (tgt := 85) k_Pla_stagesFor_71 (by decide) (fun c => ?_) (fun c => ?_)
  · rw [if_pos c] at e
    exact G.wl (wls (wls (wls (wls (wls (wls (wld (wld wl0)))))))) (t_Pla_stagesFor_85 s F m rec_6 hr_6 x1 x2 x3 x4  hq e)
  · rw [if_neg c] at e
    refine g_iload k_Pla_stagesFor_74 rfl ?_
    refine g_iconst (v := 1) k_Pla_stagesFor_76 rfl ?_
    refine g_icmp_ne (tgt := 93) k_Pla_stagesFor_77 (by decide) (fun c => ?_) (fun c => ?_)
    · rw [if_pos c] at e
      refine g_iload k_Pla_stagesFor_80 rfl ?_
      refine g_if_eq (tgt := 93) k_Pla_stagesFor_82 (by decide) (fun c => ?_) (fun c => ?_)
      · rw [if_pos c] at e
        exact G.wl (wls (wls (wls (wls (wls (wls (wls (wld wl0)))))))) (t_Pla_stagesFor_93 s F m rec_6 hr_6 x1 x2 x3 x4 x6  hq e)
      · rw [if_neg c] at e
        exact G.wl (wls (wls (wls (wls (wls (wls (wld (wld wl0)))))))) (t_Pla_stagesFor_85 s F m rec_6 hr_6 x1 x2 x3 x4  hq e)
    · rw [if_neg c] at e
      exact G.wl (wls (wls (wls (wls (wls (wls (wls (wld wl0)))))))) (t_Pla_stagesFor_93 s F m rec_6 hr_6 x1 x2 x3 x4 x6  hq e)
def b_Pla_stagesFor_49 (F : Nat) (rec_6 : Int32 → Int32 → Int32 → Int32 → aM → Option Int32) (x1 : Int32) (x2 : Int32) (x3 : Int32) (x4 : Int32) (xt0 : Int32) (m : aM) : Option Int32 :=
  o_let (((x2 : Int32) >>> (x4 &&& 31))) fun y1 =>
  (if (y1 &&& 1) = 1 then
  b_Pla_stagesFor_66 F rec_6 x1 x2 x3 x4 xt0 1 m
  else
  b_Pla_stagesFor_66 F rec_6 x1 x2 x3 x4 xt0 0 m
  )
theorem t_Pla_stagesFor_49 {K : aK} {d bc bs : Nat} {g : aG} (s : Sys g) {Q : aQ} {r : Int32} (F : Nat) (m : aM) (rec_6 : Int32 → Int32 → Int32 → Int32 → aM → Option Int32) (hr_6 : ∀ (x1 : Int32) (x2 : Int32) (x3 : Int32) (x4 : Int32), rec_6 x1 x2 x3 x4 m = some r → G K M_Pla_stagesFor d bc bs 6 [.ref 29, .int x1, .int x2, .int x3, .int x4, .double 0, .double 0, .double 0] [] (g, m) Q) (x1 : Int32) (x2 : Int32) (x3 : Int32) (x4 : Int32) (xt0 : Int32) (hq : Q (.inl (some (.int r))) (g, m)) (e : b_Pla_stagesFor_49 F rec_6 x1 x2 x3 x4 xt0 m = some r) : G K M_Pla_stagesFor d bc bs 49 [.ref 29, .int x1, .int x2, .int x3, .int x4, .double 0, .double 0, .double 0] [.int xt0] (g, m) Q := by
  unfold b_Pla_stagesFor_49 at e
  refine g_istore k_Pla_stagesFor_49 (by decide) ?_
  refine g_iload_n k_Pla_stagesFor_51 rfl rfl ?_
  refine g_iload k_Pla_stagesFor_52 rfl ?_
  refine g_ishr k_Pla_stagesFor_54 ?_
  obtain ⟨y1, u_y1, e⟩ := o_let_ex e
  refine G.vy u_y1 ?_
  refine g_iconst (v := 1) k_Pla_stagesFor_55 rfl ?_
  refine g_iand k_Pla_stagesFor_56 ?_
  refine g_iconst (v := 1) k_Pla_stagesFor_57 rfl ?_
  refine g_icmp_ne (tgt := 65) k_Pla_stagesFor_58 (by decide) (fun c => ?_) (fun c => ?_)
  · rw [if_pos c] at e
    refine g_iconst (v := 1) k_Pla_stagesFor_61 rfl ?_
    refine g_goto (tgt := 66) k_Pla_stagesFor_62 (by decide) ?_
    exact (t_Pla_stagesFor_66 s F m rec_6 hr_6 x1 x2 x3 x4 xt0 1  hq e)
  · rw [if_neg c] at e
    refine g_iconst (v := 0) k_Pla_stagesFor_65 rfl ?_
    exact (t_Pla_stagesFor_66 s F m rec_6 hr_6 x1 x2 x3 x4 xt0 0  hq e)
def b_Pla_stagesFor_48 (F : Nat) (rec_6 : Int32 → Int32 → Int32 → Int32 → aM → Option Int32) (x1 : Int32) (x2 : Int32) (x3 : Int32) (x4 : Int32) (m : aM) : Option Int32 :=
  b_Pla_stagesFor_49 F rec_6 x1 x2 x3 x4 0 m
theorem t_Pla_stagesFor_48 {K : aK} {d bc bs : Nat} {g : aG} (s : Sys g) {Q : aQ} {r : Int32} (F : Nat) (m : aM) (rec_6 : Int32 → Int32 → Int32 → Int32 → aM → Option Int32) (hr_6 : ∀ (x1 : Int32) (x2 : Int32) (x3 : Int32) (x4 : Int32), rec_6 x1 x2 x3 x4 m = some r → G K M_Pla_stagesFor d bc bs 6 [.ref 29, .int x1, .int x2, .int x3, .int x4, .double 0, .double 0, .double 0] [] (g, m) Q) (x1 : Int32) (x2 : Int32) (x3 : Int32) (x4 : Int32) (hq : Q (.inl (some (.int r))) (g, m)) (e : b_Pla_stagesFor_48 F rec_6 x1 x2 x3 x4 m = some r) : G K M_Pla_stagesFor d bc bs 48 [.ref 29, .int x1, .int x2, .int x3, .int x4, .double 0, .double 0, .double 0] [] (g, m) Q := by
  unfold b_Pla_stagesFor_48 at e
  refine g_iconst (v := 0) k_Pla_stagesFor_48 rfl ?_
  exact (t_Pla_stagesFor_49 s F m rec_6 hr_6 x1 x2 x3 x4 0  hq e)
def lb_Pla_stagesFor_6 (F : Nat) (rec_6 : Int32 → Int32 → Int32 → Int32 → aM → Option Int32) (x1 : Int32) (x2 : Int32) (x3 : Int32) (x4 : Int32) (m : aM) : Option Int32 :=
  (if (m 29 6) ≤ x4 then
  some x3
  else
  (if ((x4 * 3) + x1) < 0 then
  b_Pla_stagesFor_48 F rec_6 x1 x2 x3 x4 m
  else
  (if 15 ≤ ((x4 * 3) + x1) then
  b_Pla_stagesFor_48 F rec_6 x1 x2 x3 x4 m
  else
  o_gd (inb ((x4 * 3) + x1) 15) <|
  o_let ((m 31 (((x4 * 3) + x1).toNatClampNeg))) fun y2 =>
  b_Pla_stagesFor_49 F rec_6 x1 x2 x3 x4 y2 m
  )
  )
  )
theorem tb_Pla_stagesFor_6 {K : aK} {d bc bs : Nat} {g : aG} (s : Sys g) {Q : aQ} {r : Int32} (F : Nat) (m : aM) (rec_6 : Int32 → Int32 → Int32 → Int32 → aM → Option Int32) (hr_6 : ∀ (x1 : Int32) (x2 : Int32) (x3 : Int32) (x4 : Int32), rec_6 x1 x2 x3 x4 m = some r → G K M_Pla_stagesFor d bc bs 6 [.ref 29, .int x1, .int x2, .int x3, .int x4, .double 0, .double 0, .double 0] [] (g, m) Q) (x1 : Int32) (x2 : Int32) (x3 : Int32) (x4 : Int32) (hq : Q (.inl (some (.int r))) (g, m)) (e : lb_Pla_stagesFor_6 F rec_6 x1 x2 x3 x4 m = some r) : G K M_Pla_stagesFor d bc bs 6 [.ref 29, .int x1, .int x2, .int x3, .int x4, .double 0, .double 0, .double 0] [] (g, m) Q := by
  unfold lb_Pla_stagesFor_6 at e
  refine g_iload k_Pla_stagesFor_6 rfl ?_
  refine g_aload_n k_Pla_stagesFor_8 rfl rfl ?_
  refine p_geti k_Pla_stagesFor_9 fl_Pla_35 rfl (sk_Pla (sy_Pla s)) (by decide) ?_
  refine g_icmp_ge (tgt := 110) k_Pla_stagesFor_12 (by decide) (fun c => ?_) (fun c => ?_)
  · rw [if_pos c] at e
    refine g_iload_n k_Pla_stagesFor_110 rfl rfl ?_
    refine g_iret k_Pla_stagesFor_111 rfl ?_
    exact (by cases e; exact hq)
  · rw [if_neg c] at e
    refine g_iload k_Pla_stagesFor_15 rfl ?_
    refine g_iconst (v := 3) k_Pla_stagesFor_17 rfl ?_
    refine g_imul k_Pla_stagesFor_18 ?_
    refine g_iload_n k_Pla_stagesFor_19 rfl rfl ?_
    refine g_iadd k_Pla_stagesFor_20 ?_
    refine g_istore k_Pla_stagesFor_21 (by decide) ?_
    refine g_iload k_Pla_stagesFor_23 rfl ?_
    refine g_if_lt (tgt := 48) k_Pla_stagesFor_25 (by decide) (fun c => ?_) (fun c => ?_)
    · rw [if_pos c] at e
      exact G.wl (wls (wls (wls (wls (wls (wld (wls (wls wl0)))))))) (t_Pla_stagesFor_48 s F m rec_6 hr_6 x1 x2 x3 x4  hq e)
    · rw [if_neg c] at e
      refine g_iload k_Pla_stagesFor_28 rfl ?_
      refine g_aload_n k_Pla_stagesFor_30 rfl rfl ?_
      refine p_getr k_Pla_stagesFor_31 fl_Pla_15 rfl (sk_Pla (sy_Pla s)) (by decide) (sr_Pla_1 (sy_Pla s)) ?_
      refine p_alen (v := 15) k_Pla_stagesFor_34 (sa_Pla_1 (sy_Pla s)) (by decide) rfl ?_
      refine g_icmp_ge (tgt := 48) k_Pla_stagesFor_35 (by decide) (fun c => ?_) (fun c => ?_)
      · rw [if_pos c] at e
        exact G.wl (wls (wls (wls (wls (wls (wld (wls (wls wl0)))))))) (t_Pla_stagesFor_48 s F m rec_6 hr_6 x1 x2 x3 x4  hq e)
      · rw [if_neg c] at e
        refine g_aload_n k_Pla_stagesFor_38 rfl rfl ?_
        refine p_getr k_Pla_stagesFor_39 fl_Pla_15 rfl (sk_Pla (sy_Pla s)) (by decide) (sr_Pla_1 (sy_Pla s)) ?_
        refine g_iload k_Pla_stagesFor_42 rfl ?_
        obtain ⟨q1, e⟩ := o_gd_ex e
        refine p_iald k_Pla_stagesFor_44 (sa_Pla_1 (sy_Pla s)) (inb_in q1) (j := ((x4 * 3) + x1).toNatClampNeg) rfl ?_
        obtain ⟨y2, u_y2, e⟩ := o_let_ex e
        refine G.vy u_y2 ?_
        refine g_goto (tgt := 49) k_Pla_stagesFor_45 (by decide) ?_
        exact G.wl (wls (wls (wls (wls (wls (wld (wls (wls wl0)))))))) (t_Pla_stagesFor_49 s F m rec_6 hr_6 x1 x2 x3 x4 y2  hq e)
def ll_Pla_stagesFor_6 (F : Nat) : Nat → Int32 → Int32 → Int32 → Int32 → aM → Option Int32
  | 0, _, _, _, _, _ => none
  | N + 1, x1, x2, x3, x4, m => lb_Pla_stagesFor_6 F (ll_Pla_stagesFor_6 F N) x1 x2 x3 x4 m
theorem t_Pla_stagesFor_6 {K : aK} {d bc bs : Nat} {g : aG} (s : Sys g) {Q : aQ} {r : Int32} (F : Nat) (m : aM) : ∀ (N : Nat) (x1 : Int32) (x2 : Int32) (x3 : Int32) (x4 : Int32), Q (.inl (some (.int r))) (g, m) → ll_Pla_stagesFor_6 F N x1 x2 x3 x4 m = some r → G K M_Pla_stagesFor d bc bs 6 [.ref 29, .int x1, .int x2, .int x3, .int x4, .double 0, .double 0, .double 0] [] (g, m) Q
  | 0, _, _, _, _ => fun _ e => nomatch e
  | N + 1, x1, x2, x3, x4 => fun hq e => tb_Pla_stagesFor_6 s F m (ll_Pla_stagesFor_6 F N) (fun x1 x2 x3 x4 e => t_Pla_stagesFor_6 s F m N x1 x2 x3 x4 hq e) x1 x2 x3 x4 hq e
def f_Pla_stagesFor (F : Nat) (x1 : Int32) (x2 : Int32) (m : aM) : Option Int32 :=
  ll_Pla_stagesFor_6 F F x1 x2 63 0 m
theorem s_Pla_stagesFor {K : aK} {d bc bs : Nat} {g : aG} (s : Sys g) (F : Nat) (x1 : Int32) (x2 : Int32) (m : aM) {r : Int32} (e : f_Pla_stagesFor F x1 x2 m = some r) : Sp K M_Pla_stagesFor d bc bs [.ref 29, .int x1, .int x2] (g, m) (some (.int r)) (g, m) := by
  refine sp_of ok_Pla_stagesFor rfl (Nat.le_of_ble_eq_true rfl) (by simp [Value.category]) (fun Q hq => ?_)
  unfold f_Pla_stagesFor at e
  refine g_bipush (v := 63) k_Pla_stagesFor_0 rfl ?_
  refine g_istore_n k_Pla_stagesFor_2 rfl (by decide) ?_
  refine g_iconst (v := 0) k_Pla_stagesFor_3 rfl ?_
  refine g_istore k_Pla_stagesFor_4 (by decide) ?_
  exact (t_Pla_stagesFor_6 s F m F x1 x2 63 0  hq e)
def f_Pla_stageOf (x0 : Int32) (x1 : Int32) (m : aM) : Option Int32 :=
  o_b (f_Pla_power x1 m) fun y1 =>
  (if y1 = 0 then
  some 0
  else
  o_gd (nz y1) <|
  some ((x0 / y1) % 6)
  )
theorem s_Pla_stageOf {K : aK} {d bc bs : Nat} {g : aG} (s : Sys g) (x0 : Int32) (x1 : Int32) (m : aM) {r : Int32} (e : f_Pla_stageOf x0 x1 m = some r) (hd : 1 ≤ d) : Sp K M_Pla_stageOf d bc bs [.int x0, .int x1] (g, m) (some (.int r)) (g, m) := by
  refine sp_of ok_Pla_stageOf rfl (Nat.le_of_ble_eq_true rfl) (by simp [Value.category]) (fun Q hq => ?_)
  unfold f_Pla_stageOf at e
  refine g_iload_n k_Pla_stageOf_0 rfl rfl ?_
  obtain ⟨y1, e_y1, e⟩ := o_b_ex e
  refine g_cs k_Pla_stageOf_1 ls_Pla_55 (by decide +kernel) (s_Pla_power (bc := 0) (bs := 0) s x1 m e_y1) rfl rfl (Nat.le_of_ble_eq_true rfl) (by simp [Value.category]) (by omega) (by omega) (by omega) ?_
  refine g_istore_n k_Pla_stageOf_4 rfl (by decide) ?_
  refine g_iload_n k_Pla_stageOf_5 rfl rfl ?_
  refine g_if_ne (tgt := 13) k_Pla_stageOf_6 (by decide) (fun c => ?_) (fun c => ?_)
  · rw [if_pos c] at e
    refine g_iconst (v := 0) k_Pla_stageOf_9 rfl ?_
    refine g_goto (tgt := 19) k_Pla_stageOf_10 (by decide) ?_
    refine g_iret k_Pla_stageOf_19 rfl ?_
    exact (by cases e; exact hq)
  · rw [if_neg c] at e
    refine g_iload_n k_Pla_stageOf_13 rfl rfl ?_
    refine g_iload_n k_Pla_stageOf_14 rfl rfl ?_
    obtain ⟨q2, e⟩ := o_gd_ex e
    refine g_idiv k_Pla_stageOf_15 (nz_ne q2) ?_
    refine g_bipush (v := 6) k_Pla_stageOf_16 rfl ?_
    refine g_irem k_Pla_stageOf_18 (by decide) ?_
    refine g_iret k_Pla_stageOf_19 rfl ?_
    exact (by cases e; exact hq)
def f_Pla_isUnderWay (x0 : Int32) (m : aM) : Option Int32 :=
  (if x0 < 1 then
  some 0
  else
  (if 4 < x0 then
  some 0
  else
  some 1
  )
  )
theorem s_Pla_isUnderWay {K : aK} {d bc bs : Nat} {g : aG} (s : Sys g) (x0 : Int32) (m : aM) {r : Int32} (e : f_Pla_isUnderWay x0 m = some r) : Sp K M_Pla_isUnderWay d bc bs [.int x0] (g, m) (some (.int r)) (g, m) := by
  refine sp_of ok_Pla_isUnderWay rfl (Nat.le_of_ble_eq_true rfl) (by simp [Value.category]) (fun Q hq => ?_)
  unfold f_Pla_isUnderWay at e
  refine g_iload_n k_Pla_isUnderWay_0 rfl rfl ?_
  refine g_iconst (v := 1) k_Pla_isUnderWay_1 rfl ?_
  refine g_icmp_lt (tgt := 14) k_Pla_isUnderWay_2 (by decide) (fun c => ?_) (fun c => ?_)
  · rw [if_pos c] at e
    refine g_iconst (v := 0) k_Pla_isUnderWay_14 rfl ?_
    refine g_zret k_Pla_isUnderWay_15 rfl (by decide) ?_
    exact (by cases e; exact hq)
  · rw [if_neg c] at e
    refine g_iload_n k_Pla_isUnderWay_5 rfl rfl ?_
    refine g_iconst (v := 4) k_Pla_isUnderWay_6 rfl ?_
    refine g_icmp_gt (tgt := 14) k_Pla_isUnderWay_7 (by decide) (fun c => ?_) (fun c => ?_)
    · rw [if_pos c] at e
      refine g_iconst (v := 0) k_Pla_isUnderWay_14 rfl ?_
      refine g_zret k_Pla_isUnderWay_15 rfl (by decide) ?_
      exact (by cases e; exact hq)
    · rw [if_neg c] at e
      refine g_iconst (v := 1) k_Pla_isUnderWay_10 rfl ?_
      refine g_goto (tgt := 15) k_Pla_isUnderWay_11 (by decide) ?_
      refine g_zret k_Pla_isUnderWay_15 rfl (by decide) ?_
      exact (by cases e; exact hq)
def b_Pla_keepsPairs_81 (F : Nat) (rec_2 : Int32 → Int32 → aM → Option Int32) (rec_16 : Int32 → Int32 → Int32 → Int32 → aM → Option Int32) (x1 : Int32) (x2 : Int32) (x3 : Int32) (x4 : Int32) (m : aM) : Option Int32 :=
  rec_16 x1 x2 x3 (x4 + 1) m
theorem t_Pla_keepsPairs_81 {K : aK} {d bc bs : Nat} {g : aG} (s : Sys g) {Q : aQ} {r : Int32} (F : Nat) (m : aM) (rec_2 : Int32 → Int32 → aM → Option Int32) (hr_2 : ∀ (x1 : Int32) (x2 : Int32), rec_2 x1 x2 m = some r → G K M_Pla_keepsPairs d bc bs 2 [.ref 29, .int x1, .int x2, .double 0, .double 0, .double 0, .double 0] [] (g, m) Q) (rec_16 : Int32 → Int32 → Int32 → Int32 → aM → Option Int32) (hr_16 : ∀ (x1 : Int32) (x2 : Int32) (x3 : Int32) (x4 : Int32), rec_16 x1 x2 x3 x4 m = some r → G K M_Pla_keepsPairs d bc bs 16 [.ref 29, .int x1, .int x2, .int x3, .int x4, .double 0, .double 0] [] (g, m) Q) (x1 : Int32) (x2 : Int32) (x3 : Int32) (x4 : Int32) (hq : Q (.inl (some (.int r))) (g, m)) (e : b_Pla_keepsPairs_81 F rec_2 rec_16 x1 x2 x3 x4 m = some r) (hd : 2 ≤ d) : G K M_Pla_keepsPairs d bc bs 81 [.ref 29, .int x1, .int x2, .int x3, .int x4, .double 0, .double 0] [] (g, m) Q := by
  unfold b_Pla_keepsPairs_81 at e
  refine g_iinc (v := _ + 1) k_Pla_keepsPairs_81 rfl rfl (by decide) ?_
  refine g_goto (tgt := 16) k_Pla_keepsPairs_84 (by decide) ?_
  exact (hr_16 x1 x2 x3 (x4 + 1)  e)
def b_Pla_keepsPairs_54 (F : Nat) (rec_2 : Int32 → Int32 → aM → Option Int32) (rec_16 : Int32 → Int32 → Int32 → Int32 → aM → Option Int32) (x1 : Int32) (x2 : Int32) (x3 : Int32) (x4 : Int32) (x5 : Int32) (x6 : Int32) (m : aM) : Option Int32 :=
  o_gd (inb x5 9) <|
  (if (m 34 x5.toNatClampNeg) = 0 then
  b_Pla_keepsPairs_81 F rec_2 rec_16 x1 x2 x3 x4 m
  else
  o_b (f_Pla_isUnderWay x3 m) fun y2 =>
  (if y2 = 0 then
  b_Pla_keepsPairs_81 F rec_2 rec_16 x1 x2 x3 x4 m
  else
  o_b (f_Pla_isUnderWay x6 m) fun y3 =>
  (if y3 = 0 then
  b_Pla_keepsPairs_81 F rec_2 rec_16 x1 x2 x3 x4 m
  else
  some 0
  )
  )
  )
theorem t_Pla_keepsPairs_54 {K : aK} {d bc bs : Nat} {g : aG} (s : Sys g) {Q : aQ} {r : Int32} (F : Nat) (m : aM) (rec_2 : Int32 → Int32 → aM → Option Int32) (hr_2 : ∀ (x1 : Int32) (x2 : Int32), rec_2 x1 x2 m = some r → G K M_Pla_keepsPairs d bc bs 2 [.ref 29, .int x1, .int x2, .double 0, .double 0, .double 0, .double 0] [] (g, m) Q) (rec_16 : Int32 → Int32 → Int32 → Int32 → aM → Option Int32) (hr_16 : ∀ (x1 : Int32) (x2 : Int32) (x3 : Int32) (x4 : Int32), rec_16 x1 x2 x3 x4 m = some r → G K M_Pla_keepsPairs d bc bs 16 [.ref 29, .int x1, .int x2, .int x3, .int x4, .double 0, .double 0] [] (g, m) Q) (x1 : Int32) (x2 : Int32) (x3 : Int32) (x4 : Int32) (x5 : Int32) (x6 : Int32) (hq : Q (.inl (some (.int r))) (g, m)) (e : b_Pla_keepsPairs_54 F rec_2 rec_16 x1 x2 x3 x4 x5 x6 m = some r) (hd : 2 ≤ d) : G K M_Pla_keepsPairs d bc bs 54 [.ref 29, .int x1, .int x2, .int x3, .int x4, .int x5, .int x6] [] (g, m) Q := by
  unfold b_Pla_keepsPairs_54 at e
  refine g_aload_n k_Pla_keepsPairs_54 rfl rfl ?_
  refine p_getr k_Pla_keepsPairs_55 fl_Pla_25 rfl (sk_Pla (sy_Pla s)) (by decide) (sr_Pla_4 (sy_Pla s)) ?_
  refine g_iload k_Pla_keepsPairs_58 rfl ?_
  obtain ⟨q1, e⟩ := o_gd_ex e
  refine p_zald k_Pla_keepsPairs_60 (sa_Pla_4 (sy_Pla s)) (inb_in q1) (j := x5.toNatClampNeg) rfl ?_
  refine g_if_eq (tgt := 81) k_Pla_keepsPairs_61 (by decide) (fun c => ?_) (fun c => ?_)
  · rw [if_pos c] at e
    exact G.wl (wls (wls (wls (wls (wls (wld (wld wl0))))))) (t_Pla_keepsPairs_81 s F m rec_2 hr_2 rec_16 hr_16 x1 x2 x3 x4  hq e hd)
  · rw [if_neg c] at e
    refine g_iload_n k_Pla_keepsPairs_64 rfl rfl ?_
    obtain ⟨y2, e_y2, e⟩ := o_b_ex e
    refine g_cs k_Pla_keepsPairs_65 ls_Pla_72 (by decide +kernel) (s_Pla_isUnderWay (bc := 0) (bs := 0) s x3 m e_y2) rfl rfl (Nat.le_of_ble_eq_true rfl) (by simp [Value.category]) (by omega) (by omega) (by omega) ?_
    refine g_if_eq (tgt := 81) k_Pla_keepsPairs_68 (by decide) (fun c => ?_) (fun c => ?_)
    · rw [if_pos c] at e
      exact G.wl (wls (wls (wls (wls (wls (wld (wld wl0))))))) (t_Pla_keepsPairs_81 s F m rec_2 hr_2 rec_16 hr_16 x1 x2 x3 x4  hq e hd)
    · rw [if_neg c] at e
      refine g_iload k_Pla_keepsPairs_71 rfl ?_
      obtain ⟨y3, e_y3, e⟩ := o_b_ex e
      refine g_cs k_Pla_keepsPairs_73 ls_Pla_72 (by decide +kernel) (s_Pla_isUnderWay (bc := 0) (bs := 0) s x6 m e_y3) rfl rfl (Nat.le_of_ble_eq_true rfl) (by simp [Value.category]) (by omega) (by omega) (by omega) ?_
      refine g_if_eq (tgt := 81) k_Pla_keepsPairs_76 (by decide) (fun c => ?_) (fun c => ?_)
      · rw [if_pos c] at e
        exact G.wl (wls (wls (wls (wls (wls (wld (wld wl0))))))) (t_Pla_keepsPairs_81 s F m rec_2 hr_2 rec_16 hr_16 x1 x2 x3 x4  hq e hd)
      · rw [if_neg c] at e
        refine g_iconst (v := 0) k_Pla_keepsPairs_79 rfl ?_
        refine g_zret k_Pla_keepsPairs_80 rfl (by decide) ?_
        exact (by cases e; exact hq)
def lb_Pla_keepsPairs_16 (F : Nat) (rec_2 : Int32 → Int32 → aM → Option Int32) (rec_16 : Int32 → Int32 → Int32 → Int32 → aM → Option Int32) (x1 : Int32) (x2 : Int32) (x3 : Int32) (x4 : Int32) (m : aM) : Option Int32 :=
  (if 3 ≤ x4 then
  rec_2 x1 (x2 + 1) m
  else
  o_b (f_Pla_stageOf x1 x4 m) fun y1 =>
  o_gd (inb ((x2 * 3) + x4) 9) <|
  o_let ((m 33 (((x2 * 3) + x4).toNatClampNeg))) fun y3 =>
  (if y3 = 0 then
  b_Pla_keepsPairs_54 F rec_2 rec_16 x1 x2 x3 x4 ((x2 * 3) + x4) y1 m
  else
  (if x3 < y1 then
  some 0
  else
  b_Pla_keepsPairs_54 F rec_2 rec_16 x1 x2 x3 x4 ((x2 * 3) + x4) y1 m
  )
  )
  )
theorem tb_Pla_keepsPairs_16 {K : aK} {d bc bs : Nat} {g : aG} (s : Sys g) {Q : aQ} {r : Int32} (F : Nat) (m : aM) (rec_2 : Int32 → Int32 → aM → Option Int32) (hr_2 : ∀ (x1 : Int32) (x2 : Int32), rec_2 x1 x2 m = some r → G K M_Pla_keepsPairs d bc bs 2 [.ref 29, .int x1, .int x2, .double 0, .double 0, .double 0, .double 0] [] (g, m) Q) (rec_16 : Int32 → Int32 → Int32 → Int32 → aM → Option Int32) (hr_16 : ∀ (x1 : Int32) (x2 : Int32) (x3 : Int32) (x4 : Int32), rec_16 x1 x2 x3 x4 m = some r → G K M_Pla_keepsPairs d bc bs 16 [.ref 29, .int x1, .int x2, .int x3, .int x4, .double 0, .double 0] [] (g, m) Q) (x1 : Int32) (x2 : Int32) (x3 : Int32) (x4 : Int32) (hq : Q (.inl (some (.int r))) (g, m)) (e : lb_Pla_keepsPairs_16 F rec_2 rec_16 x1 x2 x3 x4 m = some r) (hd : 2 ≤ d) : G K M_Pla_keepsPairs d bc bs 16 [.ref 29, .int x1, .int x2, .int x3, .int x4, .double 0, .double 0] [] (g, m) Q := by
  unfold lb_Pla_keepsPairs_16 at e
  refine g_iload k_Pla_keepsPairs_16 rfl ?_
  refine g_iconst (v := 3) k_Pla_keepsPairs_18 rfl ?_
  refine g_icmp_ge (tgt := 87) k_Pla_keepsPairs_19 (by decide) (fun c => ?_) (fun c => ?_)
  · rw [if_pos c] at e
    refine g_iinc (v := _ + 1) k_Pla_keepsPairs_87 rfl rfl (by decide) ?_
    refine g_goto (tgt := 2) k_Pla_keepsPairs_90 (by decide) ?_
    exact G.wl (wls (wls (wls (wld (wld (wls (wls wl0))))))) (hr_2 x1 (x2 + 1)  e)
  · rw [if_neg c] at e
    refine g_iload_n k_Pla_keepsPairs_22 rfl rfl ?_
    refine g_iconst (v := 3) k_Pla_keepsPairs_23 rfl ?_
    refine g_imul k_Pla_keepsPairs_24 ?_
    refine g_iload k_Pla_keepsPairs_25 rfl ?_
    refine g_iadd k_Pla_keepsPairs_27 ?_
    refine g_istore k_Pla_keepsPairs_28 (by decide) ?_
    refine g_iload_n k_Pla_keepsPairs_30 rfl rfl ?_
    refine g_iload k_Pla_keepsPairs_31 rfl ?_
    obtain ⟨y1, e_y1, e⟩ := o_b_ex e
    refine g_cs k_Pla_keepsPairs_33 ls_Pla_65 (by decide +kernel) (s_Pla_stageOf (bc := 0) (bs := 0) s x1 x4 m e_y1 (by omega)) rfl rfl (Nat.le_of_ble_eq_true rfl) (by simp [Value.category]) (by omega) (by omega) (by omega) ?_
    refine g_istore k_Pla_keepsPairs_36 (by decide) ?_
    refine g_aload_n k_Pla_keepsPairs_38 rfl rfl ?_
    refine p_getr k_Pla_keepsPairs_39 fl_Pla_21 rfl (sk_Pla (sy_Pla s)) (by decide) (sr_Pla_3 (sy_Pla s)) ?_
    refine g_iload k_Pla_keepsPairs_42 rfl ?_
    obtain ⟨q2, e⟩ := o_gd_ex e
    refine p_zald k_Pla_keepsPairs_44 (sa_Pla_3 (sy_Pla s)) (inb_in q2) (j := ((x2 * 3) + x4).toNatClampNeg) rfl ?_
    obtain ⟨y3, u_y3, e⟩ := o_let_ex e
    refine G.vy u_y3 ?_
    refine g_if_eq (tgt := 54) k_Pla_keepsPairs_45 (by decide) (fun c => ?_) (fun c => ?_)
    · rw [if_pos c] at e
      exact (t_Pla_keepsPairs_54 s F m rec_2 hr_2 rec_16 hr_16 x1 x2 x3 x4 ((x2 * 3) + x4) y1  hq e hd)
    · rw [if_neg c] at e
      refine g_iload k_Pla_keepsPairs_48 rfl ?_
      refine g_iload_n k_Pla_keepsPairs_50 rfl rfl ?_
      refine g_icmp_gt (tgt := 79) k_Pla_keepsPairs_51 (by decide) (fun c => ?_) (fun c => ?_)
      · rw [if_pos c] at e
        refine g_iconst (v := 0) k_Pla_keepsPairs_79 rfl ?_
        refine g_zret k_Pla_keepsPairs_80 rfl (by decide) ?_
        exact (by cases e; exact hq)
      · rw [if_neg c] at e
        exact (t_Pla_keepsPairs_54 s F m rec_2 hr_2 rec_16 hr_16 x1 x2 x3 x4 ((x2 * 3) + x4) y1  hq e hd)
def ll_Pla_keepsPairs_16 (F : Nat) (rec_2 : Int32 → Int32 → aM → Option Int32) : Nat → Int32 → Int32 → Int32 → Int32 → aM → Option Int32
  | 0, _, _, _, _, _ => none
  | N + 1, x1, x2, x3, x4, m => lb_Pla_keepsPairs_16 F rec_2 (ll_Pla_keepsPairs_16 F rec_2 N) x1 x2 x3 x4 m
theorem t_Pla_keepsPairs_16 {K : aK} {d bc bs : Nat} {g : aG} (s : Sys g) {Q : aQ} {r : Int32} (F : Nat) (m : aM) (rec_2 : Int32 → Int32 → aM → Option Int32) (hr_2 : ∀ (x1 : Int32) (x2 : Int32), rec_2 x1 x2 m = some r → G K M_Pla_keepsPairs d bc bs 2 [.ref 29, .int x1, .int x2, .double 0, .double 0, .double 0, .double 0] [] (g, m) Q) : ∀ (N : Nat) (x1 : Int32) (x2 : Int32) (x3 : Int32) (x4 : Int32), Q (.inl (some (.int r))) (g, m) → ll_Pla_keepsPairs_16 F rec_2 N x1 x2 x3 x4 m = some r → 2 ≤ d → G K M_Pla_keepsPairs d bc bs 16 [.ref 29, .int x1, .int x2, .int x3, .int x4, .double 0, .double 0] [] (g, m) Q
  | 0, _, _, _, _ => fun _ e => nomatch e
  | N + 1, x1, x2, x3, x4 => fun hq e hd => tb_Pla_keepsPairs_16 s F m rec_2 hr_2 (ll_Pla_keepsPairs_16 F rec_2 N) (fun x1 x2 x3 x4 e => t_Pla_keepsPairs_16 s F m rec_2 hr_2 N x1 x2 x3 x4 hq e hd) x1 x2 x3 x4 hq e hd
def lb_Pla_keepsPairs_2 (F : Nat) (rec_2 : Int32 → Int32 → aM → Option Int32) (x1 : Int32) (x2 : Int32) (m : aM) : Option Int32 :=
  (if 3 ≤ x2 then
  some 1
  else
  o_b (f_Pla_stageOf x1 x2 m) fun y1 =>
  ll_Pla_keepsPairs_16 F rec_2 F x1 x2 y1 0 m
  )
theorem tb_Pla_keepsPairs_2 {K : aK} {d bc bs : Nat} {g : aG} (s : Sys g) {Q : aQ} {r : Int32} (F : Nat) (m : aM) (rec_2 : Int32 → Int32 → aM → Option Int32) (hr_2 : ∀ (x1 : Int32) (x2 : Int32), rec_2 x1 x2 m = some r → G K M_Pla_keepsPairs d bc bs 2 [.ref 29, .int x1, .int x2, .double 0, .double 0, .double 0, .double 0] [] (g, m) Q) (x1 : Int32) (x2 : Int32) (hq : Q (.inl (some (.int r))) (g, m)) (e : lb_Pla_keepsPairs_2 F rec_2 x1 x2 m = some r) (hd : 2 ≤ d) : G K M_Pla_keepsPairs d bc bs 2 [.ref 29, .int x1, .int x2, .double 0, .double 0, .double 0, .double 0] [] (g, m) Q := by
  unfold lb_Pla_keepsPairs_2 at e
  refine g_iload_n k_Pla_keepsPairs_2 rfl rfl ?_
  refine g_iconst (v := 3) k_Pla_keepsPairs_3 rfl ?_
  refine g_icmp_ge (tgt := 93) k_Pla_keepsPairs_4 (by decide) (fun c => ?_) (fun c => ?_)
  · rw [if_pos c] at e
    refine g_iconst (v := 1) k_Pla_keepsPairs_93 rfl ?_
    refine g_zret k_Pla_keepsPairs_94 rfl (by decide) ?_
    exact (by cases e; exact hq)
  · rw [if_neg c] at e
    refine g_iload_n k_Pla_keepsPairs_7 rfl rfl ?_
    refine g_iload_n k_Pla_keepsPairs_8 rfl rfl ?_
    obtain ⟨y1, e_y1, e⟩ := o_b_ex e
    refine g_cs k_Pla_keepsPairs_9 ls_Pla_65 (by decide +kernel) (s_Pla_stageOf (bc := 0) (bs := 0) s x1 x2 m e_y1 (by omega)) rfl rfl (Nat.le_of_ble_eq_true rfl) (by simp [Value.category]) (by omega) (by omega) (by omega) ?_
    refine g_istore_n k_Pla_keepsPairs_12 rfl (by decide) ?_
    refine g_iconst (v := 0) k_Pla_keepsPairs_13 rfl ?_
    refine g_istore k_Pla_keepsPairs_14 (by decide) ?_
    exact (t_Pla_keepsPairs_16 s F m rec_2 hr_2 F x1 x2 y1 0  hq e hd)
def ll_Pla_keepsPairs_2 (F : Nat) : Nat → Int32 → Int32 → aM → Option Int32
  | 0, _, _, _ => none
  | N + 1, x1, x2, m => lb_Pla_keepsPairs_2 F (ll_Pla_keepsPairs_2 F N) x1 x2 m
theorem t_Pla_keepsPairs_2 {K : aK} {d bc bs : Nat} {g : aG} (s : Sys g) {Q : aQ} {r : Int32} (F : Nat) (m : aM) : ∀ (N : Nat) (x1 : Int32) (x2 : Int32), Q (.inl (some (.int r))) (g, m) → ll_Pla_keepsPairs_2 F N x1 x2 m = some r → 2 ≤ d → G K M_Pla_keepsPairs d bc bs 2 [.ref 29, .int x1, .int x2, .double 0, .double 0, .double 0, .double 0] [] (g, m) Q
  | 0, _, _ => fun _ e => nomatch e
  | N + 1, x1, x2 => fun hq e hd => tb_Pla_keepsPairs_2 s F m (ll_Pla_keepsPairs_2 F N) (fun x1 x2 e => t_Pla_keepsPairs_2 s F m N x1 x2 hq e hd) x1 x2 hq e hd
def f_Pla_keepsPairs (F : Nat) (x1 : Int32) (m : aM) : Option Int32 :=
  ll_Pla_keepsPairs_2 F F x1 0 m
theorem s_Pla_keepsPairs {K : aK} {d bc bs : Nat} {g : aG} (s : Sys g) (F : Nat) (x1 : Int32) (m : aM) {r : Int32} (e : f_Pla_keepsPairs F x1 m = some r) (hd : 2 ≤ d) : Sp K M_Pla_keepsPairs d bc bs [.ref 29, .int x1] (g, m) (some (.int r)) (g, m) := by
  refine sp_of ok_Pla_keepsPairs rfl (Nat.le_of_ble_eq_true rfl) (by simp [Value.category]) (fun Q hq => ?_)
  unfold f_Pla_keepsPairs at e
  refine g_iconst (v := 0) k_Pla_keepsPairs_0 rfl ?_
  refine g_istore_n k_Pla_keepsPairs_1 rfl (by decide) ?_
  exact (t_Pla_keepsPairs_2 s F m F x1 0  hq e hd)
def lb_Pla_isStanding_2 (F : Nat) (rec_2 : Int32 → Int32 → Int32 → aM → Option Int32) (x1 : Int32) (x2 : Int32) (x3 : Int32) (m : aM) : Option Int32 :=
  (if (m 29 5) ≤ x3 then
  o_b (f_Pla_keepsPairs F x1 m) fun y1 =>
  o_gd (isb y1) <|
  some y1
  else
  o_b (f_Pla_stagesFor F x3 x2 m) fun y3 =>
  o_b (f_Pla_stageOf x1 x3 m) fun y4 =>
  o_let (((y3 : Int32) >>> (y4 &&& 31))) fun y5 =>
  (if (y5 &&& 1) = 0 then
  some 0
  else
  rec_2 x1 x2 (x3 + 1) m
  )
  )
theorem tb_Pla_isStanding_2 {K : aK} {d bc bs : Nat} {g : aG} (s : Sys g) {Q : aQ} {r : Int32} (F : Nat) (m : aM) (rec_2 : Int32 → Int32 → Int32 → aM → Option Int32) (hr_2 : ∀ (x1 : Int32) (x2 : Int32) (x3 : Int32), rec_2 x1 x2 x3 m = some r → G K M_Pla_isStanding d bc bs 2 [.ref 29, .int x1, .int x2, .int x3] [] (g, m) Q) (x1 : Int32) (x2 : Int32) (x3 : Int32) (hq : Q (.inl (some (.int r))) (g, m)) (e : lb_Pla_isStanding_2 F rec_2 x1 x2 x3 m = some r) (hd : 3 ≤ d) : G K M_Pla_isStanding d bc bs 2 [.ref 29, .int x1, .int x2, .int x3] [] (g, m) Q := by
  unfold lb_Pla_isStanding_2 at e
  refine g_iload_n k_Pla_isStanding_2 rfl rfl ?_
  refine g_aload_n k_Pla_isStanding_3 rfl rfl ?_
  refine p_geti k_Pla_isStanding_4 fl_Pla_32 rfl (sk_Pla (sy_Pla s)) (by decide) ?_
  refine g_icmp_ge (tgt := 35) k_Pla_isStanding_7 (by decide) (fun c => ?_) (fun c => ?_)
  · rw [if_pos c] at e
    refine g_aload_n k_Pla_isStanding_35 rfl rfl ?_
    refine g_iload_n k_Pla_isStanding_36 rfl rfl ?_
    obtain ⟨y1, e_y1, e⟩ := o_b_ex e
    refine g_cv k_Pla_isStanding_37 lv_Pla_68 (by decide +kernel) (T := F_Pla) (N := 8) (ci := 4) rfl (sk_Pla (sy_Pla s)) (s_Pla_keepsPairs (bc := 0) (bs := 0) s F x1 m e_y1 (by omega)) rfl rfl (Nat.le_of_ble_eq_true rfl) (by simp [Value.category]) (by omega) (by omega) (by omega) ?_
    obtain ⟨q2, e⟩ := o_gd_ex e
    refine g_zret k_Pla_isStanding_40 rfl (isb_or q2) ?_
    exact (by cases e; exact hq)
  · rw [if_neg c] at e
    refine g_aload_n k_Pla_isStanding_10 rfl rfl ?_
    refine g_iload_n k_Pla_isStanding_11 rfl rfl ?_
    refine g_iload_n k_Pla_isStanding_12 rfl rfl ?_
    obtain ⟨y3, e_y3, e⟩ := o_b_ex e
    refine g_cv k_Pla_isStanding_13 lv_Pla_62 (by decide +kernel) (T := F_Pla) (N := 8) (ci := 4) rfl (sk_Pla (sy_Pla s)) (s_Pla_stagesFor (bc := 0) (bs := 0) s F x3 x2 m e_y3) rfl rfl (Nat.le_of_ble_eq_true rfl) (by simp [Value.category]) (by omega) (by omega) (by omega) ?_
    refine g_iload_n k_Pla_isStanding_16 rfl rfl ?_
    refine g_iload_n k_Pla_isStanding_17 rfl rfl ?_
    obtain ⟨y4, e_y4, e⟩ := o_b_ex e
    refine g_cs k_Pla_isStanding_18 ls_Pla_65 (by decide +kernel) (s_Pla_stageOf (bc := 0) (bs := 0) s x1 x3 m e_y4 (by omega)) rfl rfl (Nat.le_of_ble_eq_true rfl) (by simp [Value.category]) (by omega) (by omega) (by omega) ?_
    refine g_ishr k_Pla_isStanding_21 ?_
    obtain ⟨y5, u_y5, e⟩ := o_let_ex e
    refine G.vy u_y5 ?_
    refine g_iconst (v := 1) k_Pla_isStanding_22 rfl ?_
    refine g_iand k_Pla_isStanding_23 ?_
    refine g_if_ne (tgt := 29) k_Pla_isStanding_24 (by decide) (fun c => ?_) (fun c => ?_)
    · rw [if_pos c] at e
      refine g_iconst (v := 0) k_Pla_isStanding_27 rfl ?_
      refine g_zret k_Pla_isStanding_28 rfl (by decide) ?_
      exact (by cases e; exact hq)
    · rw [if_neg c] at e
      refine g_iinc (v := _ + 1) k_Pla_isStanding_29 rfl rfl (by decide) ?_
      refine g_goto (tgt := 2) k_Pla_isStanding_32 (by decide) ?_
      exact (hr_2 x1 x2 (x3 + 1)  e)
def ll_Pla_isStanding_2 (F : Nat) : Nat → Int32 → Int32 → Int32 → aM → Option Int32
  | 0, _, _, _, _ => none
  | N + 1, x1, x2, x3, m => lb_Pla_isStanding_2 F (ll_Pla_isStanding_2 F N) x1 x2 x3 m
theorem t_Pla_isStanding_2 {K : aK} {d bc bs : Nat} {g : aG} (s : Sys g) {Q : aQ} {r : Int32} (F : Nat) (m : aM) : ∀ (N : Nat) (x1 : Int32) (x2 : Int32) (x3 : Int32), Q (.inl (some (.int r))) (g, m) → ll_Pla_isStanding_2 F N x1 x2 x3 m = some r → 3 ≤ d → G K M_Pla_isStanding d bc bs 2 [.ref 29, .int x1, .int x2, .int x3] [] (g, m) Q
  | 0, _, _, _ => fun _ e => nomatch e
  | N + 1, x1, x2, x3 => fun hq e hd => tb_Pla_isStanding_2 s F m (ll_Pla_isStanding_2 F N) (fun x1 x2 x3 e => t_Pla_isStanding_2 s F m N x1 x2 x3 hq e hd) x1 x2 x3 hq e hd
def f_Pla_isStanding (F : Nat) (x1 : Int32) (x2 : Int32) (m : aM) : Option Int32 :=
  ll_Pla_isStanding_2 F F x1 x2 0 m
theorem s_Pla_isStanding {K : aK} {d bc bs : Nat} {g : aG} (s : Sys g) (F : Nat) (x1 : Int32) (x2 : Int32) (m : aM) {r : Int32} (e : f_Pla_isStanding F x1 x2 m = some r) (hd : 3 ≤ d) : Sp K M_Pla_isStanding d bc bs [.ref 29, .int x1, .int x2] (g, m) (some (.int r)) (g, m) := by
  refine sp_of ok_Pla_isStanding rfl (Nat.le_of_ble_eq_true rfl) (by simp [Value.category]) (fun Q hq => ?_)
  unfold f_Pla_isStanding at e
  refine g_iconst (v := 0) k_Pla_isStanding_0 rfl ?_
  refine g_istore_n k_Pla_isStanding_1 rfl (by decide) ?_
  exact (t_Pla_isStanding_2 s F m F x1 x2 0  hq e hd)
def f_Pla_priceOf (x1 : Int32) (m : aM) : Option Int32 :=
  (if x1 < 0 then
  some 0
  else
  (if 5 ≤ x1 then
  some 0
  else
  o_gd (inb x1 5) <|
  some (m 32 x1.toNatClampNeg)
  )
  )
theorem s_Pla_priceOf {K : aK} {d bc bs : Nat} {g : aG} (s : Sys g) (x1 : Int32) (m : aM) {r : Int32} (e : f_Pla_priceOf x1 m = some r) : Sp K M_Pla_priceOf d bc bs [.ref 29, .int x1] (g, m) (some (.int r)) (g, m) := by
  refine sp_of ok_Pla_priceOf rfl (Nat.le_of_ble_eq_true rfl) (by simp [Value.category]) (fun Q hq => ?_)
  unfold f_Pla_priceOf at e
  refine g_iload_n k_Pla_priceOf_0 rfl rfl ?_
  refine g_if_lt (tgt := 22) k_Pla_priceOf_1 (by decide) (fun c => ?_) (fun c => ?_)
  · rw [if_pos c] at e
    refine g_iconst (v := 0) k_Pla_priceOf_22 rfl ?_
    refine g_iret k_Pla_priceOf_23 rfl ?_
    exact (by cases e; exact hq)
  · rw [if_neg c] at e
    refine g_iload_n k_Pla_priceOf_4 rfl rfl ?_
    refine g_aload_n k_Pla_priceOf_5 rfl rfl ?_
    refine p_getr k_Pla_priceOf_6 fl_Pla_18 rfl (sk_Pla (sy_Pla s)) (by decide) (sr_Pla_2 (sy_Pla s)) ?_
    refine p_alen (v := 5) k_Pla_priceOf_9 (sa_Pla_2 (sy_Pla s)) (by decide) rfl ?_
    refine g_icmp_ge (tgt := 22) k_Pla_priceOf_10 (by decide) (fun c => ?_) (fun c => ?_)
    · rw [if_pos c] at e
      refine g_iconst (v := 0) k_Pla_priceOf_22 rfl ?_
      refine g_iret k_Pla_priceOf_23 rfl ?_
      exact (by cases e; exact hq)
    · rw [if_neg c] at e
      refine g_aload_n k_Pla_priceOf_13 rfl rfl ?_
      refine p_getr k_Pla_priceOf_14 fl_Pla_18 rfl (sk_Pla (sy_Pla s)) (by decide) (sr_Pla_2 (sy_Pla s)) ?_
      refine g_iload_n k_Pla_priceOf_17 rfl rfl ?_
      obtain ⟨q1, e⟩ := o_gd_ex e
      refine p_iald k_Pla_priceOf_18 (sa_Pla_2 (sy_Pla s)) (inb_in q1) (j := x1.toNatClampNeg) rfl ?_
      refine g_goto (tgt := 23) k_Pla_priceOf_19 (by decide) ?_
      refine g_iret k_Pla_priceOf_23 rfl ?_
      exact (by cases e; exact hq)
def f_Pla_holdAt (x1 : Int32) (x2 : Int32) (m : aM) : Option Int32 :=
  (if ((x1 * 5) + x2) < 0 then
  some 0
  else
  (if 15 ≤ ((x1 * 5) + x2) then
  some 0
  else
  o_gd (inb ((x1 * 5) + x2) 15) <|
  o_let ((m 30 (((x1 * 5) + x2).toNatClampNeg))) fun y2 =>
  some y2
  )
  )
theorem s_Pla_holdAt {K : aK} {d bc bs : Nat} {g : aG} (s : Sys g) (x1 : Int32) (x2 : Int32) (m : aM) {r : Int32} (e : f_Pla_holdAt x1 x2 m = some r) : Sp K M_Pla_holdAt d bc bs [.ref 29, .int x1, .int x2] (g, m) (some (.int r)) (g, m) := by
  refine sp_of ok_Pla_holdAt rfl (Nat.le_of_ble_eq_true rfl) (by simp [Value.category]) (fun Q hq => ?_)
  unfold f_Pla_holdAt at e
  refine g_iload_n k_Pla_holdAt_0 rfl rfl ?_
  refine g_iconst (v := 5) k_Pla_holdAt_1 rfl ?_
  refine g_imul k_Pla_holdAt_2 ?_
  refine g_iload_n k_Pla_holdAt_3 rfl rfl ?_
  refine g_iadd k_Pla_holdAt_4 ?_
  refine g_istore_n k_Pla_holdAt_5 rfl (by decide) ?_
  refine g_iload_n k_Pla_holdAt_6 rfl rfl ?_
  refine g_if_lt (tgt := 28) k_Pla_holdAt_7 (by decide) (fun c => ?_) (fun c => ?_)
  · rw [if_pos c] at e
    refine g_iconst (v := 0) k_Pla_holdAt_28 rfl ?_
    refine g_iret k_Pla_holdAt_29 rfl ?_
    exact (by cases e; exact hq)
  · rw [if_neg c] at e
    refine g_iload_n k_Pla_holdAt_10 rfl rfl ?_
    refine g_aload_n k_Pla_holdAt_11 rfl rfl ?_
    refine p_getr k_Pla_holdAt_12 fl_Pla_9 rfl (sk_Pla (sy_Pla s)) (by decide) (sr_Pla_0 (sy_Pla s)) ?_
    refine p_alen (v := 15) k_Pla_holdAt_15 (sa_Pla_0 (sy_Pla s)) (by decide) rfl ?_
    refine g_icmp_ge (tgt := 28) k_Pla_holdAt_16 (by decide) (fun c => ?_) (fun c => ?_)
    · rw [if_pos c] at e
      refine g_iconst (v := 0) k_Pla_holdAt_28 rfl ?_
      refine g_iret k_Pla_holdAt_29 rfl ?_
      exact (by cases e; exact hq)
    · rw [if_neg c] at e
      refine g_aload_n k_Pla_holdAt_19 rfl rfl ?_
      refine p_getr k_Pla_holdAt_20 fl_Pla_9 rfl (sk_Pla (sy_Pla s)) (by decide) (sr_Pla_0 (sy_Pla s)) ?_
      refine g_iload_n k_Pla_holdAt_23 rfl rfl ?_
      obtain ⟨q1, e⟩ := o_gd_ex e
      refine p_iald k_Pla_holdAt_24 (sa_Pla_0 (sy_Pla s)) (inb_in q1) (j := ((x1 * 5) + x2).toNatClampNeg) rfl ?_
      obtain ⟨y2, u_y2, e⟩ := o_let_ex e
      refine G.vy u_y2 ?_
      refine g_goto (tgt := 29) k_Pla_holdAt_25 (by decide) ?_
      refine g_iret k_Pla_holdAt_29 rfl ?_
      exact (by cases e; exact hq)
