/-! Row (made by wip/gen/auto2.py) -/
def f_Row_isBroken (a0 : Nat) (m : aM) : Option Int32 :=
  (if (m a0 3) = (-1) then
  some 0
  else
  (if (m a0 4) = (-1) then
  some 0
  else
  some 1
  )
  )
theorem s_Row_isBroken {K : aK} {d bc bs : Nat} {g : aG} (s : Sys g) (a0 : Nat) (s0 : ShRow g a0) (m : aM) {r : Int32} (e : f_Row_isBroken a0 m = some r) : Sp K M_Row_isBroken d bc bs [.ref a0] (g, m) (some (.int r)) (g, m) := by
  refine sp_of ok_Row_isBroken rfl (Nat.le_of_ble_eq_true rfl) (by simp [Value.category]) (fun Q hq => ?_)
  unfold f_Row_isBroken at e
  refine g_aload_n k_Row_isBroken_0 rfl rfl ?_
  refine p_geti k_Row_isBroken_1 fl_Row_25 rfl (sk_Row s0) (by decide) ?_
  refine g_iconst (v := (-1)) k_Row_isBroken_4 rfl ?_
  refine g_icmp_eq (tgt := 20) k_Row_isBroken_5 (by decide) (fun c => ?_) (fun c => ?_)
  · rw [if_pos c] at e
    refine g_iconst (v := 0) k_Row_isBroken_20 rfl ?_
    refine g_zret k_Row_isBroken_21 rfl (by decide) ?_
    exact (by cases e; exact hq)
  · rw [if_neg c] at e
    refine g_aload_n k_Row_isBroken_8 rfl rfl ?_
    refine p_geti k_Row_isBroken_9 fl_Row_29 rfl (sk_Row s0) (by decide) ?_
    refine g_iconst (v := (-1)) k_Row_isBroken_12 rfl ?_
    refine g_icmp_eq (tgt := 20) k_Row_isBroken_13 (by decide) (fun c => ?_) (fun c => ?_)
    · rw [if_pos c] at e
      refine g_iconst (v := 0) k_Row_isBroken_20 rfl ?_
      refine g_zret k_Row_isBroken_21 rfl (by decide) ?_
      exact (by cases e; exact hq)
    · rw [if_neg c] at e
      refine g_iconst (v := 1) k_Row_isBroken_16 rfl ?_
      refine g_goto (tgt := 21) k_Row_isBroken_17 (by decide) ?_
      refine g_zret k_Row_isBroken_21 rfl (by decide) ?_
      exact (by cases e; exact hq)
def f_Row_heal (a0 : Nat) (m : aM) : Option (Int32 × aM) :=
  o_let (a_st m a0 4 (-1)) fun m1 =>
  o_let (a_st m1 a0 5 (-1)) fun m2 =>
  some (0, m2)
theorem s_Row_heal {K : aK} {d bc bs : Nat} {g : aG} (s : Sys g) (a0 : Nat) (s0 : ShRow g a0) (m : aM) {r : Int32} {m' : aM} (e : f_Row_heal a0 m = some (r, m')) : Sp K M_Row_heal d bc bs [.ref a0] (g, m) none (g, m') := by
  refine sp_of ok_Row_heal rfl (Nat.le_of_ble_eq_true rfl) (by simp [Value.category]) (fun Q hq => ?_)
  unfold f_Row_heal at e
  refine g_aload_n k_Row_heal_0 rfl rfl ?_
  refine g_iconst (v := (-1)) k_Row_heal_1 rfl ?_
  refine p_puti k_Row_heal_2 fl_Row_29 rfl ⟨R_Row, F_Row, 8, rfl, Or.inl rfl⟩ (sk_Row s0) (by decide) ?_
  obtain ⟨m1, u_m1, e⟩ := o_let_ex e
  refine G.hm u_m1 ?_
  refine g_aload_n k_Row_heal_5 rfl rfl ?_
  refine g_iconst (v := (-1)) k_Row_heal_6 rfl ?_
  refine p_puti k_Row_heal_7 fl_Row_32 rfl ⟨R_Row, F_Row, 8, rfl, Or.inl rfl⟩ (sk_Row s0) (by decide) ?_
  obtain ⟨m2, u_m2, e⟩ := o_let_ex e
  refine G.hm u_m2 ?_
  refine g_vret k_Row_heal_10 rfl ?_
  exact (by cases e; exact hq)
def lb_Row_begin_2 (F : Nat) (rec_2 : Nat → Int32 → aM → Option (Int32 × aM)) (a0 : Nat) (x1 : Int32) (m : aM) : Option (Int32 × aM) :=
  (if 4 ≤ x1 then
  o_let (a_st m a0 3 0) fun m1 =>
  o_let (a_st m1 a0 6 (-1)) fun m2 =>
  o_b2 (f_Row_heal a0 m2) fun y3 m4 =>
  some (0, m4)
  else
  o_gd (inb x1 4) <|
  o_let (a_st m (a0 + 1) x1.toNatClampNeg 0) fun m6 =>
  o_gd (inb x1 4) <|
  o_let (a_st m6 (a0 + 2) x1.toNatClampNeg 0) fun m8 =>
  o_gd (inb x1 4) <|
  o_let (a_st m8 (a0 + 3) x1.toNatClampNeg 0) fun m10 =>
  rec_2 a0 (x1 + 1) m10
  )
theorem tb_Row_begin_2 {K : aK} {d bc bs : Nat} {g : aG} (s : Sys g) {Q : aQ} {r : Int32} {m' : aM} (F : Nat) (rec_2 : Nat → Int32 → aM → Option (Int32 × aM)) (hr_2 : ∀ (a0 : Nat) (s0 : ShRow g a0) (x1 : Int32) (m : aM), rec_2 a0 x1 m = some (r, m') → G K M_Row_begin d bc bs 2 [.ref a0, .int x1] [] (g, m) Q) (a0 : Nat) (s0 : ShRow g a0) (x1 : Int32) (m : aM) (hq : Q (.inl none) (g, m')) (e : lb_Row_begin_2 F rec_2 a0 x1 m = some (r, m')) (hd : 1 ≤ d) : G K M_Row_begin d bc bs 2 [.ref a0, .int x1] [] (g, m) Q := by
  unfold lb_Row_begin_2 at e
  refine g_iload_n k_Row_begin_2 rfl rfl ?_
  refine g_iconst (v := 4) k_Row_begin_3 rfl ?_
  refine g_icmp_ge (tgt := 34) k_Row_begin_4 (by decide) (fun c => ?_) (fun c => ?_)
  · rw [if_pos c] at e
    refine g_aload_n k_Row_begin_34 rfl rfl ?_
    refine g_iconst (v := 0) k_Row_begin_35 rfl ?_
    refine p_puti k_Row_begin_36 fl_Row_25 rfl ⟨R_Row, F_Row, 8, rfl, Or.inl rfl⟩ (sk_Row s0) (by decide) ?_
    obtain ⟨m1, u_m1, e⟩ := o_let_ex e
    refine G.hm u_m1 ?_
    refine g_aload_n k_Row_begin_39 rfl rfl ?_
    refine g_iconst (v := (-1)) k_Row_begin_40 rfl ?_
    refine p_puti k_Row_begin_41 fl_Row_35 rfl ⟨R_Row, F_Row, 8, rfl, Or.inl rfl⟩ (sk_Row s0) (by decide) ?_
    obtain ⟨m2, u_m2, e⟩ := o_let_ex e
    refine G.hm u_m2 ?_
    refine g_aload_n k_Row_begin_44 rfl rfl ?_
    obtain ⟨y3, m4, e_y3, e⟩ := o_b2_ex e
    refine g_cv k_Row_begin_45 lv_Row_38 (by decide +kernel) (T := F_Row) (N := 8) (ci := 6) rfl (sk_Row s0) (s_Row_heal (bc := 0) (bs := 0) s a0 s0 m2 e_y3) rfl rfl (Nat.le_of_ble_eq_true rfl) (by simp [Value.category]) (by omega) (by omega) (by omega) ?_
    refine g_vret k_Row_begin_48 rfl ?_
    exact (by cases e; exact hq)
  · rw [if_neg c] at e
    refine g_aload_n k_Row_begin_7 rfl rfl ?_
    refine p_getr k_Row_begin_8 fl_Row_9 rfl (sk_Row s0) (by decide) (sr_Row_0 s0) ?_
    refine g_iload_n k_Row_begin_11 rfl rfl ?_
    refine g_iconst (v := 0) k_Row_begin_12 rfl ?_
    obtain ⟨q5, e⟩ := o_gd_ex e
    refine p_iast k_Row_begin_13 (sa_Row_0 s0) (inb_in q5) (j := x1.toNatClampNeg) rfl ?_
    obtain ⟨m6, u_m6, e⟩ := o_let_ex e
    refine G.hm u_m6 ?_
    refine g_aload_n k_Row_begin_14 rfl rfl ?_
    refine p_getr k_Row_begin_15 fl_Row_15 rfl (sk_Row s0) (by decide) (sr_Row_1 s0) ?_
    refine g_iload_n k_Row_begin_18 rfl rfl ?_
    refine g_iconst (v := 0) k_Row_begin_19 rfl ?_
    obtain ⟨q7, e⟩ := o_gd_ex e
    refine p_iast k_Row_begin_20 (sa_Row_1 s0) (inb_in q7) (j := x1.toNatClampNeg) rfl ?_
    obtain ⟨m8, u_m8, e⟩ := o_let_ex e
    refine G.hm u_m8 ?_
    refine g_aload_n k_Row_begin_21 rfl rfl ?_
    refine p_getr k_Row_begin_22 fl_Row_18 rfl (sk_Row s0) (by decide) (sr_Row_2 s0) ?_
    refine g_iload_n k_Row_begin_25 rfl rfl ?_
    refine g_iconst (v := 0) k_Row_begin_26 rfl ?_
    obtain ⟨q9, e⟩ := o_gd_ex e
    refine p_iast k_Row_begin_27 (sa_Row_2 s0) (inb_in q9) (j := x1.toNatClampNeg) rfl ?_
    obtain ⟨m10, u_m10, e⟩ := o_let_ex e
    refine G.hm u_m10 ?_
    refine g_iinc (v := _ + 1) k_Row_begin_28 rfl rfl (by decide) ?_
    refine g_goto (tgt := 2) k_Row_begin_31 (by decide) ?_
    exact (hr_2 a0 s0 (x1 + 1) m10 e)
def ll_Row_begin_2 (F : Nat) : Nat → Nat → Int32 → aM → Option (Int32 × aM)
  | 0, _, _, _ => none
  | N + 1, a0, x1, m => lb_Row_begin_2 F (ll_Row_begin_2 F N) a0 x1 m
theorem t_Row_begin_2 {K : aK} {d bc bs : Nat} {g : aG} (s : Sys g) {Q : aQ} {r : Int32} {m' : aM} (F : Nat) : ∀ (N : Nat) (a0 : Nat) (s0 : ShRow g a0) (x1 : Int32) (m : aM), Q (.inl none) (g, m') → ll_Row_begin_2 F N a0 x1 m = some (r, m') → 1 ≤ d → G K M_Row_begin d bc bs 2 [.ref a0, .int x1] [] (g, m) Q
  | 0, _, _, _, _ => fun _ e => nomatch e
  | N + 1, a0, s0, x1, m => fun hq e hd => tb_Row_begin_2 s F (ll_Row_begin_2 F N) (fun a0 s0 x1 m e => t_Row_begin_2 s F N a0 s0 x1 m hq e hd) a0 s0 x1 m hq e hd
def f_Row_begin (F : Nat) (a0 : Nat) (m : aM) : Option (Int32 × aM) :=
  ll_Row_begin_2 F F a0 0 m
theorem s_Row_begin {K : aK} {d bc bs : Nat} {g : aG} (s : Sys g) (F : Nat) (a0 : Nat) (s0 : ShRow g a0) (m : aM) {r : Int32} {m' : aM} (e : f_Row_begin F a0 m = some (r, m')) (hd : 1 ≤ d) : Sp K M_Row_begin d bc bs [.ref a0] (g, m) none (g, m') := by
  refine sp_of ok_Row_begin rfl (Nat.le_of_ble_eq_true rfl) (by simp [Value.category]) (fun Q hq => ?_)
  unfold f_Row_begin at e
  refine g_iconst (v := 0) k_Row_begin_0 rfl ?_
  refine g_istore_n k_Row_begin_1 rfl (by decide) ?_
  exact (t_Row_begin_2 s F F a0 s0 0 m hq e hd)
def f_Row_hasOld (a0 : Nat) (m : aM) : Option Int32 :=
  (if (m a0 3) = 0 then
  some 1
  else
  (if (m a0 3) = 1 then
  some 1
  else
  (if (m a0 3) = 3 then
  some 1
  else
  some 0
  )
  )
  )
theorem s_Row_hasOld {K : aK} {d bc bs : Nat} {g : aG} (s : Sys g) (a0 : Nat) (s0 : ShRow g a0) (m : aM) {r : Int32} (e : f_Row_hasOld a0 m = some r) : Sp K M_Row_hasOld d bc bs [.ref a0] (g, m) (some (.int r)) (g, m) := by
  refine sp_of ok_Row_hasOld rfl (Nat.le_of_ble_eq_true rfl) (by simp [Value.category]) (fun Q hq => ?_)
  unfold f_Row_hasOld at e
  refine g_aload_n k_Row_hasOld_0 rfl rfl ?_
  refine p_geti k_Row_hasOld_1 fl_Row_25 rfl (sk_Row s0) (by decide) ?_
  refine g_if_eq (tgt := 23) k_Row_hasOld_4 (by decide) (fun c => ?_) (fun c => ?_)
  · rw [if_pos c] at e
    refine g_iconst (v := 1) k_Row_hasOld_23 rfl ?_
    refine g_goto (tgt := 28) k_Row_hasOld_24 (by decide) ?_
    refine g_zret k_Row_hasOld_28 rfl (by decide) ?_
    exact (by cases e; exact hq)
  · rw [if_neg c] at e
    refine g_aload_n k_Row_hasOld_7 rfl rfl ?_
    refine p_geti k_Row_hasOld_8 fl_Row_25 rfl (sk_Row s0) (by decide) ?_
    refine g_iconst (v := 1) k_Row_hasOld_11 rfl ?_
    refine g_icmp_eq (tgt := 23) k_Row_hasOld_12 (by decide) (fun c => ?_) (fun c => ?_)
    · rw [if_pos c] at e
      refine g_iconst (v := 1) k_Row_hasOld_23 rfl ?_
      refine g_goto (tgt := 28) k_Row_hasOld_24 (by decide) ?_
      refine g_zret k_Row_hasOld_28 rfl (by decide) ?_
      exact (by cases e; exact hq)
    · rw [if_neg c] at e
      refine g_aload_n k_Row_hasOld_15 rfl rfl ?_
      refine p_geti k_Row_hasOld_16 fl_Row_25 rfl (sk_Row s0) (by decide) ?_
      refine g_iconst (v := 3) k_Row_hasOld_19 rfl ?_
      refine g_icmp_ne (tgt := 27) k_Row_hasOld_20 (by decide) (fun c => ?_) (fun c => ?_)
      · rw [if_pos c] at e
        refine g_iconst (v := 1) k_Row_hasOld_23 rfl ?_
        refine g_goto (tgt := 28) k_Row_hasOld_24 (by decide) ?_
        refine g_zret k_Row_hasOld_28 rfl (by decide) ?_
        exact (by cases e; exact hq)
      · rw [if_neg c] at e
        refine g_iconst (v := 0) k_Row_hasOld_27 rfl ?_
        refine g_zret k_Row_hasOld_28 rfl (by decide) ?_
        exact (by cases e; exact hq)
def f_Row_hasNew (a0 : Nat) (m : aM) : Option Int32 :=
  (if (m a0 3) = 1 then
  some 1
  else
  (if (m a0 3) = 2 then
  some 1
  else
  some 0
  )
  )
theorem s_Row_hasNew {K : aK} {d bc bs : Nat} {g : aG} (s : Sys g) (a0 : Nat) (s0 : ShRow g a0) (m : aM) {r : Int32} (e : f_Row_hasNew a0 m = some r) : Sp K M_Row_hasNew d bc bs [.ref a0] (g, m) (some (.int r)) (g, m) := by
  refine sp_of ok_Row_hasNew rfl (Nat.le_of_ble_eq_true rfl) (by simp [Value.category]) (fun Q hq => ?_)
  unfold f_Row_hasNew at e
  refine g_aload_n k_Row_hasNew_0 rfl rfl ?_
  refine p_geti k_Row_hasNew_1 fl_Row_25 rfl (sk_Row s0) (by decide) ?_
  refine g_iconst (v := 1) k_Row_hasNew_4 rfl ?_
  refine g_icmp_eq (tgt := 16) k_Row_hasNew_5 (by decide) (fun c => ?_) (fun c => ?_)
  · rw [if_pos c] at e
    refine g_iconst (v := 1) k_Row_hasNew_16 rfl ?_
    refine g_goto (tgt := 21) k_Row_hasNew_17 (by decide) ?_
    refine g_zret k_Row_hasNew_21 rfl (by decide) ?_
    exact (by cases e; exact hq)
  · rw [if_neg c] at e
    refine g_aload_n k_Row_hasNew_8 rfl rfl ?_
    refine p_geti k_Row_hasNew_9 fl_Row_25 rfl (sk_Row s0) (by decide) ?_
    refine g_iconst (v := 2) k_Row_hasNew_12 rfl ?_
    refine g_icmp_ne (tgt := 20) k_Row_hasNew_13 (by decide) (fun c => ?_) (fun c => ?_)
    · rw [if_pos c] at e
      refine g_iconst (v := 1) k_Row_hasNew_16 rfl ?_
      refine g_goto (tgt := 21) k_Row_hasNew_17 (by decide) ?_
      refine g_zret k_Row_hasNew_21 rfl (by decide) ?_
      exact (by cases e; exact hq)
    · rw [if_neg c] at e
      refine g_iconst (v := 0) k_Row_hasNew_20 rfl ?_
      refine g_zret k_Row_hasNew_21 rfl (by decide) ?_
      exact (by cases e; exact hq)
def f_Row_isWritten (a0 : Nat) (x1 : Int32) (x2 : Int32) (m : aM) : Option Int32 :=
  (if (m a0 6) = x2 then
  (if x1 < 0 then
  some 0
  else
  (if 2 ≤ x1 then
  some 0
  else
  o_gd (inb x1 2) <|
  o_let ((m (a0 + 4) x1.toNatClampNeg)) fun y2 =>
  (if y2 = 0 then
  some 0
  else
  some 1
  )
  )
  )
  else
  some 0
  )
theorem s_Row_isWritten {K : aK} {d bc bs : Nat} {g : aG} (s : Sys g) (a0 : Nat) (s0 : ShRow g a0) (x1 : Int32) (x2 : Int32) (m : aM) {r : Int32} (e : f_Row_isWritten a0 x1 x2 m = some r) : Sp K M_Row_isWritten d bc bs [.ref a0, .int x1, .int x2] (g, m) (some (.int r)) (g, m) := by
  refine sp_of ok_Row_isWritten rfl (Nat.le_of_ble_eq_true rfl) (by simp [Value.category]) (fun Q hq => ?_)
  unfold f_Row_isWritten at e
  refine g_aload_n k_Row_isWritten_0 rfl rfl ?_
  refine p_geti k_Row_isWritten_1 fl_Row_35 rfl (sk_Row s0) (by decide) ?_
  refine g_iload_n k_Row_isWritten_4 rfl rfl ?_
  refine g_icmp_ne (tgt := 34) k_Row_isWritten_5 (by decide) (fun c => ?_) (fun c => ?_)
  · rw [if_pos c] at e
    refine g_iload_n k_Row_isWritten_8 rfl rfl ?_
    refine g_if_lt (tgt := 34) k_Row_isWritten_9 (by decide) (fun c => ?_) (fun c => ?_)
    · rw [if_pos c] at e
      refine g_iconst (v := 0) k_Row_isWritten_34 rfl ?_
      refine g_zret k_Row_isWritten_35 rfl (by decide) ?_
      exact (by cases e; exact hq)
    · rw [if_neg c] at e
      refine g_iload_n k_Row_isWritten_12 rfl rfl ?_
      refine g_aload_n k_Row_isWritten_13 rfl rfl ?_
      refine p_getr k_Row_isWritten_14 fl_Row_21 rfl (sk_Row s0) (by decide) (sr_Row_7 s0) ?_
      refine p_alen (v := 2) k_Row_isWritten_17 (sa_Row_7 s0) (by decide) rfl ?_
      refine g_icmp_ge (tgt := 34) k_Row_isWritten_18 (by decide) (fun c => ?_) (fun c => ?_)
      · rw [if_pos c] at e
        refine g_iconst (v := 0) k_Row_isWritten_34 rfl ?_
        refine g_zret k_Row_isWritten_35 rfl (by decide) ?_
        exact (by cases e; exact hq)
      · rw [if_neg c] at e
        refine g_aload_n k_Row_isWritten_21 rfl rfl ?_
        refine p_getr k_Row_isWritten_22 fl_Row_21 rfl (sk_Row s0) (by decide) (sr_Row_7 s0) ?_
        refine g_iload_n k_Row_isWritten_25 rfl rfl ?_
        obtain ⟨q1, e⟩ := o_gd_ex e
        refine p_zald k_Row_isWritten_26 (sa_Row_7 s0) (inb_in q1) (j := x1.toNatClampNeg) rfl ?_
        obtain ⟨y2, u_y2, e⟩ := o_let_ex e
        refine G.vy u_y2 ?_
        refine g_if_eq (tgt := 34) k_Row_isWritten_27 (by decide) (fun c => ?_) (fun c => ?_)
        · rw [if_pos c] at e
          refine g_iconst (v := 0) k_Row_isWritten_34 rfl ?_
          refine g_zret k_Row_isWritten_35 rfl (by decide) ?_
          exact (by cases e; exact hq)
        · rw [if_neg c] at e
          refine g_iconst (v := 1) k_Row_isWritten_30 rfl ?_
          refine g_goto (tgt := 35) k_Row_isWritten_31 (by decide) ?_
          refine g_zret k_Row_isWritten_35 rfl (by decide) ?_
          exact (by cases e; exact hq)
  · rw [if_neg c] at e
    refine g_iconst (v := 0) k_Row_isWritten_34 rfl ?_
    refine g_zret k_Row_isWritten_35 rfl (by decide) ?_
    exact (by cases e; exact hq)
def b_Row_noteWritten_27 (a0 : Nat) (x1 : Int32) (m : aM) : Option (Int32 × aM) :=
  (if x1 < 0 then
  some (0, m)
  else
  (if 2 ≤ x1 then
  some (0, m)
  else
  o_gd (inb x1 2) <|
  o_let (a_st m (a0 + 4) x1.toNatClampNeg 1) fun m2 =>
  some (0, m2)
  )
  )
theorem t_Row_noteWritten_27 {K : aK} {d bc bs : Nat} {g : aG} (s : Sys g) {Q : aQ} {r : Int32} {m' : aM} (a0 : Nat) (s0 : ShRow g a0) (x1 : Int32) (m : aM) (hq : Q (.inl none) (g, m')) (e : b_Row_noteWritten_27 a0 x1 m = some (r, m')) : G K M_Row_noteWritten d bc bs 27 [.ref a0, .int x1, .double 0] [] (g, m) Q := by
  unfold b_Row_noteWritten_27 at e
  refine g_iload_n k_Row_noteWritten_27 rfl rfl ?_
  refine g_if_lt (tgt := 47) k_Row_noteWritten_28 (by decide) (fun c => ?_) (fun c => ?_)
  · rw [if_pos c] at e
    refine g_vret k_Row_noteWritten_47 rfl ?_
    exact (by cases e; exact hq)
  · rw [if_neg c] at e
    refine g_iload_n k_Row_noteWritten_31 rfl rfl ?_
    refine g_aload_n k_Row_noteWritten_32 rfl rfl ?_
    refine p_getr k_Row_noteWritten_33 fl_Row_21 rfl (sk_Row s0) (by decide) (sr_Row_7 s0) ?_
    refine p_alen (v := 2) k_Row_noteWritten_36 (sa_Row_7 s0) (by decide) rfl ?_
    refine g_icmp_ge (tgt := 47) k_Row_noteWritten_37 (by decide) (fun c => ?_) (fun c => ?_)
    · rw [if_pos c] at e
      refine g_vret k_Row_noteWritten_47 rfl ?_
      exact (by cases e; exact hq)
    · rw [if_neg c] at e
      refine g_aload_n k_Row_noteWritten_40 rfl rfl ?_
      refine p_getr k_Row_noteWritten_41 fl_Row_21 rfl (sk_Row s0) (by decide) (sr_Row_7 s0) ?_
      refine g_iload_n k_Row_noteWritten_44 rfl rfl ?_
      refine g_iconst (v := 1) k_Row_noteWritten_45 rfl ?_
      obtain ⟨q1, e⟩ := o_gd_ex e
      refine p_zast k_Row_noteWritten_46 (sa_Row_7 s0) (inb_in q1) (j := x1.toNatClampNeg) rfl (by decide) ?_
      obtain ⟨m2, u_m2, e⟩ := o_let_ex e
      refine G.hm u_m2 ?_
      refine g_vret k_Row_noteWritten_47 rfl ?_
      exact (by cases e; exact hq)
def f_Row_noteWritten (a0 : Nat) (x1 : Int32) (x2 : Int32) (m : aM) : Option (Int32 × aM) :=
  (if (m a0 6) = x2 then
  b_Row_noteWritten_27 a0 x1 m
  else
  o_let (a_st m (a0 + 4) 0 0) fun m1 =>
  o_let (a_st m1 (a0 + 4) 1 0) fun m2 =>
  o_let (a_st m2 a0 6 x2) fun m3 =>
  b_Row_noteWritten_27 a0 x1 m3
  )
theorem s_Row_noteWritten {K : aK} {d bc bs : Nat} {g : aG} (s : Sys g) (a0 : Nat) (s0 : ShRow g a0) (x1 : Int32) (x2 : Int32) (m : aM) {r : Int32} {m' : aM} (e : f_Row_noteWritten a0 x1 x2 m = some (r, m')) : Sp K M_Row_noteWritten d bc bs [.ref a0, .int x1, .int x2] (g, m) none (g, m') := by
  refine sp_of ok_Row_noteWritten rfl (Nat.le_of_ble_eq_true rfl) (by simp [Value.category]) (fun Q hq => ?_)
  unfold f_Row_noteWritten at e
  refine g_aload_n k_Row_noteWritten_0 rfl rfl ?_
  refine p_geti k_Row_noteWritten_1 fl_Row_35 rfl (sk_Row s0) (by decide) ?_
  refine g_iload_n k_Row_noteWritten_4 rfl rfl ?_
  refine g_icmp_eq (tgt := 27) k_Row_noteWritten_5 (by decide) (fun c => ?_) (fun c => ?_)
  · rw [if_pos c] at e
    exact G.wl (wls (wls (wld wl0))) (t_Row_noteWritten_27 s a0 s0 x1 m hq e)
  · rw [if_neg c] at e
    refine g_aload_n k_Row_noteWritten_8 rfl rfl ?_
    refine p_getr k_Row_noteWritten_9 fl_Row_21 rfl (sk_Row s0) (by decide) (sr_Row_7 s0) ?_
    refine g_iconst (v := 0) k_Row_noteWritten_12 rfl ?_
    refine g_iconst (v := 0) k_Row_noteWritten_13 rfl ?_
    refine p_zast k_Row_noteWritten_14 (sa_Row_7 s0) (vp_in_nI (n := 0) (N := 2) (by decide) (by decide)) (j := 0) rfl (by decide) ?_
    obtain ⟨m1, u_m1, e⟩ := o_let_ex e
    refine G.hm u_m1 ?_
    refine g_aload_n k_Row_noteWritten_15 rfl rfl ?_
    refine p_getr k_Row_noteWritten_16 fl_Row_21 rfl (sk_Row s0) (by decide) (sr_Row_7 s0) ?_
    refine g_iconst (v := 1) k_Row_noteWritten_19 rfl ?_
    refine g_iconst (v := 0) k_Row_noteWritten_20 rfl ?_
    refine p_zast k_Row_noteWritten_21 (sa_Row_7 s0) (vp_in_nI (n := 1) (N := 2) (by decide) (by decide)) (j := 1) rfl (by decide) ?_
    obtain ⟨m2, u_m2, e⟩ := o_let_ex e
    refine G.hm u_m2 ?_
    refine g_aload_n k_Row_noteWritten_22 rfl rfl ?_
    refine g_iload_n k_Row_noteWritten_23 rfl rfl ?_
    refine p_puti k_Row_noteWritten_24 fl_Row_35 rfl ⟨R_Row, F_Row, 8, rfl, Or.inl rfl⟩ (sk_Row s0) (by decide) ?_
    obtain ⟨m3, u_m3, e⟩ := o_let_ex e
    refine G.hm u_m3 ?_
    exact G.wl (wls (wls (wld wl0))) (t_Row_noteWritten_27 s a0 s0 x1 m3 hq e)
def f_Row_breakBy (a0 : Nat) (x1 : Int32) (x2 : Int32) (m : aM) : Option (Int32 × aM) :=
  o_b (f_Row_isBroken a0 m) fun y1 =>
  (if y1 = 0 then
  o_let (a_st m a0 4 x2) fun m2 =>
  o_let (a_st m2 a0 5 x1) fun m3 =>
  some (0, m3)
  else
  some (0, m)
  )
theorem s_Row_breakBy {K : aK} {d bc bs : Nat} {g : aG} (s : Sys g) (a0 : Nat) (s0 : ShRow g a0) (x1 : Int32) (x2 : Int32) (m : aM) {r : Int32} {m' : aM} (e : f_Row_breakBy a0 x1 x2 m = some (r, m')) (hd : 1 ≤ d) : Sp K M_Row_breakBy d bc bs [.ref a0, .int x1, .int x2] (g, m) none (g, m') := by
  refine sp_of ok_Row_breakBy rfl (Nat.le_of_ble_eq_true rfl) (by simp [Value.category]) (fun Q hq => ?_)
  unfold f_Row_breakBy at e
  refine g_aload_n k_Row_breakBy_0 rfl rfl ?_
  obtain ⟨y1, e_y1, e⟩ := o_b_ex e
  refine g_cv k_Row_breakBy_1 lv_Row_41 (by decide +kernel) (T := F_Row) (N := 8) (ci := 6) rfl (sk_Row s0) (s_Row_isBroken (bc := 0) (bs := 0) s a0 s0 m e_y1) rfl rfl (Nat.le_of_ble_eq_true rfl) (by simp [Value.category]) (by omega) (by omega) (by omega) ?_
  refine g_if_ne (tgt := 17) k_Row_breakBy_4 (by decide) (fun c => ?_) (fun c => ?_)
  · rw [if_pos c] at e
    refine g_aload_n k_Row_breakBy_7 rfl rfl ?_
    refine g_iload_n k_Row_breakBy_8 rfl rfl ?_
    refine p_puti k_Row_breakBy_9 fl_Row_29 rfl ⟨R_Row, F_Row, 8, rfl, Or.inl rfl⟩ (sk_Row s0) (by decide) ?_
    obtain ⟨m2, u_m2, e⟩ := o_let_ex e
    refine G.hm u_m2 ?_
    refine g_aload_n k_Row_breakBy_12 rfl rfl ?_
    refine g_iload_n k_Row_breakBy_13 rfl rfl ?_
    refine p_puti k_Row_breakBy_14 fl_Row_32 rfl ⟨R_Row, F_Row, 8, rfl, Or.inl rfl⟩ (sk_Row s0) (by decide) ?_
    obtain ⟨m3, u_m3, e⟩ := o_let_ex e
    refine G.hm u_m3 ?_
    refine g_vret k_Row_breakBy_17 rfl ?_
    exact (by cases e; exact hq)
  · rw [if_neg c] at e
    refine g_vret k_Row_breakBy_17 rfl ?_
    exact (by cases e; exact hq)
def f_Row_brokenSince (a0 : Nat) (m : aM) : Option Int32 :=
  some (m a0 4)
theorem s_Row_brokenSince {K : aK} {d bc bs : Nat} {g : aG} (s : Sys g) (a0 : Nat) (s0 : ShRow g a0) (m : aM) {r : Int32} (e : f_Row_brokenSince a0 m = some r) : Sp K M_Row_brokenSince d bc bs [.ref a0] (g, m) (some (.int r)) (g, m) := by
  refine sp_of ok_Row_brokenSince rfl (Nat.le_of_ble_eq_true rfl) (by simp [Value.category]) (fun Q hq => ?_)
  unfold f_Row_brokenSince at e
  refine g_aload_n k_Row_brokenSince_0 rfl rfl ?_
  refine p_geti k_Row_brokenSince_1 fl_Row_29 rfl (sk_Row s0) (by decide) ?_
  refine g_iret k_Row_brokenSince_4 rfl ?_
  exact (by cases e; exact hq)
def f_Row_brokenBy (a0 : Nat) (m : aM) : Option Int32 :=
  some (m a0 5)
theorem s_Row_brokenBy {K : aK} {d bc bs : Nat} {g : aG} (s : Sys g) (a0 : Nat) (s0 : ShRow g a0) (m : aM) {r : Int32} (e : f_Row_brokenBy a0 m = some r) : Sp K M_Row_brokenBy d bc bs [.ref a0] (g, m) (some (.int r)) (g, m) := by
  refine sp_of ok_Row_brokenBy rfl (Nat.le_of_ble_eq_true rfl) (by simp [Value.category]) (fun Q hq => ?_)
  unfold f_Row_brokenBy at e
  refine g_aload_n k_Row_brokenBy_0 rfl rfl ?_
  refine p_geti k_Row_brokenBy_1 fl_Row_32 rfl (sk_Row s0) (by decide) ?_
  refine g_iret k_Row_brokenBy_4 rfl ?_
  exact (by cases e; exact hq)
