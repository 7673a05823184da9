/-! Reader (made by wip/gen/auto2.py) -/
def lb_Rea_skipBlanks_2 (F : Nat) (rec_2 : Int32 → aM → Option (Int32 × aM)) (x1 : Int32) (m : aM) : Option (Int32 × aM) :=
  (if 400 ≤ x1 then
  some (0, m)
  else
  (if (m 11 2) < 0 then
  some (0, m)
  else
  (if (m 11 1) ≤ (m 11 2) then
  some (0, m)
  else
  (if 400 ≤ (m 11 2) then
  some (0, m)
  else
  o_gd (inb (m 11 2) 400) <|
  o_let ((m 1 ((m 11 2).toNatClampNeg))) fun y2 =>
  (if y2 = 32 then
  o_let (a_st m 11 2 ((m 11 2) + 1)) fun m3 =>
  rec_2 (x1 + 1) m3
  else
  some (0, m)
  )
  )
  )
  )
  )
theorem tb_Rea_skipBlanks_2 {K : aK} {d bc bs : Nat} {g : aG} (s : Sys g) {Q : aQ} {r : Int32} {m' : aM} (F : Nat) (rec_2 : Int32 → aM → Option (Int32 × aM)) (hr_2 : ∀ (x1 : Int32) (m : aM), rec_2 x1 m = some (r, m') → G K M_Rea_skipBlanks d bc bs 2 [.ref 11, .int x1] [] (g, m) Q) (x1 : Int32) (m : aM) (hq : Q (.inl none) (g, m')) (e : lb_Rea_skipBlanks_2 F rec_2 x1 m = some (r, m')) : G K M_Rea_skipBlanks d bc bs 2 [.ref 11, .int x1] [] (g, m) Q := by
  unfold lb_Rea_skipBlanks_2 at e
  refine g_iload_n k_Rea_skipBlanks_2 rfl rfl ?_
  refine g_sipush (v := 400) k_Rea_skipBlanks_3 rfl ?_
  refine g_icmp_ge (tgt := 70) k_Rea_skipBlanks_6 (by decide) (fun c => ?_) (fun c => ?_)
  · rw [if_pos c] at e
    refine g_vret k_Rea_skipBlanks_70 rfl ?_
    exact (by cases e; exact hq)
  · rw [if_neg c] at e
    refine g_aload_n k_Rea_skipBlanks_9 rfl rfl ?_
    refine p_geti k_Rea_skipBlanks_10 fl_Rea_29 rfl (sk_Rea s) (by decide) ?_
    refine g_if_lt (tgt := 70) k_Rea_skipBlanks_13 (by decide) (fun c => ?_) (fun c => ?_)
    · rw [if_pos c] at e
      refine g_vret k_Rea_skipBlanks_70 rfl ?_
      exact (by cases e; exact hq)
    · rw [if_neg c] at e
      refine g_aload_n k_Rea_skipBlanks_16 rfl rfl ?_
      refine p_geti k_Rea_skipBlanks_17 fl_Rea_29 rfl (sk_Rea s) (by decide) ?_
      refine g_aload_n k_Rea_skipBlanks_20 rfl rfl ?_
      refine p_geti k_Rea_skipBlanks_21 fl_Rea_25 rfl (sk_Rea s) (by decide) ?_
      refine g_icmp_ge (tgt := 70) k_Rea_skipBlanks_24 (by decide) (fun c => ?_) (fun c => ?_)
      · rw [if_pos c] at e
        refine g_vret k_Rea_skipBlanks_70 rfl ?_
        exact (by cases e; exact hq)
      · rw [if_neg c] at e
        refine g_aload_n k_Rea_skipBlanks_27 rfl rfl ?_
        refine p_geti k_Rea_skipBlanks_28 fl_Rea_29 rfl (sk_Rea s) (by decide) ?_
        refine g_aload_n k_Rea_skipBlanks_31 rfl rfl ?_
        refine p_getr k_Rea_skipBlanks_32 fl_Rea_9 rfl (sk_Rea s) (by decide) (sr_Rea_0 s) ?_
        refine p_alen (v := 400) k_Rea_skipBlanks_35 (sa_Led_0 s) (by decide) rfl ?_
        refine g_icmp_ge (tgt := 70) k_Rea_skipBlanks_36 (by decide) (fun c => ?_) (fun c => ?_)
        · rw [if_pos c] at e
          refine g_vret k_Rea_skipBlanks_70 rfl ?_
          exact (by cases e; exact hq)
        · rw [if_neg c] at e
          refine g_aload_n k_Rea_skipBlanks_39 rfl rfl ?_
          refine p_getr k_Rea_skipBlanks_40 fl_Rea_9 rfl (sk_Rea s) (by decide) (sr_Rea_0 s) ?_
          refine g_aload_n k_Rea_skipBlanks_43 rfl rfl ?_
          refine p_geti k_Rea_skipBlanks_44 fl_Rea_29 rfl (sk_Rea s) (by decide) ?_
          obtain ⟨q1, e⟩ := o_gd_ex e
          refine p_iald k_Rea_skipBlanks_47 (sa_Led_0 s) (inb_in q1) (j := (m 11 2).toNatClampNeg) rfl ?_
          obtain ⟨y2, u_y2, e⟩ := o_let_ex e
          refine G.vy u_y2 ?_
          refine g_bipush (v := 32) k_Rea_skipBlanks_48 rfl ?_
          refine g_icmp_eq (tgt := 54) k_Rea_skipBlanks_50 (by decide) (fun c => ?_) (fun c => ?_)
          · rw [if_pos c] at e
            refine g_aload_n k_Rea_skipBlanks_54 rfl rfl ?_
            refine g_dup k_Rea_skipBlanks_55 rfl ?_
            refine p_geti k_Rea_skipBlanks_56 fl_Rea_29 rfl (sk_Rea s) (by decide) ?_
            refine g_iconst (v := 1) k_Rea_skipBlanks_59 rfl ?_
            refine g_iadd k_Rea_skipBlanks_60 ?_
            refine p_puti k_Rea_skipBlanks_61 fl_Rea_29 rfl ⟨R_Rea, F_Rea, 8, rfl, Or.inl rfl⟩ (sk_Rea s) (by decide) ?_
            obtain ⟨m3, u_m3, e⟩ := o_let_ex e
            refine G.hm u_m3 ?_
            refine g_iinc (v := _ + 1) k_Rea_skipBlanks_64 rfl rfl (by decide) ?_
            refine g_goto (tgt := 2) k_Rea_skipBlanks_67 (by decide) ?_
            exact (hr_2 (x1 + 1) m3 e)
          · rw [if_neg c] at e
            refine g_vret k_Rea_skipBlanks_53 rfl ?_
            exact (by cases e; exact hq)
def ll_Rea_skipBlanks_2 (F : Nat) : Nat → Int32 → aM → Option (Int32 × aM)
  | 0, _, _ => none
  | N + 1, x1, m => lb_Rea_skipBlanks_2 F (ll_Rea_skipBlanks_2 F N) x1 m
theorem t_Rea_skipBlanks_2 {K : aK} {d bc bs : Nat} {g : aG} (s : Sys g) {Q : aQ} {r : Int32} {m' : aM} (F : Nat) : ∀ (N : Nat) (x1 : Int32) (m : aM), Q (.inl none) (g, m') → ll_Rea_skipBlanks_2 F N x1 m = some (r, m') → G K M_Rea_skipBlanks d bc bs 2 [.ref 11, .int x1] [] (g, m) Q
  | 0, _, _ => fun _ e => nomatch e
  | N + 1, x1, m => fun hq e => tb_Rea_skipBlanks_2 s F (ll_Rea_skipBlanks_2 F N) (fun x1 m e => t_Rea_skipBlanks_2 s F N x1 m hq e) x1 m hq e
def f_Rea_skipBlanks (F : Nat)  (m : aM) : Option (Int32 × aM) :=
  ll_Rea_skipBlanks_2 F F 0 m
theorem s_Rea_skipBlanks {K : aK} {d bc bs : Nat} {g : aG} (s : Sys g) (F : Nat)  (m : aM) {r : Int32} {m' : aM} (e : f_Rea_skipBlanks F  m = some (r, m')) : Sp K M_Rea_skipBlanks d bc bs [.ref 11] (g, m) none (g, m') := by
  refine sp_of ok_Rea_skipBlanks rfl (Nat.le_of_ble_eq_true rfl) (by simp [Value.category]) (fun Q hq => ?_)
  unfold f_Rea_skipBlanks at e
  refine g_iconst (v := 0) k_Rea_skipBlanks_0 rfl ?_
  refine g_istore_n k_Rea_skipBlanks_1 rfl (by decide) ?_
  exact (t_Rea_skipBlanks_2 s F F 0 m hq e)
def f_Rea_byteAt (x1 : Int32) (m : aM) : Option Int32 :=
  (if x1 < 0 then
  some (-1)
  else
  (if (m 11 1) ≤ x1 then
  some (-1)
  else
  (if 400 ≤ x1 then
  some (-1)
  else
  o_gd (inb x1 400) <|
  some (m 1 x1.toNatClampNeg)
  )
  )
  )
theorem s_Rea_byteAt {K : aK} {d bc bs : Nat} {g : aG} (s : Sys g) (x1 : Int32) (m : aM) {r : Int32} (e : f_Rea_byteAt x1 m = some r) : Sp K M_Rea_byteAt d bc bs [.ref 11, .int x1] (g, m) (some (.int r)) (g, m) := by
  refine sp_of ok_Rea_byteAt rfl (Nat.le_of_ble_eq_true rfl) (by simp [Value.category]) (fun Q hq => ?_)
  unfold f_Rea_byteAt at e
  refine g_iload_n k_Rea_byteAt_0 rfl rfl ?_
  refine g_if_lt (tgt := 30) k_Rea_byteAt_1 (by decide) (fun c => ?_) (fun c => ?_)
  · rw [if_pos c] at e
    refine g_iconst (v := (-1)) k_Rea_byteAt_30 rfl ?_
    refine g_iret k_Rea_byteAt_31 rfl ?_
    exact (by cases e; exact hq)
  · rw [if_neg c] at e
    refine g_iload_n k_Rea_byteAt_4 rfl rfl ?_
    refine g_aload_n k_Rea_byteAt_5 rfl rfl ?_
    refine p_geti k_Rea_byteAt_6 fl_Rea_25 rfl (sk_Rea s) (by decide) ?_
    refine g_icmp_ge (tgt := 30) k_Rea_byteAt_9 (by decide) (fun c => ?_) (fun c => ?_)
    · rw [if_pos c] at e
      refine g_iconst (v := (-1)) k_Rea_byteAt_30 rfl ?_
      refine g_iret k_Rea_byteAt_31 rfl ?_
      exact (by cases e; exact hq)
    · rw [if_neg c] at e
      refine g_iload_n k_Rea_byteAt_12 rfl rfl ?_
      refine g_aload_n k_Rea_byteAt_13 rfl rfl ?_
      refine p_getr k_Rea_byteAt_14 fl_Rea_9 rfl (sk_Rea s) (by decide) (sr_Rea_0 s) ?_
      refine p_alen (v := 400) k_Rea_byteAt_17 (sa_Led_0 s) (by decide) rfl ?_
      refine g_icmp_ge (tgt := 30) k_Rea_byteAt_18 (by decide) (fun c => ?_) (fun c => ?_)
      · rw [if_pos c] at e
        refine g_iconst (v := (-1)) k_Rea_byteAt_30 rfl ?_
        refine g_iret k_Rea_byteAt_31 rfl ?_
        exact (by cases e; exact hq)
      · rw [if_neg c] at e
        refine g_aload_n k_Rea_byteAt_21 rfl rfl ?_
        refine p_getr k_Rea_byteAt_22 fl_Rea_9 rfl (sk_Rea s) (by decide) (sr_Rea_0 s) ?_
        refine g_iload_n k_Rea_byteAt_25 rfl rfl ?_
        obtain ⟨q1, e⟩ := o_gd_ex e
        refine p_iald k_Rea_byteAt_26 (sa_Led_0 s) (inb_in q1) (j := x1.toNatClampNeg) rfl ?_
        refine g_goto (tgt := 31) k_Rea_byteAt_27 (by decide) ?_
        refine g_iret k_Rea_byteAt_31 rfl ?_
        exact (by cases e; exact hq)
def f_Rea_isSmall (x0 : Int32) (m : aM) : Option Int32 :=
  (if x0 < 97 then
  some 0
  else
  (if 122 < x0 then
  some 0
  else
  some 1
  )
  )
theorem s_Rea_isSmall {K : aK} {d bc bs : Nat} {g : aG} (s : Sys g) (x0 : Int32) (m : aM) {r : Int32} (e : f_Rea_isSmall x0 m = some r) : Sp K M_Rea_isSmall d bc bs [.int x0] (g, m) (some (.int r)) (g, m) := by
  refine sp_of ok_Rea_isSmall rfl (Nat.le_of_ble_eq_true rfl) (by simp [Value.category]) (fun Q hq => ?_)
  unfold f_Rea_isSmall at e
  refine g_iload_n k_Rea_isSmall_0 rfl rfl ?_
  refine g_bipush (v := 97) k_Rea_isSmall_1 rfl ?_
  refine g_icmp_lt (tgt := 16) k_Rea_isSmall_3 (by decide) (fun c => ?_) (fun c => ?_)
  · rw [if_pos c] at e
    refine g_iconst (v := 0) k_Rea_isSmall_16 rfl ?_
    refine g_zret k_Rea_isSmall_17 rfl (by decide) ?_
    exact (by cases e; exact hq)
  · rw [if_neg c] at e
    refine g_iload_n k_Rea_isSmall_6 rfl rfl ?_
    refine g_bipush (v := 122) k_Rea_isSmall_7 rfl ?_
    refine g_icmp_gt (tgt := 16) k_Rea_isSmall_9 (by decide) (fun c => ?_) (fun c => ?_)
    · rw [if_pos c] at e
      refine g_iconst (v := 0) k_Rea_isSmall_16 rfl ?_
      refine g_zret k_Rea_isSmall_17 rfl (by decide) ?_
      exact (by cases e; exact hq)
    · rw [if_neg c] at e
      refine g_iconst (v := 1) k_Rea_isSmall_12 rfl ?_
      refine g_goto (tgt := 17) k_Rea_isSmall_13 (by decide) ?_
      refine g_zret k_Rea_isSmall_17 rfl (by decide) ?_
      exact (by cases e; exact hq)
def f_Rea_isCapital (x0 : Int32) (m : aM) : Option Int32 :=
  (if x0 < 65 then
  some 0
  else
  (if 90 < x0 then
  some 0
  else
  some 1
  )
  )
theorem s_Rea_isCapital {K : aK} {d bc bs : Nat} {g : aG} (s : Sys g) (x0 : Int32) (m : aM) {r : Int32} (e : f_Rea_isCapital x0 m = some r) : Sp K M_Rea_isCapital d bc bs [.int x0] (g, m) (some (.int r)) (g, m) := by
  refine sp_of ok_Rea_isCapital rfl (Nat.le_of_ble_eq_true rfl) (by simp [Value.category]) (fun Q hq => ?_)
  unfold f_Rea_isCapital at e
  refine g_iload_n k_Rea_isCapital_0 rfl rfl ?_
  refine g_bipush (v := 65) k_Rea_isCapital_1 rfl ?_
  refine g_icmp_lt (tgt := 16) k_Rea_isCapital_3 (by decide) (fun c => ?_) (fun c => ?_)
  · rw [if_pos c] at e
    refine g_iconst (v := 0) k_Rea_isCapital_16 rfl ?_
    refine g_zret k_Rea_isCapital_17 rfl (by decide) ?_
    exact (by cases e; exact hq)
  · rw [if_neg c] at e
    refine g_iload_n k_Rea_isCapital_6 rfl rfl ?_
    refine g_bipush (v := 90) k_Rea_isCapital_7 rfl ?_
    refine g_icmp_gt (tgt := 16) k_Rea_isCapital_9 (by decide) (fun c => ?_) (fun c => ?_)
    · rw [if_pos c] at e
      refine g_iconst (v := 0) k_Rea_isCapital_16 rfl ?_
      refine g_zret k_Rea_isCapital_17 rfl (by decide) ?_
      exact (by cases e; exact hq)
    · rw [if_neg c] at e
      refine g_iconst (v := 1) k_Rea_isCapital_12 rfl ?_
      refine g_goto (tgt := 17) k_Rea_isCapital_13 (by decide) ?_
      refine g_zret k_Rea_isCapital_17 rfl (by decide) ?_
      exact (by cases e; exact hq)
def b_Rea_letterHere_53 (x1 : Int32) (m : aM) : Option Int32 :=
  (if x1 < 65 then
  some (-1)
  else
  (if 68 < x1 then
  some (-1)
  else
  some ((4 + x1) - 65)
  )
  )
theorem t_Rea_letterHere_53 {K : aK} {d bc bs : Nat} {g : aG} (s : Sys g) {Q : aQ} {r : Int32} (m : aM) (x1 : Int32) (hq : Q (.inl (some (.int r))) (g, m)) (e : b_Rea_letterHere_53 x1 m = some r) (hd : 1 ≤ d) : G K M_Rea_letterHere d bc bs 53 [.double 0, .int x1, .double 0] [] (g, m) Q := by
  unfold b_Rea_letterHere_53 at e
  refine g_iload_n k_Rea_letterHere_53 rfl rfl ?_
  refine g_bipush (v := 65) k_Rea_letterHere_54 rfl ?_
  refine g_icmp_lt (tgt := 74) k_Rea_letterHere_56 (by decide) (fun c => ?_) (fun c => ?_)
  · rw [if_pos c] at e
    refine g_iconst (v := (-1)) k_Rea_letterHere_74 rfl ?_
    refine g_iret k_Rea_letterHere_75 rfl ?_
    exact (by cases e; exact hq)
  · rw [if_neg c] at e
    refine g_iload_n k_Rea_letterHere_59 rfl rfl ?_
    refine g_bipush (v := 68) k_Rea_letterHere_60 rfl ?_
    refine g_icmp_gt (tgt := 74) k_Rea_letterHere_62 (by decide) (fun c => ?_) (fun c => ?_)
    · rw [if_pos c] at e
      refine g_iconst (v := (-1)) k_Rea_letterHere_74 rfl ?_
      refine g_iret k_Rea_letterHere_75 rfl ?_
      exact (by cases e; exact hq)
    · rw [if_neg c] at e
      refine g_iconst (v := 4) k_Rea_letterHere_65 rfl ?_
      refine g_iload_n k_Rea_letterHere_66 rfl rfl ?_
      refine g_iadd k_Rea_letterHere_67 ?_
      refine g_bipush (v := 65) k_Rea_letterHere_68 rfl ?_
      refine g_isub k_Rea_letterHere_70 ?_
      refine g_goto (tgt := 75) k_Rea_letterHere_71 (by decide) ?_
      refine g_iret k_Rea_letterHere_75 rfl ?_
      exact (by cases e; exact hq)
def f_Rea_letterHere  (m : aM) : Option Int32 :=
  o_b (f_Rea_byteAt (m 11 2) m) fun y1 =>
  o_b (f_Rea_byteAt ((m 11 2) + 1) m) fun y2 =>
  o_b (f_Rea_isSmall y2 m) fun y3 =>
  (if y3 = 0 then
  o_b (f_Rea_isCapital y2 m) fun y4 =>
  (if y4 = 0 then
  (if y1 < 97 then
  b_Rea_letterHere_53 y1 m
  else
  (if 100 < y1 then
  b_Rea_letterHere_53 y1 m
  else
  some (y1 - 97)
  )
  )
  else
  some (-1)
  )
  else
  some (-1)
  )
theorem s_Rea_letterHere {K : aK} {d bc bs : Nat} {g : aG} (s : Sys g)  (m : aM) {r : Int32} (e : f_Rea_letterHere  m = some r) (hd : 1 ≤ d) : Sp K M_Rea_letterHere d bc bs [.ref 11] (g, m) (some (.int r)) (g, m) := by
  refine sp_of ok_Rea_letterHere rfl (Nat.le_of_ble_eq_true rfl) (by simp [Value.category]) (fun Q hq => ?_)
  unfold f_Rea_letterHere at e
  refine g_aload_n k_Rea_letterHere_0 rfl rfl ?_
  refine g_aload_n k_Rea_letterHere_1 rfl rfl ?_
  refine p_geti k_Rea_letterHere_2 fl_Rea_29 rfl (sk_Rea s) (by decide) ?_
  obtain ⟨y1, e_y1, e⟩ := o_b_ex e
  refine g_cv k_Rea_letterHere_5 lv_Rea_121 (by decide +kernel) (T := F_Rea) (N := 8) (ci := 5) rfl (sk_Rea s) (s_Rea_byteAt (bc := 0) (bs := 0) s (m 11 2) m e_y1) rfl rfl (Nat.le_of_ble_eq_true rfl) (by simp [Value.category]) (by omega) (by omega) (by omega) ?_
  refine g_istore_n k_Rea_letterHere_8 rfl (by decide) ?_
  refine g_aload_n k_Rea_letterHere_9 rfl rfl ?_
  refine g_aload_n k_Rea_letterHere_10 rfl rfl ?_
  refine p_geti k_Rea_letterHere_11 fl_Rea_29 rfl (sk_Rea s) (by decide) ?_
  refine g_iconst (v := 1) k_Rea_letterHere_14 rfl ?_
  refine g_iadd k_Rea_letterHere_15 ?_
  obtain ⟨y2, e_y2, e⟩ := o_b_ex e
  refine g_cv k_Rea_letterHere_16 lv_Rea_121 (by decide +kernel) (T := F_Rea) (N := 8) (ci := 5) rfl (sk_Rea s) (s_Rea_byteAt (bc := 0) (bs := 0) s ((m 11 2) + 1) m e_y2) rfl rfl (Nat.le_of_ble_eq_true rfl) (by simp [Value.category]) (by omega) (by omega) (by omega) ?_
  refine g_istore_n k_Rea_letterHere_19 rfl (by decide) ?_
  refine g_iload_n k_Rea_letterHere_20 rfl rfl ?_
  obtain ⟨y3, e_y3, e⟩ := o_b_ex e
  refine g_cs k_Rea_letterHere_21 ls_Rea_181 (by decide +kernel) (s_Rea_isSmall (bc := 0) (bs := 0) s y2 m e_y3) rfl rfl (Nat.le_of_ble_eq_true rfl) (by simp [Value.category]) (by omega) (by omega) (by omega) ?_
  refine g_if_ne (tgt := 34) k_Rea_letterHere_24 (by decide) (fun c => ?_) (fun c => ?_)
  · rw [if_pos c] at e
    refine g_iload_n k_Rea_letterHere_27 rfl rfl ?_
    obtain ⟨y4, e_y4, e⟩ := o_b_ex e
    refine g_cs k_Rea_letterHere_28 ls_Rea_184 (by decide +kernel) (s_Rea_isCapital (bc := 0) (bs := 0) s y2 m e_y4) rfl rfl (Nat.le_of_ble_eq_true rfl) (by simp [Value.category]) (by omega) (by omega) (by omega) ?_
    refine g_if_eq (tgt := 36) k_Rea_letterHere_31 (by decide) (fun c => ?_) (fun c => ?_)
    · rw [if_pos c] at e
      refine g_iload_n k_Rea_letterHere_36 rfl rfl ?_
      refine g_bipush (v := 97) k_Rea_letterHere_37 rfl ?_
      refine g_icmp_lt (tgt := 53) k_Rea_letterHere_39 (by decide) (fun c => ?_) (fun c => ?_)
      · rw [if_pos c] at e
        exact G.wl (wld (wls (wld wl0))) (t_Rea_letterHere_53 s m y1  hq e hd)
      · rw [if_neg c] at e
        refine g_iload_n k_Rea_letterHere_42 rfl rfl ?_
        refine g_bipush (v := 100) k_Rea_letterHere_43 rfl ?_
        refine g_icmp_gt (tgt := 53) k_Rea_letterHere_45 (by decide) (fun c => ?_) (fun c => ?_)
        · rw [if_pos c] at e
          exact G.wl (wld (wls (wld wl0))) (t_Rea_letterHere_53 s m y1  hq e hd)
        · rw [if_neg c] at e
          refine g_iload_n k_Rea_letterHere_48 rfl rfl ?_
          refine g_bipush (v := 97) k_Rea_letterHere_49 rfl ?_
          refine g_isub k_Rea_letterHere_51 ?_
          refine g_iret k_Rea_letterHere_52 rfl ?_
          exact (by cases e; exact hq)
    · rw [if_neg c] at e
      refine g_iconst (v := (-1)) k_Rea_letterHere_34 rfl ?_
      refine g_iret k_Rea_letterHere_35 rfl ?_
      exact (by cases e; exact hq)
  · rw [if_neg c] at e
    refine g_iconst (v := (-1)) k_Rea_letterHere_34 rfl ?_
    refine g_iret k_Rea_letterHere_35 rfl ?_
    exact (by cases e; exact hq)
def lb_Rea_isWord_2 (F : Nat) (rec_2 : Nat → Int32 → aM → Option Int32) (w1 : Nat) (x2 : Int32) (m : aM) : Option Int32 :=
  (if (sLen w1) ≤ x2 then
  o_b (f_Rea_byteAt ((m 11 2) + (sLen w1)) m) fun y1 =>
  o_b (f_Rea_isSmall y1 m) fun y2 =>
  (if y2 = 0 then
  some 1
  else
  some 0
  )
  else
  o_b (f_Rea_byteAt ((m 11 2) + x2) m) fun y3 =>
  o_gd (inb x2 (a_len.getD w1 0)) <|
  (if y3 = (sCh w1 x2.toNatClampNeg) then
  rec_2 w1 (x2 + 1) m
  else
  some 0
  )
  )
theorem tb_Rea_isWord_2 {K : aK} {d bc bs : Nat} {g : aG} (s : Sys g) {Q : aQ} {r : Int32} (F : Nat) (m : aM) (rec_2 : Nat → Int32 → aM → Option Int32) (hr_2 : ∀ (w1 : Nat) (hw1 : w1 < 19) (x2 : Int32), rec_2 w1 x2 m = some r → G K M_Rea_isWord d bc bs 2 [.ref 11, .float (fw w1), .int x2] [] (g, m) Q) (w1 : Nat) (hw1 : w1 < 19) (x2 : Int32) (hq : Q (.inl (some (.int r))) (g, m)) (e : lb_Rea_isWord_2 F rec_2 w1 x2 m = some r) (hd : 4 ≤ d) : G K M_Rea_isWord d bc bs 2 [.ref 11, .float (fw w1), .int x2] [] (g, m) Q := by
  unfold lb_Rea_isWord_2 at e
  refine g_iload_n k_Rea_isWord_2 rfl rfl ?_
  refine g_aload_nF k_Rea_isWord_3 rfl rfl ?_
  refine g_cvf (av := []) k_Rea_isWord_4 lv_Rea_173 (by decide +kernel) rfl hw1 (s_Slen (bc := 0) (bs := 0) hw1 (by omega)) rfl rfl (Nat.le_of_ble_eq_true rfl) (by simp [Value.category]) (by omega) (by omega) (by omega) ?_
  refine g_icmp_ge (tgt := 36) k_Rea_isWord_7 (by decide) (fun c => ?_) (fun c => ?_)
  · rw [if_pos c] at e
    refine g_aload_n k_Rea_isWord_36 rfl rfl ?_
    refine g_aload_n k_Rea_isWord_37 rfl rfl ?_
    refine p_geti k_Rea_isWord_38 fl_Rea_29 rfl (sk_Rea s) (by decide) ?_
    refine g_aload_nF k_Rea_isWord_41 rfl rfl ?_
    refine g_cvf (av := []) k_Rea_isWord_42 lv_Rea_173 (by decide +kernel) rfl hw1 (s_Slen (bc := 0) (bs := 0) hw1 (by omega)) rfl rfl (Nat.le_of_ble_eq_true rfl) (by simp [Value.category]) (by omega) (by omega) (by omega) ?_
    refine g_iadd k_Rea_isWord_45 ?_
    obtain ⟨y1, e_y1, e⟩ := o_b_ex e
    refine g_cv k_Rea_isWord_46 lv_Rea_121 (by decide +kernel) (T := F_Rea) (N := 8) (ci := 5) rfl (sk_Rea s) (s_Rea_byteAt (bc := 0) (bs := 0) s ((m 11 2) + (sLen w1)) m e_y1) rfl rfl (Nat.le_of_ble_eq_true rfl) (by simp [Value.category]) (by omega) (by omega) (by omega) ?_
    obtain ⟨y2, e_y2, e⟩ := o_b_ex e
    refine g_cs k_Rea_isWord_49 ls_Rea_181 (by decide +kernel) (s_Rea_isSmall (bc := 0) (bs := 0) s y1 m e_y2) rfl rfl (Nat.le_of_ble_eq_true rfl) (by simp [Value.category]) (by omega) (by omega) (by omega) ?_
    refine g_if_ne (tgt := 59) k_Rea_isWord_52 (by decide) (fun c => ?_) (fun c => ?_)
    · rw [if_pos c] at e
      refine g_iconst (v := 1) k_Rea_isWord_55 rfl ?_
      refine g_goto (tgt := 60) k_Rea_isWord_56 (by decide) ?_
      refine g_zret k_Rea_isWord_60 rfl (by decide) ?_
      exact (by cases e; exact hq)
    · rw [if_neg c] at e
      refine g_iconst (v := 0) k_Rea_isWord_59 rfl ?_
      refine g_zret k_Rea_isWord_60 rfl (by decide) ?_
      exact (by cases e; exact hq)
  · rw [if_neg c] at e
    refine g_aload_n k_Rea_isWord_10 rfl rfl ?_
    refine g_aload_n k_Rea_isWord_11 rfl rfl ?_
    refine p_geti k_Rea_isWord_12 fl_Rea_29 rfl (sk_Rea s) (by decide) ?_
    refine g_iload_n k_Rea_isWord_15 rfl rfl ?_
    refine g_iadd k_Rea_isWord_16 ?_
    obtain ⟨y3, e_y3, e⟩ := o_b_ex e
    refine g_cv k_Rea_isWord_17 lv_Rea_121 (by decide +kernel) (T := F_Rea) (N := 8) (ci := 5) rfl (sk_Rea s) (s_Rea_byteAt (bc := 0) (bs := 0) s ((m 11 2) + x2) m e_y3) rfl rfl (Nat.le_of_ble_eq_true rfl) (by simp [Value.category]) (by omega) (by omega) (by omega) ?_
    refine g_aload_nF k_Rea_isWord_20 rfl rfl ?_
    refine g_iload_n k_Rea_isWord_21 rfl rfl ?_
    obtain ⟨q4, e⟩ := o_gd_ex e
    refine g_cvf (av := [.int x2]) k_Rea_isWord_22 lv_Rea_177 (by decide +kernel) rfl hw1 (s_Schr (bc := 0) (bs := 0) hw1 (inb_in q4) (by omega)) rfl rfl (Nat.le_of_ble_eq_true rfl) (by simp [Value.category]) (by omega) (by omega) (by omega) ?_
    refine g_icmp_eq (tgt := 30) k_Rea_isWord_25 (by decide) (fun c => ?_) (fun c => ?_)
    · rw [if_pos c] at e
      refine g_iinc (v := _ + 1) k_Rea_isWord_30 rfl rfl (by decide) ?_
      refine g_goto (tgt := 2) k_Rea_isWord_33 (by decide) ?_
      exact (hr_2 w1 hw1 (x2 + 1)  e)
    · rw [if_neg c] at e
      refine g_iconst (v := 0) k_Rea_isWord_28 rfl ?_
      refine g_zret k_Rea_isWord_29 rfl (by decide) ?_
      exact (by cases e; exact hq)
def ll_Rea_isWord_2 (F : Nat) : Nat → Nat → Int32 → aM → Option Int32
  | 0, _, _, _ => none
  | N + 1, w1, x2, m => lb_Rea_isWord_2 F (ll_Rea_isWord_2 F N) w1 x2 m
theorem t_Rea_isWord_2 {K : aK} {d bc bs : Nat} {g : aG} (s : Sys g) {Q : aQ} {r : Int32} (F : Nat) (m : aM) : ∀ (N : Nat) (w1 : Nat) (hw1 : w1 < 19) (x2 : Int32), Q (.inl (some (.int r))) (g, m) → ll_Rea_isWord_2 F N w1 x2 m = some r → 4 ≤ d → G K M_Rea_isWord d bc bs 2 [.ref 11, .float (fw w1), .int x2] [] (g, m) Q
  | 0, _, _, _ => fun _ e => nomatch e
  | N + 1, w1, hw1, x2 => fun hq e hd => tb_Rea_isWord_2 s F m (ll_Rea_isWord_2 F N) (fun w1 hw1 x2 e => t_Rea_isWord_2 s F m N w1 hw1 x2 hq e hd) w1 hw1 x2 hq e hd
def f_Rea_isWord (F : Nat) (w1 : Nat) (m : aM) : Option Int32 :=
  ll_Rea_isWord_2 F F w1 0 m
theorem s_Rea_isWord {K : aK} {d bc bs : Nat} {g : aG} (s : Sys g) (F : Nat) (w1 : Nat) (hw1 : w1 < 19) (m : aM) {r : Int32} (e : f_Rea_isWord F w1 m = some r) (hd : 4 ≤ d) : Sp K M_Rea_isWord d bc bs [.ref 11, .float (fw w1)] (g, m) (some (.int r)) (g, m) := by
  refine sp_of ok_Rea_isWord rfl (Nat.le_of_ble_eq_true rfl) (by simp [Value.category]) (fun Q hq => ?_)
  unfold f_Rea_isWord at e
  refine g_iconst (v := 0) k_Rea_isWord_0 rfl ?_
  refine g_istore_n k_Rea_isWord_1 rfl (by decide) ?_
  exact (t_Rea_isWord_2 s F m F w1 hw1 0  hq e hd)
def f_Rea_fail (x1 : Int32) (m : aM) : Option (Int32 × aM) :=
  o_let (a_st m 11 6 x1) fun m1 =>
  o_let (a_st m1 11 7 (m1 11 2)) fun m2 =>
  some (0, m2)
theorem s_Rea_fail {K : aK} {d bc bs : Nat} {g : aG} (s : Sys g) (x1 : Int32) (m : aM) {r : Int32} {m' : aM} (e : f_Rea_fail x1 m = some (r, m')) : Sp K M_Rea_fail d bc bs [.ref 11, .int x1] (g, m) (some (.int r)) (g, m') := by
  refine sp_of ok_Rea_fail rfl (Nat.le_of_ble_eq_true rfl) (by simp [Value.category]) (fun Q hq => ?_)
  unfold f_Rea_fail at e
  refine g_aload_n k_Rea_fail_0 rfl rfl ?_
  refine g_iload_n k_Rea_fail_1 rfl rfl ?_
  refine p_puti k_Rea_fail_2 fl_Rea_35 rfl ⟨R_Rea, F_Rea, 8, rfl, Or.inl rfl⟩ (sk_Rea s) (by decide) ?_
  obtain ⟨m1, u_m1, e⟩ := o_let_ex e
  refine G.hm u_m1 ?_
  refine g_aload_n k_Rea_fail_5 rfl rfl ?_
  refine g_aload_n k_Rea_fail_6 rfl rfl ?_
  refine p_geti k_Rea_fail_7 fl_Rea_29 rfl (sk_Rea s) (by decide) ?_
  refine p_puti k_Rea_fail_10 fl_Rea_38 rfl ⟨R_Rea, F_Rea, 8, rfl, Or.inl rfl⟩ (sk_Rea s) (by decide) ?_
  obtain ⟨m2, u_m2, e⟩ := o_let_ex e
  refine G.hm u_m2 ?_
  refine g_iconst (v := 0) k_Rea_fail_13 rfl ?_
  refine g_zret k_Rea_fail_14 rfl (by decide) ?_
  exact (by cases e; exact hq)
def b_Rea_readKeep_29 (F : Nat)  (m : aM) : Option (Int32 × aM) :=
  o_b2 (f_Rea_fail 1 m) fun y1 m2 =>
  o_gd (isb y1) <|
  some (y1, m2)
theorem t_Rea_readKeep_29 {K : aK} {d bc bs : Nat} {g : aG} (s : Sys g) {Q : aQ} {r : Int32} {m' : aM} (F : Nat)  (m : aM) (hq : Q (.inl (some (.int r))) (g, m')) (e : b_Rea_readKeep_29 F  m = some (r, m')) (hd : 2 ≤ d) : G K M_Rea_readKeep d bc bs 29 [.ref 11, .double 0] [] (g, m) Q := by
  unfold b_Rea_readKeep_29 at e
  refine g_aload_n k_Rea_readKeep_29 rfl rfl ?_
  refine g_iconst (v := 1) k_Rea_readKeep_30 rfl ?_
  obtain ⟨y1, m2, e_y1, e⟩ := o_b2_ex e
  refine g_cv k_Rea_readKeep_31 lv_Rea_53 (by decide +kernel) (T := F_Rea) (N := 8) (ci := 5) rfl (sk_Rea s) (s_Rea_fail (bc := 0) (bs := 0) s 1 m e_y1) rfl rfl (Nat.le_of_ble_eq_true rfl) (by simp [Value.category]) (by omega) (by omega) (by omega) ?_
  obtain ⟨q3, e⟩ := o_gd_ex e
  refine g_zret k_Rea_readKeep_34 rfl (isb_or q3) ?_
  exact (by cases e; exact hq)
def f_Rea_readKeep (F : Nat)  (m : aM) : Option (Int32 × aM) :=
  o_let (a_st m 11 2 ((m 11 2) + 4)) fun m1 =>
  o_b2 (f_Rea_skipBlanks F  m1) fun y2 m3 =>
  o_b (f_Rea_letterHere  m3) fun y4 =>
  (if y4 = (-1) then
  b_Rea_readKeep_29 F  m3
  else
  (if y4 < 4 then
  o_let (a_st m3 11 2 ((m3 11 2) + 1)) fun m5 =>
  o_b2 (f_Len_keepLetter 12 y4 m5) fun y6 m7 =>
  some (1, m7)
  else
  b_Rea_readKeep_29 F  m3
  )
  )
theorem s_Rea_readKeep {K : aK} {d bc bs : Nat} {g : aG} (s : Sys g) (F : Nat)  (m : aM) {r : Int32} {m' : aM} (e : f_Rea_readKeep F  m = some (r, m')) (hd : 2 ≤ d) : Sp K M_Rea_readKeep d bc bs [.ref 11] (g, m) (some (.int r)) (g, m') := by
  refine sp_of ok_Rea_readKeep rfl (Nat.le_of_ble_eq_true rfl) (by simp [Value.category]) (fun Q hq => ?_)
  unfold f_Rea_readKeep at e
  refine g_aload_n k_Rea_readKeep_0 rfl rfl ?_
  refine g_dup k_Rea_readKeep_1 rfl ?_
  refine p_geti k_Rea_readKeep_2 fl_Rea_29 rfl (sk_Rea s) (by decide) ?_
  refine g_iconst (v := 4) k_Rea_readKeep_5 rfl ?_
  refine g_iadd k_Rea_readKeep_6 ?_
  refine p_puti k_Rea_readKeep_7 fl_Rea_29 rfl ⟨R_Rea, F_Rea, 8, rfl, Or.inl rfl⟩ (sk_Rea s) (by decide) ?_
  obtain ⟨m1, u_m1, e⟩ := o_let_ex e
  refine G.hm u_m1 ?_
  refine g_aload_n k_Rea_readKeep_10 rfl rfl ?_
  obtain ⟨y2, m3, e_y2, e⟩ := o_b2_ex e
  refine g_cv k_Rea_readKeep_11 lv_Rea_46 (by decide +kernel) (T := F_Rea) (N := 8) (ci := 5) rfl (sk_Rea s) (s_Rea_skipBlanks (bc := 0) (bs := 0) s F  m1 e_y2) rfl rfl (Nat.le_of_ble_eq_true rfl) (by simp [Value.category]) (by omega) (by omega) (by omega) ?_
  refine g_aload_n k_Rea_readKeep_14 rfl rfl ?_
  obtain ⟨y4, e_y4, e⟩ := o_b_ex e
  refine g_cv k_Rea_readKeep_15 lv_Rea_57 (by decide +kernel) (T := F_Rea) (N := 8) (ci := 5) rfl (sk_Rea s) (s_Rea_letterHere (bc := 0) (bs := 0) s  m3 e_y4 (by omega)) rfl rfl (Nat.le_of_ble_eq_true rfl) (by simp [Value.category]) (by omega) (by omega) (by omega) ?_
  refine g_istore_n k_Rea_readKeep_18 rfl (by decide) ?_
  refine g_iload_n k_Rea_readKeep_19 rfl rfl ?_
  refine g_iconst (v := (-1)) k_Rea_readKeep_20 rfl ?_
  refine g_icmp_eq (tgt := 29) k_Rea_readKeep_21 (by decide) (fun c => ?_) (fun c => ?_)
  · rw [if_pos c] at e
    exact G.wl (wls (wld wl0)) (t_Rea_readKeep_29 s F  m3 hq e hd)
  · rw [if_neg c] at e
    refine g_iload_n k_Rea_readKeep_24 rfl rfl ?_
    refine g_iconst (v := 4) k_Rea_readKeep_25 rfl ?_
    refine g_icmp_lt (tgt := 35) k_Rea_readKeep_26 (by decide) (fun c => ?_) (fun c => ?_)
    · rw [if_pos c] at e
      refine g_aload_n k_Rea_readKeep_35 rfl rfl ?_
      refine g_dup k_Rea_readKeep_36 rfl ?_
      refine p_geti k_Rea_readKeep_37 fl_Rea_29 rfl (sk_Rea s) (by decide) ?_
      refine g_iconst (v := 1) k_Rea_readKeep_40 rfl ?_
      refine g_iadd k_Rea_readKeep_41 ?_
      refine p_puti k_Rea_readKeep_42 fl_Rea_29 rfl ⟨R_Rea, F_Rea, 8, rfl, Or.inl rfl⟩ (sk_Rea s) (by decide) ?_
      obtain ⟨m5, u_m5, e⟩ := o_let_ex e
      refine G.hm u_m5 ?_
      refine g_aload_n k_Rea_readKeep_45 rfl rfl ?_
      refine p_getr k_Rea_readKeep_46 fl_Rea_15 rfl (sk_Rea s) (by decide) (sr_Rea_5 s) ?_
      refine g_iload_n k_Rea_readKeep_49 rfl rfl ?_
      obtain ⟨y6, m7, e_y6, e⟩ := o_b2_ex e
      refine g_cv k_Rea_readKeep_50 lv_Rea_89 (by decide +kernel) (T := F_Len) (N := 11) (ci := 2) rfl (sk_Len (sy_dra s)) (s_Len_keepLetter (bc := 0) (bs := 0) s 12 (sy_dra s) y4 m5 e_y6) rfl rfl (Nat.le_of_ble_eq_true rfl) (by simp [Value.category]) (by omega) (by omega) (by omega) ?_
      refine g_iconst (v := 1) k_Rea_readKeep_53 rfl ?_
      refine g_zret k_Rea_readKeep_54 rfl (by decide) ?_
      exact (by cases e; exact hq)
    · rw [if_neg c] at e
      exact G.wl (wls (wld wl0)) (t_Rea_readKeep_29 s F  m3 hq e hd)
def f_Rea_isSign (F : Nat) (x1 : Int32) (m : aM) : Option (Int32 × aM) :=
  o_b2 (f_Rea_skipBlanks F  m) fun y1 m2 =>
  o_b (f_Rea_byteAt (m2 11 2) m2) fun y3 =>
  (if y3 = x1 then
  some (1, m2)
  else
  some (0, m2)
  )
theorem s_Rea_isSign {K : aK} {d bc bs : Nat} {g : aG} (s : Sys g) (F : Nat) (x1 : Int32) (m : aM) {r : Int32} {m' : aM} (e : f_Rea_isSign F x1 m = some (r, m')) (hd : 1 ≤ d) : Sp K M_Rea_isSign d bc bs [.ref 11, .int x1] (g, m) (some (.int r)) (g, m') := by
  refine sp_of ok_Rea_isSign rfl (Nat.le_of_ble_eq_true rfl) (by simp [Value.category]) (fun Q hq => ?_)
  unfold f_Rea_isSign at e
  refine g_aload_n k_Rea_isSign_0 rfl rfl ?_
  obtain ⟨y1, m2, e_y1, e⟩ := o_b2_ex e
  refine g_cv k_Rea_isSign_1 lv_Rea_46 (by decide +kernel) (T := F_Rea) (N := 8) (ci := 5) rfl (sk_Rea s) (s_Rea_skipBlanks (bc := 0) (bs := 0) s F  m e_y1) rfl rfl (Nat.le_of_ble_eq_true rfl) (by simp [Value.category]) (by omega) (by omega) (by omega) ?_
  refine g_aload_n k_Rea_isSign_4 rfl rfl ?_
  refine g_aload_n k_Rea_isSign_5 rfl rfl ?_
  refine p_geti k_Rea_isSign_6 fl_Rea_29 rfl (sk_Rea s) (by decide) ?_
  obtain ⟨y3, e_y3, e⟩ := o_b_ex e
  refine g_cv k_Rea_isSign_9 lv_Rea_121 (by decide +kernel) (T := F_Rea) (N := 8) (ci := 5) rfl (sk_Rea s) (s_Rea_byteAt (bc := 0) (bs := 0) s (m2 11 2) m2 e_y3) rfl rfl (Nat.le_of_ble_eq_true rfl) (by simp [Value.category]) (by omega) (by omega) (by omega) ?_
  refine g_iload_n k_Rea_isSign_12 rfl rfl ?_
  refine g_icmp_ne (tgt := 20) k_Rea_isSign_13 (by decide) (fun c => ?_) (fun c => ?_)
  · rw [if_pos c] at e
    refine g_iconst (v := 1) k_Rea_isSign_16 rfl ?_
    refine g_goto (tgt := 21) k_Rea_isSign_17 (by decide) ?_
    refine g_zret k_Rea_isSign_21 rfl (by decide) ?_
    exact (by cases e; exact hq)
  · rw [if_neg c] at e
    refine g_iconst (v := 0) k_Rea_isSign_20 rfl ?_
    refine g_zret k_Rea_isSign_21 rfl (by decide) ?_
    exact (by cases e; exact hq)
def f_Rea_readSign (F : Nat) (x1 : Int32) (m : aM) : Option (Int32 × aM) :=
  o_b2 (f_Rea_isSign F x1 m) fun y1 m2 =>
  (if y1 = 0 then
  o_b2 (f_Rea_fail 1 m2) fun y3 m4 =>
  o_gd (isb y3) <|
  some (y3, m4)
  else
  o_let (a_st m2 11 2 ((m2 11 2) + 1)) fun m6 =>
  some (1, m6)
  )
theorem s_Rea_readSign {K : aK} {d bc bs : Nat} {g : aG} (s : Sys g) (F : Nat) (x1 : Int32) (m : aM) {r : Int32} {m' : aM} (e : f_Rea_readSign F x1 m = some (r, m')) (hd : 2 ≤ d) : Sp K M_Rea_readSign d bc bs [.ref 11, .int x1] (g, m) (some (.int r)) (g, m') := by
  refine sp_of ok_Rea_readSign rfl (Nat.le_of_ble_eq_true rfl) (by simp [Value.category]) (fun Q hq => ?_)
  unfold f_Rea_readSign at e
  refine g_aload_n k_Rea_readSign_0 rfl rfl ?_
  refine g_iload_n k_Rea_readSign_1 rfl rfl ?_
  obtain ⟨y1, m2, e_y1, e⟩ := o_b2_ex e
  refine g_cv k_Rea_readSign_2 lv_Rea_112 (by decide +kernel) (T := F_Rea) (N := 8) (ci := 5) rfl (sk_Rea s) (s_Rea_isSign (bc := 0) (bs := 0) s F x1 m e_y1 (by omega)) rfl rfl (Nat.le_of_ble_eq_true rfl) (by simp [Value.category]) (by omega) (by omega) (by omega) ?_
  refine g_if_ne (tgt := 14) k_Rea_readSign_5 (by decide) (fun c => ?_) (fun c => ?_)
  · rw [if_pos c] at e
    refine g_aload_n k_Rea_readSign_8 rfl rfl ?_
    refine g_iconst (v := 1) k_Rea_readSign_9 rfl ?_
    obtain ⟨y3, m4, e_y3, e⟩ := o_b2_ex e
    refine g_cv k_Rea_readSign_10 lv_Rea_53 (by decide +kernel) (T := F_Rea) (N := 8) (ci := 5) rfl (sk_Rea s) (s_Rea_fail (bc := 0) (bs := 0) s 1 m2 e_y3) rfl rfl (Nat.le_of_ble_eq_true rfl) (by simp [Value.category]) (by omega) (by omega) (by omega) ?_
    obtain ⟨q5, e⟩ := o_gd_ex e
    refine g_zret k_Rea_readSign_13 rfl (isb_or q5) ?_
    exact (by cases e; exact hq)
  · rw [if_neg c] at e
    refine g_aload_n k_Rea_readSign_14 rfl rfl ?_
    refine g_dup k_Rea_readSign_15 rfl ?_
    refine p_geti k_Rea_readSign_16 fl_Rea_29 rfl (sk_Rea s) (by decide) ?_
    refine g_iconst (v := 1) k_Rea_readSign_19 rfl ?_
    refine g_iadd k_Rea_readSign_20 ?_
    refine p_puti k_Rea_readSign_21 fl_Rea_29 rfl ⟨R_Rea, F_Rea, 8, rfl, Or.inl rfl⟩ (sk_Rea s) (by decide) ?_
    obtain ⟨m6, u_m6, e⟩ := o_let_ex e
    refine G.hm u_m6 ?_
    refine g_iconst (v := 1) k_Rea_readSign_24 rfl ?_
    refine g_zret k_Rea_readSign_25 rfl (by decide) ?_
    exact (by cases e; exact hq)
def f_Rea_readOpening (F : Nat) (x1 : Int32) (m : aM) : Option (Int32 × aM) :=
  o_b2 (f_Rea_isSign F x1 m) fun y1 m2 =>
  (if y1 = 0 then
  o_b2 (f_Rea_fail 1 m2) fun y3 m4 =>
  o_gd (isb y3) <|
  some (y3, m4)
  else
  (if (m2 11 3) < 6 then
  o_let (a_st m2 11 3 ((m2 11 3) + 1)) fun m6 =>
  o_let (a_st m6 11 2 ((m6 11 2) + 1)) fun m7 =>
  some (1, m7)
  else
  o_b2 (f_Rea_fail 3 m2) fun y8 m9 =>
  o_gd (isb y8) <|
  some (y8, m9)
  )
  )
theorem s_Rea_readOpening {K : aK} {d bc bs : Nat} {g : aG} (s : Sys g) (F : Nat) (x1 : Int32) (m : aM) {r : Int32} {m' : aM} (e : f_Rea_readOpening F x1 m = some (r, m')) (hd : 2 ≤ d) : Sp K M_Rea_readOpening d bc bs [.ref 11, .int x1] (g, m) (some (.int r)) (g, m') := by
  refine sp_of ok_Rea_readOpening rfl (Nat.le_of_ble_eq_true rfl) (by simp [Value.category]) (fun Q hq => ?_)
  unfold f_Rea_readOpening at e
  refine g_aload_n k_Rea_readOpening_0 rfl rfl ?_
  refine g_iload_n k_Rea_readOpening_1 rfl rfl ?_
  obtain ⟨y1, m2, e_y1, e⟩ := o_b2_ex e
  refine g_cv k_Rea_readOpening_2 lv_Rea_112 (by decide +kernel) (T := F_Rea) (N := 8) (ci := 5) rfl (sk_Rea s) (s_Rea_isSign (bc := 0) (bs := 0) s F x1 m e_y1 (by omega)) rfl rfl (Nat.le_of_ble_eq_true rfl) (by simp [Value.category]) (by omega) (by omega) (by omega) ?_
  refine g_if_ne (tgt := 14) k_Rea_readOpening_5 (by decide) (fun c => ?_) (fun c => ?_)
  · rw [if_pos c] at e
    refine g_aload_n k_Rea_readOpening_8 rfl rfl ?_
    refine g_iconst (v := 1) k_Rea_readOpening_9 rfl ?_
    obtain ⟨y3, m4, e_y3, e⟩ := o_b2_ex e
    refine g_cv k_Rea_readOpening_10 lv_Rea_53 (by decide +kernel) (T := F_Rea) (N := 8) (ci := 5) rfl (sk_Rea s) (s_Rea_fail (bc := 0) (bs := 0) s 1 m2 e_y3) rfl rfl (Nat.le_of_ble_eq_true rfl) (by simp [Value.category]) (by omega) (by omega) (by omega) ?_
    obtain ⟨q5, e⟩ := o_gd_ex e
    refine g_zret k_Rea_readOpening_13 rfl (isb_or q5) ?_
    exact (by cases e; exact hq)
  · rw [if_neg c] at e
    refine g_aload_n k_Rea_readOpening_14 rfl rfl ?_
    refine p_geti k_Rea_readOpening_15 fl_Rea_32 rfl (sk_Rea s) (by decide) ?_
    refine g_bipush (v := 6) k_Rea_readOpening_18 rfl ?_
    refine g_icmp_lt (tgt := 29) k_Rea_readOpening_20 (by decide) (fun c => ?_) (fun c => ?_)
    · rw [if_pos c] at e
      refine g_aload_n k_Rea_readOpening_29 rfl rfl ?_
      refine g_dup k_Rea_readOpening_30 rfl ?_
      refine p_geti k_Rea_readOpening_31 fl_Rea_32 rfl (sk_Rea s) (by decide) ?_
      refine g_iconst (v := 1) k_Rea_readOpening_34 rfl ?_
      refine g_iadd k_Rea_readOpening_35 ?_
      refine p_puti k_Rea_readOpening_36 fl_Rea_32 rfl ⟨R_Rea, F_Rea, 8, rfl, Or.inl rfl⟩ (sk_Rea s) (by decide) ?_
      obtain ⟨m6, u_m6, e⟩ := o_let_ex e
      refine G.hm u_m6 ?_
      refine g_aload_n k_Rea_readOpening_39 rfl rfl ?_
      refine g_dup k_Rea_readOpening_40 rfl ?_
      refine p_geti k_Rea_readOpening_41 fl_Rea_29 rfl (sk_Rea s) (by decide) ?_
      refine g_iconst (v := 1) k_Rea_readOpening_44 rfl ?_
      refine g_iadd k_Rea_readOpening_45 ?_
      refine p_puti k_Rea_readOpening_46 fl_Rea_29 rfl ⟨R_Rea, F_Rea, 8, rfl, Or.inl rfl⟩ (sk_Rea s) (by decide) ?_
      obtain ⟨m7, u_m7, e⟩ := o_let_ex e
      refine G.hm u_m7 ?_
      refine g_iconst (v := 1) k_Rea_readOpening_49 rfl ?_
      refine g_zret k_Rea_readOpening_50 rfl (by decide) ?_
      exact (by cases e; exact hq)
    · rw [if_neg c] at e
      refine g_aload_n k_Rea_readOpening_23 rfl rfl ?_
      refine g_iconst (v := 3) k_Rea_readOpening_24 rfl ?_
      obtain ⟨y8, m9, e_y8, e⟩ := o_b2_ex e
      refine g_cv k_Rea_readOpening_25 lv_Rea_53 (by decide +kernel) (T := F_Rea) (N := 8) (ci := 5) rfl (sk_Rea s) (s_Rea_fail (bc := 0) (bs := 0) s 3 m2 e_y8) rfl rfl (Nat.le_of_ble_eq_true rfl) (by simp [Value.category]) (by omega) (by omega) (by omega) ?_
      obtain ⟨q10, e⟩ := o_gd_ex e
      refine g_zret k_Rea_readOpening_28 rfl (isb_or q10) ?_
      exact (by cases e; exact hq)
def f_Rea_readClosing (F : Nat) (x1 : Int32) (m : aM) : Option (Int32 × aM) :=
  o_b2 (f_Rea_isSign F x1 m) fun y1 m2 =>
  (if y1 = 0 then
  o_b2 (f_Rea_fail 1 m2) fun y3 m4 =>
  o_gd (isb y3) <|
  some (y3, m4)
  else
  o_let (a_st m2 11 3 ((m2 11 3) - 1)) fun m6 =>
  o_let (a_st m6 11 2 ((m6 11 2) + 1)) fun m7 =>
  some (1, m7)
  )
theorem s_Rea_readClosing {K : aK} {d bc bs : Nat} {g : aG} (s : Sys g) (F : Nat) (x1 : Int32) (m : aM) {r : Int32} {m' : aM} (e : f_Rea_readClosing F x1 m = some (r, m')) (hd : 2 ≤ d) : Sp K M_Rea_readClosing d bc bs [.ref 11, .int x1] (g, m) (some (.int r)) (g, m') := by
  refine sp_of ok_Rea_readClosing rfl (Nat.le_of_ble_eq_true rfl) (by simp [Value.category]) (fun Q hq => ?_)
  unfold f_Rea_readClosing at e
  refine g_aload_n k_Rea_readClosing_0 rfl rfl ?_
  refine g_iload_n k_Rea_readClosing_1 rfl rfl ?_
  obtain ⟨y1, m2, e_y1, e⟩ := o_b2_ex e
  refine g_cv k_Rea_readClosing_2 lv_Rea_112 (by decide +kernel) (T := F_Rea) (N := 8) (ci := 5) rfl (sk_Rea s) (s_Rea_isSign (bc := 0) (bs := 0) s F x1 m e_y1 (by omega)) rfl rfl (Nat.le_of_ble_eq_true rfl) (by simp [Value.category]) (by omega) (by omega) (by omega) ?_
  refine g_if_ne (tgt := 14) k_Rea_readClosing_5 (by decide) (fun c => ?_) (fun c => ?_)
  · rw [if_pos c] at e
    refine g_aload_n k_Rea_readClosing_8 rfl rfl ?_
    refine g_iconst (v := 1) k_Rea_readClosing_9 rfl ?_
    obtain ⟨y3, m4, e_y3, e⟩ := o_b2_ex e
    refine g_cv k_Rea_readClosing_10 lv_Rea_53 (by decide +kernel) (T := F_Rea) (N := 8) (ci := 5) rfl (sk_Rea s) (s_Rea_fail (bc := 0) (bs := 0) s 1 m2 e_y3) rfl rfl (Nat.le_of_ble_eq_true rfl) (by simp [Value.category]) (by omega) (by omega) (by omega) ?_
    obtain ⟨q5, e⟩ := o_gd_ex e
    refine g_zret k_Rea_readClosing_13 rfl (isb_or q5) ?_
    exact (by cases e; exact hq)
  · rw [if_neg c] at e
    refine g_aload_n k_Rea_readClosing_14 rfl rfl ?_
    refine g_dup k_Rea_readClosing_15 rfl ?_
    refine p_geti k_Rea_readClosing_16 fl_Rea_32 rfl (sk_Rea s) (by decide) ?_
    refine g_iconst (v := 1) k_Rea_readClosing_19 rfl ?_
    refine g_isub k_Rea_readClosing_20 ?_
    refine p_puti k_Rea_readClosing_21 fl_Rea_32 rfl ⟨R_Rea, F_Rea, 8, rfl, Or.inl rfl⟩ (sk_Rea s) (by decide) ?_
    obtain ⟨m6, u_m6, e⟩ := o_let_ex e
    refine G.hm u_m6 ?_
    refine g_aload_n k_Rea_readClosing_24 rfl rfl ?_
    refine g_dup k_Rea_readClosing_25 rfl ?_
    refine p_geti k_Rea_readClosing_26 fl_Rea_29 rfl (sk_Rea s) (by decide) ?_
    refine g_iconst (v := 1) k_Rea_readClosing_29 rfl ?_
    refine g_iadd k_Rea_readClosing_30 ?_
    refine p_puti k_Rea_readClosing_31 fl_Rea_29 rfl ⟨R_Rea, F_Rea, 8, rfl, Or.inl rfl⟩ (sk_Rea s) (by decide) ?_
    obtain ⟨m7, u_m7, e⟩ := o_let_ex e
    refine G.hm u_m7 ?_
    refine g_iconst (v := 1) k_Rea_readClosing_34 rfl ?_
    refine g_zret k_Rea_readClosing_35 rfl (by decide) ?_
    exact (by cases e; exact hq)
def f_Rea_isDigit (x0 : Int32) (m : aM) : Option Int32 :=
  (if x0 < 48 then
  some 0
  else
  (if 57 < x0 then
  some 0
  else
  some 1
  )
  )
theorem s_Rea_isDigit {K : aK} {d bc bs : Nat} {g : aG} (s : Sys g) (x0 : Int32) (m : aM) {r : Int32} (e : f_Rea_isDigit x0 m = some r) : Sp K M_Rea_isDigit d bc bs [.int x0] (g, m) (some (.int r)) (g, m) := by
  refine sp_of ok_Rea_isDigit rfl (Nat.le_of_ble_eq_true rfl) (by simp [Value.category]) (fun Q hq => ?_)
  unfold f_Rea_isDigit at e
  refine g_iload_n k_Rea_isDigit_0 rfl rfl ?_
  refine g_bipush (v := 48) k_Rea_isDigit_1 rfl ?_
  refine g_icmp_lt (tgt := 16) k_Rea_isDigit_3 (by decide) (fun c => ?_) (fun c => ?_)
  · rw [if_pos c] at e
    refine g_iconst (v := 0) k_Rea_isDigit_16 rfl ?_
    refine g_zret k_Rea_isDigit_17 rfl (by decide) ?_
    exact (by cases e; exact hq)
  · rw [if_neg c] at e
    refine g_iload_n k_Rea_isDigit_6 rfl rfl ?_
    refine g_bipush (v := 57) k_Rea_isDigit_7 rfl ?_
    refine g_icmp_gt (tgt := 16) k_Rea_isDigit_9 (by decide) (fun c => ?_) (fun c => ?_)
    · rw [if_pos c] at e
      refine g_iconst (v := 0) k_Rea_isDigit_16 rfl ?_
      refine g_zret k_Rea_isDigit_17 rfl (by decide) ?_
      exact (by cases e; exact hq)
    · rw [if_neg c] at e
      refine g_iconst (v := 1) k_Rea_isDigit_12 rfl ?_
      refine g_goto (tgt := 17) k_Rea_isDigit_13 (by decide) ?_
      refine g_zret k_Rea_isDigit_17 rfl (by decide) ?_
      exact (by cases e; exact hq)
def b_Rea_readNumber_69 (F : Nat) (x1 : Int32) (x2 : Int32) (m : aM) : Option (Int32 × aM) :=
  (if x2 ≤ 9999 then
  o_b2 (f_Len_addOrder 12 0 x2 m) fun y1 m2 =>
  some (1, m2)
  else
  o_let (a_st m 11 2 x1) fun m3 =>
  o_b2 (f_Rea_fail 2 m3) fun y4 m5 =>
  o_gd (isb y4) <|
  some (y4, m5)
  )
theorem t_Rea_readNumber_69 {K : aK} {d bc bs : Nat} {g : aG} (s : Sys g) {Q : aQ} {r : Int32} {m' : aM} (F : Nat) (x1 : Int32) (x2 : Int32) (m : aM) (hq : Q (.inl (some (.int r))) (g, m')) (e : b_Rea_readNumber_69 F x1 x2 m = some (r, m')) (hd : 1 ≤ d) : G K M_Rea_readNumber d bc bs 69 [.ref 11, .int x1, .int x2, .double 0] [] (g, m) Q := by
  unfold b_Rea_readNumber_69 at e
  refine g_iload_n k_Rea_readNumber_69 rfl rfl ?_
  refine g_sipush (v := 9999) k_Rea_readNumber_70 rfl ?_
  refine g_icmp_le (tgt := 87) k_Rea_readNumber_73 (by decide) (fun c => ?_) (fun c => ?_)
  · rw [if_pos c] at e
    refine g_aload_n k_Rea_readNumber_87 rfl rfl ?_
    refine p_getr k_Rea_readNumber_88 fl_Rea_15 rfl (sk_Rea s) (by decide) (sr_Rea_5 s) ?_
    refine g_iconst (v := 0) k_Rea_readNumber_91 rfl ?_
    refine g_iload_n k_Rea_readNumber_92 rfl rfl ?_
    obtain ⟨y1, m2, e_y1, e⟩ := o_b2_ex e
    refine g_cv k_Rea_readNumber_93 lv_Rea_115 (by decide +kernel) (T := F_Len) (N := 11) (ci := 2) rfl (sk_Len (sy_dra s)) (s_Len_addOrder (bc := 0) (bs := 0) s 12 (sy_dra s) 0 x2 m e_y1) rfl rfl (Nat.le_of_ble_eq_true rfl) (by simp [Value.category]) (by omega) (by omega) (by omega) ?_
    refine g_pop k_Rea_readNumber_96 rfl ?_
    refine g_iconst (v := 1) k_Rea_readNumber_97 rfl ?_
    refine g_zret k_Rea_readNumber_98 rfl (by decide) ?_
    exact (by cases e; exact hq)
  · rw [if_neg c] at e
    refine g_aload_n k_Rea_readNumber_76 rfl rfl ?_
    refine g_iload_n k_Rea_readNumber_77 rfl rfl ?_
    refine p_puti k_Rea_readNumber_78 fl_Rea_29 rfl ⟨R_Rea, F_Rea, 8, rfl, Or.inl rfl⟩ (sk_Rea s) (by decide) ?_
    obtain ⟨m3, u_m3, e⟩ := o_let_ex e
    refine G.hm u_m3 ?_
    refine g_aload_n k_Rea_readNumber_81 rfl rfl ?_
    refine g_iconst (v := 2) k_Rea_readNumber_82 rfl ?_
    obtain ⟨y4, m5, e_y4, e⟩ := o_b2_ex e
    refine g_cv k_Rea_readNumber_83 lv_Rea_53 (by decide +kernel) (T := F_Rea) (N := 8) (ci := 5) rfl (sk_Rea s) (s_Rea_fail (bc := 0) (bs := 0) s 2 m3 e_y4) rfl rfl (Nat.le_of_ble_eq_true rfl) (by simp [Value.category]) (by omega) (by omega) (by omega) ?_
    obtain ⟨q6, e⟩ := o_gd_ex e
    refine g_zret k_Rea_readNumber_86 rfl (isb_or q6) ?_
    exact (by cases e; exact hq)
def lb_Rea_readNumber_9 (F : Nat) (rec_9 : Int32 → Int32 → Int32 → aM → Option (Int32 × aM)) (x1 : Int32) (x2 : Int32) (x3 : Int32) (m : aM) : Option (Int32 × aM) :=
  (if 400 ≤ x3 then
  b_Rea_readNumber_69 F x1 x2 m
  else
  o_b (f_Rea_byteAt (m 11 2) m) fun y1 =>
  o_b (f_Rea_isDigit y1 m) fun y2 =>
  (if y2 = 0 then
  b_Rea_readNumber_69 F x1 x2 m
  else
  o_b (f_Rea_byteAt (m 11 2) m) fun y3 =>
  o_let ((if 10000 < (((10 * x2) + y3) - 48) then 10000 else (((10 * x2) + y3) - 48))) fun y4 =>
  o_let (a_st m 11 2 ((m 11 2) + 1)) fun m5 =>
  rec_9 x1 y4 (x3 + 1) m5
  )
  )
theorem tb_Rea_readNumber_9 {K : aK} {d bc bs : Nat} {g : aG} (s : Sys g) {Q : aQ} {r : Int32} {m' : aM} (F : Nat) (rec_9 : Int32 → Int32 → Int32 → aM → Option (Int32 × aM)) (hr_9 : ∀ (x1 : Int32) (x2 : Int32) (x3 : Int32) (m : aM), rec_9 x1 x2 x3 m = some (r, m') → G K M_Rea_readNumber d bc bs 9 [.ref 11, .int x1, .int x2, .int x3] [] (g, m) Q) (x1 : Int32) (x2 : Int32) (x3 : Int32) (m : aM) (hq : Q (.inl (some (.int r))) (g, m')) (e : lb_Rea_readNumber_9 F rec_9 x1 x2 x3 m = some (r, m')) (hd : 1 ≤ d) : G K M_Rea_readNumber d bc bs 9 [.ref 11, .int x1, .int x2, .int x3] [] (g, m) Q := by
  unfold lb_Rea_readNumber_9 at e
  refine g_iload_n k_Rea_readNumber_9 rfl rfl ?_
  refine g_sipush (v := 400) k_Rea_readNumber_10 rfl ?_
  refine g_icmp_ge (tgt := 69) k_Rea_readNumber_13 (by decide) (fun c => ?_) (fun c => ?_)
  · rw [if_pos c] at e
    exact G.wl (wls (wls (wls (wld wl0)))) (t_Rea_readNumber_69 s F x1 x2 m hq e hd)
  · rw [if_neg c] at e
    refine g_aload_n k_Rea_readNumber_16 rfl rfl ?_
    refine g_aload_n k_Rea_readNumber_17 rfl rfl ?_
    refine p_geti k_Rea_readNumber_18 fl_Rea_29 rfl (sk_Rea s) (by decide) ?_
    obtain ⟨y1, e_y1, e⟩ := o_b_ex e
    refine g_cv k_Rea_readNumber_21 lv_Rea_121 (by decide +kernel) (T := F_Rea) (N := 8) (ci := 5) rfl (sk_Rea s) (s_Rea_byteAt (bc := 0) (bs := 0) s (m 11 2) m e_y1) rfl rfl (Nat.le_of_ble_eq_true rfl) (by simp [Value.category]) (by omega) (by omega) (by omega) ?_
    obtain ⟨y2, e_y2, e⟩ := o_b_ex e
    refine g_cs k_Rea_readNumber_24 ls_Rea_125 (by decide +kernel) (s_Rea_isDigit (bc := 0) (bs := 0) s y1 m e_y2) rfl rfl (Nat.le_of_ble_eq_true rfl) (by simp [Value.category]) (by omega) (by omega) (by omega) ?_
    refine g_if_eq (tgt := 69) k_Rea_readNumber_27 (by decide) (fun c => ?_) (fun c => ?_)
    · rw [if_pos c] at e
      exact G.wl (wls (wls (wls (wld wl0)))) (t_Rea_readNumber_69 s F x1 x2 m hq e hd)
    · rw [if_neg c] at e
      refine g_bipush (v := 10) k_Rea_readNumber_30 rfl ?_
      refine g_iload_n k_Rea_readNumber_32 rfl rfl ?_
      refine g_imul k_Rea_readNumber_33 ?_
      refine g_aload_n k_Rea_readNumber_34 rfl rfl ?_
      refine g_aload_n k_Rea_readNumber_35 rfl rfl ?_
      refine p_geti k_Rea_readNumber_36 fl_Rea_29 rfl (sk_Rea s) (by decide) ?_
      obtain ⟨y3, e_y3, e⟩ := o_b_ex e
      refine g_cv k_Rea_readNumber_39 lv_Rea_121 (by decide +kernel) (T := F_Rea) (N := 8) (ci := 5) rfl (sk_Rea s) (s_Rea_byteAt (bc := 0) (bs := 0) s (m 11 2) m e_y3) rfl rfl (Nat.le_of_ble_eq_true rfl) (by simp [Value.category]) (by omega) (by omega) (by omega) ?_
      refine g_iadd k_Rea_readNumber_42 ?_
      refine g_bipush (v := 48) k_Rea_readNumber_43 rfl ?_
      refine g_isub k_Rea_readNumber_45 ?_
      refine g_sipush (v := 10000) k_Rea_readNumber_46 rfl ?_
      refine g_mn k_Rea_readNumber_49 mw_Rea_19 (Nat.le_of_ble_eq_true rfl) (by omega) ?_
      obtain ⟨y4, u_y4, e⟩ := o_let_ex e
      refine G.vy u_y4 ?_
      refine g_istore_n k_Rea_readNumber_52 rfl (by decide) ?_
      refine g_aload_n k_Rea_readNumber_53 rfl rfl ?_
      refine g_dup k_Rea_readNumber_54 rfl ?_
      refine p_geti k_Rea_readNumber_55 fl_Rea_29 rfl (sk_Rea s) (by decide) ?_
      refine g_iconst (v := 1) k_Rea_readNumber_58 rfl ?_
      refine g_iadd k_Rea_readNumber_59 ?_
      refine p_puti k_Rea_readNumber_60 fl_Rea_29 rfl ⟨R_Rea, F_Rea, 8, rfl, Or.inl rfl⟩ (sk_Rea s) (by decide) ?_
      obtain ⟨m5, u_m5, e⟩ := o_let_ex e
      refine G.hm u_m5 ?_
      refine g_iinc (v := _ + 1) k_Rea_readNumber_63 rfl rfl (by decide) ?_
      refine g_goto (tgt := 9) k_Rea_readNumber_66 (by decide) ?_
      exact (hr_9 x1 y4 (x3 + 1) m5 e)
def ll_Rea_readNumber_9 (F : Nat) : Nat → Int32 → Int32 → Int32 → aM → Option (Int32 × aM)
  | 0, _, _, _, _ => none
  | N + 1, x1, x2, x3, m => lb_Rea_readNumber_9 F (ll_Rea_readNumber_9 F N) x1 x2 x3 m
theorem t_Rea_readNumber_9 {K : aK} {d bc bs : Nat} {g : aG} (s : Sys g) {Q : aQ} {r : Int32} {m' : aM} (F : Nat) : ∀ (N : Nat) (x1 : Int32) (x2 : Int32) (x3 : Int32) (m : aM), Q (.inl (some (.int r))) (g, m') → ll_Rea_readNumber_9 F N x1 x2 x3 m = some (r, m') → 1 ≤ d → G K M_Rea_readNumber d bc bs 9 [.ref 11, .int x1, .int x2, .int x3] [] (g, m) Q
  | 0, _, _, _, _ => fun _ e => nomatch e
  | N + 1, x1, x2, x3, m => fun hq e hd => tb_Rea_readNumber_9 s F (ll_Rea_readNumber_9 F N) (fun x1 x2 x3 m e => t_Rea_readNumber_9 s F N x1 x2 x3 m hq e hd) x1 x2 x3 m hq e hd
def f_Rea_readNumber (F : Nat)  (m : aM) : Option (Int32 × aM) :=
  ll_Rea_readNumber_9 F F (m 11 2) 0 0 m
theorem s_Rea_readNumber {K : aK} {d bc bs : Nat} {g : aG} (s : Sys g) (F : Nat)  (m : aM) {r : Int32} {m' : aM} (e : f_Rea_readNumber F  m = some (r, m')) (hd : 1 ≤ d) : Sp K M_Rea_readNumber d bc bs [.ref 11] (g, m) (some (.int r)) (g, m') := by
  refine sp_of ok_Rea_readNumber rfl (Nat.le_of_ble_eq_true rfl) (by simp [Value.category]) (fun Q hq => ?_)
  unfold f_Rea_readNumber at e
  refine g_aload_n k_Rea_readNumber_0 rfl rfl ?_
  refine p_geti k_Rea_readNumber_1 fl_Rea_29 rfl (sk_Rea s) (by decide) ?_
  refine g_istore_n k_Rea_readNumber_4 rfl (by decide) ?_
  refine g_iconst (v := 0) k_Rea_readNumber_5 rfl ?_
  refine g_istore_n k_Rea_readNumber_6 rfl (by decide) ?_
  refine g_iconst (v := 0) k_Rea_readNumber_7 rfl ?_
  refine g_istore_n k_Rea_readNumber_8 rfl (by decide) ?_
  exact (t_Rea_readNumber_9 s F F (m 11 2) 0 0 m hq e hd)
def b_Rea_readOperand_18 (x1 : Int32) (m : aM) : Option (Int32 × aM) :=
  o_let (a_st m 11 2 ((m 11 2) + 1)) fun m1 =>
  (if x1 < 4 then
  o_b2 (f_Len_addOrder 12 1 x1 m1) fun y2 m3 =>
  some (1, m3)
  else
  o_b2 (f_Len_addOrder 12 2 (x1 - 4) m1) fun y4 m5 =>
  some (1, m5)
  )
theorem t_Rea_readOperand_18 {K : aK} {d bc bs : Nat} {g : aG} (s : Sys g) {Q : aQ} {r : Int32} {m' : aM} (x1 : Int32) (m : aM) (hq : Q (.inl (some (.int r))) (g, m')) (e : b_Rea_readOperand_18 x1 m = some (r, m')) (hd : 1 ≤ d) : G K M_Rea_readOperand d bc bs 18 [.ref 11, .int x1] [] (g, m) Q := by
  unfold b_Rea_readOperand_18 at e
  refine g_aload_n k_Rea_readOperand_18 rfl rfl ?_
  refine g_dup k_Rea_readOperand_19 rfl ?_
  refine p_geti k_Rea_readOperand_20 fl_Rea_29 rfl (sk_Rea s) (by decide) ?_
  refine g_iconst (v := 1) k_Rea_readOperand_23 rfl ?_
  refine g_iadd k_Rea_readOperand_24 ?_
  refine p_puti k_Rea_readOperand_25 fl_Rea_29 rfl ⟨R_Rea, F_Rea, 8, rfl, Or.inl rfl⟩ (sk_Rea s) (by decide) ?_
  obtain ⟨m1, u_m1, e⟩ := o_let_ex e
  refine G.hm u_m1 ?_
  refine g_iload_n k_Rea_readOperand_28 rfl rfl ?_
  refine g_iconst (v := 4) k_Rea_readOperand_29 rfl ?_
  refine g_icmp_lt (tgt := 48) k_Rea_readOperand_30 (by decide) (fun c => ?_) (fun c => ?_)
  · rw [if_pos c] at e
    refine g_aload_n k_Rea_readOperand_48 rfl rfl ?_
    refine p_getr k_Rea_readOperand_49 fl_Rea_15 rfl (sk_Rea s) (by decide) (sr_Rea_5 s) ?_
    refine g_iconst (v := 1) k_Rea_readOperand_52 rfl ?_
    refine g_iload_n k_Rea_readOperand_53 rfl rfl ?_
    obtain ⟨y2, m3, e_y2, e⟩ := o_b2_ex e
    refine g_cv k_Rea_readOperand_54 lv_Rea_115 (by decide +kernel) (T := F_Len) (N := 11) (ci := 2) rfl (sk_Len (sy_dra s)) (s_Len_addOrder (bc := 0) (bs := 0) s 12 (sy_dra s) 1 x1 m1 e_y2) rfl rfl (Nat.le_of_ble_eq_true rfl) (by simp [Value.category]) (by omega) (by omega) (by omega) ?_
    refine g_pop k_Rea_readOperand_57 rfl ?_
    refine g_iconst (v := 1) k_Rea_readOperand_58 rfl ?_
    refine g_zret k_Rea_readOperand_59 rfl (by decide) ?_
    exact (by cases e; exact hq)
  · rw [if_neg c] at e
    refine g_aload_n k_Rea_readOperand_33 rfl rfl ?_
    refine p_getr k_Rea_readOperand_34 fl_Rea_15 rfl (sk_Rea s) (by decide) (sr_Rea_5 s) ?_
    refine g_iconst (v := 2) k_Rea_readOperand_37 rfl ?_
    refine g_iload_n k_Rea_readOperand_38 rfl rfl ?_
    refine g_iconst (v := 4) k_Rea_readOperand_39 rfl ?_
    refine g_isub k_Rea_readOperand_40 ?_
    obtain ⟨y4, m5, e_y4, e⟩ := o_b2_ex e
    refine g_cv k_Rea_readOperand_41 lv_Rea_115 (by decide +kernel) (T := F_Len) (N := 11) (ci := 2) rfl (sk_Len (sy_dra s)) (s_Len_addOrder (bc := 0) (bs := 0) s 12 (sy_dra s) 2 (x1 - 4) m1 e_y4) rfl rfl (Nat.le_of_ble_eq_true rfl) (by simp [Value.category]) (by omega) (by omega) (by omega) ?_
    refine g_pop k_Rea_readOperand_44 rfl ?_
    refine g_goto (tgt := 58) k_Rea_readOperand_45 (by decide) ?_
    refine g_iconst (v := 1) k_Rea_readOperand_58 rfl ?_
    refine g_zret k_Rea_readOperand_59 rfl (by decide) ?_
    exact (by cases e; exact hq)
def f_Rea_readOperand (x1 : Int32) (m : aM) : Option (Int32 × aM) :=
  (if (m 11 4) = 0 then
  b_Rea_readOperand_18 x1 m
  else
  (if x1 < 4 then
  b_Rea_readOperand_18 x1 m
  else
  o_b2 (f_Rea_fail 1 m) fun y1 m2 =>
  o_gd (isb y1) <|
  some (y1, m2)
  )
  )
theorem s_Rea_readOperand {K : aK} {d bc bs : Nat} {g : aG} (s : Sys g) (x1 : Int32) (m : aM) {r : Int32} {m' : aM} (e : f_Rea_readOperand x1 m = some (r, m')) (hd : 1 ≤ d) : Sp K M_Rea_readOperand d bc bs [.ref 11, .int x1] (g, m) (some (.int r)) (g, m') := by
  refine sp_of ok_Rea_readOperand rfl (Nat.le_of_ble_eq_true rfl) (by simp [Value.category]) (fun Q hq => ?_)
  unfold f_Rea_readOperand at e
  refine g_aload_n k_Rea_readOperand_0 rfl rfl ?_
  refine p_geti k_Rea_readOperand_1 fl_Rea_72 rfl (sk_Rea s) (by decide) ?_
  refine g_if_eq (tgt := 18) k_Rea_readOperand_4 (by decide) (fun c => ?_) (fun c => ?_)
  · rw [if_pos c] at e
    exact (t_Rea_readOperand_18 s x1 m hq e hd)
  · rw [if_neg c] at e
    refine g_iload_n k_Rea_readOperand_7 rfl rfl ?_
    refine g_iconst (v := 4) k_Rea_readOperand_8 rfl ?_
    refine g_icmp_lt (tgt := 18) k_Rea_readOperand_9 (by decide) (fun c => ?_) (fun c => ?_)
    · rw [if_pos c] at e
      exact (t_Rea_readOperand_18 s x1 m hq e hd)
    · rw [if_neg c] at e
      refine g_aload_n k_Rea_readOperand_12 rfl rfl ?_
      refine g_iconst (v := 1) k_Rea_readOperand_13 rfl ?_
      obtain ⟨y1, m2, e_y1, e⟩ := o_b2_ex e
      refine g_cv k_Rea_readOperand_14 lv_Rea_53 (by decide +kernel) (T := F_Rea) (N := 8) (ci := 5) rfl (sk_Rea s) (s_Rea_fail (bc := 0) (bs := 0) s 1 m e_y1) rfl rfl (Nat.le_of_ble_eq_true rfl) (by simp [Value.category]) (by omega) (by omega) (by omega) ?_
      obtain ⟨q3, e⟩ := o_gd_ex e
      refine g_zret k_Rea_readOperand_17 rfl (isb_or q3) ?_
      exact (by cases e; exact hq)
def lb_Rea_readAll_11 (F : Nat) (rc_Rea_readSum : aM → Option (Int32 × aM)) (rc_Rea_readTest : aM → Option (Int32 × aM)) (rec_11 : Int32 → aM → Option (Int32 × aM)) (x1 : Int32) (m : aM) : Option (Int32 × aM) :=
  (if 400 ≤ x1 then
  o_b2 (f_Rea_fail 1 m) fun y1 m2 =>
  o_gd (isb y1) <|
  some (y1, m2)
  else
  o_b2 (f_Rea_skipBlanks F  m) fun y4 m5 =>
  o_b (f_Rea_isWord F 8 m5) fun y6 =>
  (if y6 = 0 then
  some (1, m5)
  else
  o_let (a_st m5 11 2 ((m5 11 2) + 3)) fun m7 =>
  o_b2 (rc_Rea_readTest  m7) fun y8 m9 =>
  (if y8 = 0 then
  some (0, m9)
  else
  o_b2 (f_Len_addOrder 12 15 0 m9) fun y10 m11 =>
  rec_11 (x1 + 1) m11
  )
  )
  )
theorem tb_Rea_readAll_11 {K : aK} {d bc bs : Nat} {g : aG} (s : Sys g) {Q : aQ} {r : Int32} {m' : aM} (F : Nat) (D0 : Nat) (rc_Rea_readSum : aM → Option (Int32 × aM)) (hc_Rea_readSum : ∀ (d bc bs : Nat)  (m : aM) (r : Int32) (m' : aM), rc_Rea_readSum  m = some (r, m') → D0 ≤ d → Sp K M_Rea_readSum d bc bs [.ref 11] (g, m) (some (.int r)) (g, m')) (rc_Rea_readTest : aM → Option (Int32 × aM)) (hc_Rea_readTest : ∀ (d bc bs : Nat)  (m : aM) (r : Int32) (m' : aM), rc_Rea_readTest  m = some (r, m') → D0 ≤ d → Sp K M_Rea_readTest d bc bs [.ref 11] (g, m) (some (.int r)) (g, m')) (rec_11 : Int32 → aM → Option (Int32 × aM)) (hr_11 : ∀ (x1 : Int32) (m : aM), rec_11 x1 m = some (r, m') → G K M_Rea_readAll d bc bs 11 [.ref 11, .int x1] [] (g, m) Q) (x1 : Int32) (m : aM) (hq : Q (.inl (some (.int r))) (g, m')) (e : lb_Rea_readAll_11 F rc_Rea_readSum rc_Rea_readTest rec_11 x1 m = some (r, m')) (hd : D0 + 6 ≤ d) : G K M_Rea_readAll d bc bs 11 [.ref 11, .int x1] [] (g, m) Q := by
  unfold lb_Rea_readAll_11 at e
  refine g_iload_n k_Rea_readAll_11 rfl rfl ?_
  refine g_sipush (v := 400) k_Rea_readAll_12 rfl ?_
  refine g_icmp_ge (tgt := 69) k_Rea_readAll_15 (by decide) (fun c => ?_) (fun c => ?_)
  · rw [if_pos c] at e
    refine g_aload_n k_Rea_readAll_69 rfl rfl ?_
    refine g_iconst (v := 1) k_Rea_readAll_70 rfl ?_
    obtain ⟨y1, m2, e_y1, e⟩ := o_b2_ex e
    refine g_cv k_Rea_readAll_71 lv_Rea_53 (by decide +kernel) (T := F_Rea) (N := 8) (ci := 5) rfl (sk_Rea s) (s_Rea_fail (bc := 0) (bs := 0) s 1 m e_y1) rfl rfl (Nat.le_of_ble_eq_true rfl) (by simp [Value.category]) (by omega) (by omega) (by omega) ?_
    obtain ⟨q3, e⟩ := o_gd_ex e
    refine g_zret k_Rea_readAll_74 rfl (isb_or q3) ?_
    exact (by cases e; exact hq)
  · rw [if_neg c] at e
    refine g_aload_n k_Rea_readAll_18 rfl rfl ?_
    obtain ⟨y4, m5, e_y4, e⟩ := o_b2_ex e
    refine g_cv k_Rea_readAll_19 lv_Rea_46 (by decide +kernel) (T := F_Rea) (N := 8) (ci := 5) rfl (sk_Rea s) (s_Rea_skipBlanks (bc := 0) (bs := 0) s F  m e_y4) rfl rfl (Nat.le_of_ble_eq_true rfl) (by simp [Value.category]) (by omega) (by omega) (by omega) ?_
    refine g_aload_n k_Rea_readAll_22 rfl rfl ?_
    refine g_str (k := 8) (f := fw 8) k_Rea_readAll_23 rfl rfl ?_
    obtain ⟨y6, e_y6, e⟩ := o_b_ex e
    refine g_cv k_Rea_readAll_25 lv_Rea_63 (by decide +kernel) (T := F_Rea) (N := 8) (ci := 5) rfl (sk_Rea s) (s_Rea_isWord (bc := 0) (bs := 0) s F 8 (by decide) m5 e_y6 (by omega)) rfl rfl (Nat.le_of_ble_eq_true rfl) (by simp [Value.category]) (by omega) (by omega) (by omega) ?_
    refine g_if_ne (tgt := 33) k_Rea_readAll_28 (by decide) (fun c => ?_) (fun c => ?_)
    · rw [if_pos c] at e
      refine g_iconst (v := 1) k_Rea_readAll_31 rfl ?_
      refine g_zret k_Rea_readAll_32 rfl (by decide) ?_
      exact (by cases e; exact hq)
    · rw [if_neg c] at e
      refine g_aload_n k_Rea_readAll_33 rfl rfl ?_
      refine g_dup k_Rea_readAll_34 rfl ?_
      refine p_geti k_Rea_readAll_35 fl_Rea_29 rfl (sk_Rea s) (by decide) ?_
      refine g_iconst (v := 3) k_Rea_readAll_38 rfl ?_
      refine g_iadd k_Rea_readAll_39 ?_
      refine p_puti k_Rea_readAll_40 fl_Rea_29 rfl ⟨R_Rea, F_Rea, 8, rfl, Or.inl rfl⟩ (sk_Rea s) (by decide) ?_
      obtain ⟨m7, u_m7, e⟩ := o_let_ex e
      refine G.hm u_m7 ?_
      refine g_aload_n k_Rea_readAll_43 rfl rfl ?_
      obtain ⟨y8, m9, e_y8, e⟩ := o_b2_ex e
      refine g_cv k_Rea_readAll_44 lv_Rea_160 (by decide +kernel) (T := F_Rea) (N := 8) (ci := 5) rfl (sk_Rea s) (hc_Rea_readTest _ 0 0  m7 _ _ e_y8 (by omega)) rfl rfl (Nat.le_of_ble_eq_true rfl) (by simp [Value.category]) (by omega) (by omega) (by omega) ?_
      refine g_if_ne (tgt := 52) k_Rea_readAll_47 (by decide) (fun c => ?_) (fun c => ?_)
      · rw [if_pos c] at e
        refine g_iconst (v := 0) k_Rea_readAll_50 rfl ?_
        refine g_zret k_Rea_readAll_51 rfl (by decide) ?_
        exact (by cases e; exact hq)
      · rw [if_neg c] at e
        refine g_aload_n k_Rea_readAll_52 rfl rfl ?_
        refine p_getr k_Rea_readAll_53 fl_Rea_15 rfl (sk_Rea s) (by decide) (sr_Rea_5 s) ?_
        refine g_bipush (v := 15) k_Rea_readAll_56 rfl ?_
        refine g_iconst (v := 0) k_Rea_readAll_58 rfl ?_
        obtain ⟨y10, m11, e_y10, e⟩ := o_b2_ex e
        refine g_cv k_Rea_readAll_59 lv_Rea_115 (by decide +kernel) (T := F_Len) (N := 11) (ci := 2) rfl (sk_Len (sy_dra s)) (s_Len_addOrder (bc := 0) (bs := 0) s 12 (sy_dra s) 15 0 m9 e_y10) rfl rfl (Nat.le_of_ble_eq_true rfl) (by simp [Value.category]) (by omega) (by omega) (by omega) ?_
        refine g_pop k_Rea_readAll_62 rfl ?_
        refine g_iinc (v := _ + 1) k_Rea_readAll_63 rfl rfl (by decide) ?_
        refine g_goto (tgt := 11) k_Rea_readAll_66 (by decide) ?_
        exact (hr_11 (x1 + 1) m11 e)
def ll_Rea_readAll_11 (F : Nat) (rc_Rea_readSum : aM → Option (Int32 × aM)) (rc_Rea_readTest : aM → Option (Int32 × aM)) : Nat → Int32 → aM → Option (Int32 × aM)
  | 0, _, _ => none
  | N + 1, x1, m => lb_Rea_readAll_11 F rc_Rea_readSum rc_Rea_readTest (ll_Rea_readAll_11 F rc_Rea_readSum rc_Rea_readTest N) x1 m
theorem t_Rea_readAll_11 {K : aK} {d bc bs : Nat} {g : aG} (s : Sys g) {Q : aQ} {r : Int32} {m' : aM} (F : Nat) (D0 : Nat) (rc_Rea_readSum : aM → Option (Int32 × aM)) (hc_Rea_readSum : ∀ (d bc bs : Nat)  (m : aM) (r : Int32) (m' : aM), rc_Rea_readSum  m = some (r, m') → D0 ≤ d → Sp K M_Rea_readSum d bc bs [.ref 11] (g, m) (some (.int r)) (g, m')) (rc_Rea_readTest : aM → Option (Int32 × aM)) (hc_Rea_readTest : ∀ (d bc bs : Nat)  (m : aM) (r : Int32) (m' : aM), rc_Rea_readTest  m = some (r, m') → D0 ≤ d → Sp K M_Rea_readTest d bc bs [.ref 11] (g, m) (some (.int r)) (g, m')) : ∀ (N : Nat) (x1 : Int32) (m : aM), Q (.inl (some (.int r))) (g, m') → ll_Rea_readAll_11 F rc_Rea_readSum rc_Rea_readTest N x1 m = some (r, m') → D0 + 6 ≤ d → G K M_Rea_readAll d bc bs 11 [.ref 11, .int x1] [] (g, m) Q
  | 0, _, _ => fun _ e => nomatch e
  | N + 1, x1, m => fun hq e hd => tb_Rea_readAll_11 s F D0 rc_Rea_readSum hc_Rea_readSum rc_Rea_readTest hc_Rea_readTest (ll_Rea_readAll_11 F rc_Rea_readSum rc_Rea_readTest N) (fun x1 m e => t_Rea_readAll_11 s F D0 rc_Rea_readSum hc_Rea_readSum rc_Rea_readTest hc_Rea_readTest N x1 m hq e hd) x1 m hq e hd
def g_Rea_readAll (F : Nat) (rc_Rea_readSum : aM → Option (Int32 × aM)) (rc_Rea_readTest : aM → Option (Int32 × aM))  (m : aM) : Option (Int32 × aM) :=
  o_b2 (rc_Rea_readTest  m) fun y1 m2 =>
  (if y1 = 0 then
  some (0, m2)
  else
  ll_Rea_readAll_11 F rc_Rea_readSum rc_Rea_readTest F 0 m2
  )
theorem sg_Rea_readAll {K : aK} {d bc bs : Nat} {g : aG} (s : Sys g) (F : Nat) (D0 : Nat) (rc_Rea_readSum : aM → Option (Int32 × aM)) (hc_Rea_readSum : ∀ (d bc bs : Nat)  (m : aM) (r : Int32) (m' : aM), rc_Rea_readSum  m = some (r, m') → D0 ≤ d → Sp K M_Rea_readSum d bc bs [.ref 11] (g, m) (some (.int r)) (g, m')) (rc_Rea_readTest : aM → Option (Int32 × aM)) (hc_Rea_readTest : ∀ (d bc bs : Nat)  (m : aM) (r : Int32) (m' : aM), rc_Rea_readTest  m = some (r, m') → D0 ≤ d → Sp K M_Rea_readTest d bc bs [.ref 11] (g, m) (some (.int r)) (g, m'))  (m : aM) {r : Int32} {m' : aM} (e : g_Rea_readAll F rc_Rea_readSum rc_Rea_readTest  m = some (r, m')) (hd : D0 + 6 ≤ d) : Sp K M_Rea_readAll d bc bs [.ref 11] (g, m) (some (.int r)) (g, m') := by
  refine sp_of ok_Rea_readAll rfl (Nat.le_of_ble_eq_true rfl) (by simp [Value.category]) (fun Q hq => ?_)
  unfold g_Rea_readAll at e
  refine g_aload_n k_Rea_readAll_0 rfl rfl ?_
  obtain ⟨y1, m2, e_y1, e⟩ := o_b2_ex e
  refine g_cv k_Rea_readAll_1 lv_Rea_160 (by decide +kernel) (T := F_Rea) (N := 8) (ci := 5) rfl (sk_Rea s) (hc_Rea_readTest _ 0 0  m _ _ e_y1 (by omega)) rfl rfl (Nat.le_of_ble_eq_true rfl) (by simp [Value.category]) (by omega) (by omega) (by omega) ?_
  refine g_if_ne (tgt := 9) k_Rea_readAll_4 (by decide) (fun c => ?_) (fun c => ?_)
  · rw [if_pos c] at e
    refine g_iconst (v := 0) k_Rea_readAll_7 rfl ?_
    refine g_zret k_Rea_readAll_8 rfl (by decide) ?_
    exact (by cases e; exact hq)
  · rw [if_neg c] at e
    refine g_iconst (v := 0) k_Rea_readAll_9 rfl ?_
    refine g_istore_n k_Rea_readAll_10 rfl (by decide) ?_
    exact (t_Rea_readAll_11 s F D0 rc_Rea_readSum hc_Rea_readSum rc_Rea_readTest hc_Rea_readTest F 0 m2 hq e hd)
def lb_Rea_readAny_11 (F : Nat) (rc_Rea_readSum : aM → Option (Int32 × aM)) (rc_Rea_readTest : aM → Option (Int32 × aM)) (rec_11 : Int32 → aM → Option (Int32 × aM)) (x1 : Int32) (m : aM) : Option (Int32 × aM) :=
  (if 400 ≤ x1 then
  o_b2 (f_Rea_fail 1 m) fun y1 m2 =>
  o_gd (isb y1) <|
  some (y1, m2)
  else
  o_b2 (f_Rea_skipBlanks F  m) fun y4 m5 =>
  o_b (f_Rea_isWord F 9 m5) fun y6 =>
  (if y6 = 0 then
  some (1, m5)
  else
  o_let (a_st m5 11 2 ((m5 11 2) + 2)) fun m7 =>
  o_b2 (g_Rea_readAll F rc_Rea_readSum rc_Rea_readTest  m7) fun y8 m9 =>
  (if y8 = 0 then
  some (0, m9)
  else
  o_b2 (f_Len_addOrder 12 16 0 m9) fun y10 m11 =>
  rec_11 (x1 + 1) m11
  )
  )
  )
theorem tb_Rea_readAny_11 {K : aK} {d bc bs : Nat} {g : aG} (s : Sys g) {Q : aQ} {r : Int32} {m' : aM} (F : Nat) (D0 : Nat) (rc_Rea_readSum : aM → Option (Int32 × aM)) (hc_Rea_readSum : ∀ (d bc bs : Nat)  (m : aM) (r : Int32) (m' : aM), rc_Rea_readSum  m = some (r, m') → D0 ≤ d → Sp K M_Rea_readSum d bc bs [.ref 11] (g, m) (some (.int r)) (g, m')) (rc_Rea_readTest : aM → Option (Int32 × aM)) (hc_Rea_readTest : ∀ (d bc bs : Nat)  (m : aM) (r : Int32) (m' : aM), rc_Rea_readTest  m = some (r, m') → D0 ≤ d → Sp K M_Rea_readTest d bc bs [.ref 11] (g, m) (some (.int r)) (g, m')) (rec_11 : Int32 → aM → Option (Int32 × aM)) (hr_11 : ∀ (x1 : Int32) (m : aM), rec_11 x1 m = some (r, m') → G K M_Rea_readAny d bc bs 11 [.ref 11, .int x1] [] (g, m) Q) (x1 : Int32) (m : aM) (hq : Q (.inl (some (.int r))) (g, m')) (e : lb_Rea_readAny_11 F rc_Rea_readSum rc_Rea_readTest rec_11 x1 m = some (r, m')) (hd : D0 + 8 ≤ d) : G K M_Rea_readAny d bc bs 11 [.ref 11, .int x1] [] (g, m) Q := by
  unfold lb_Rea_readAny_11 at e
  refine g_iload_n k_Rea_readAny_11 rfl rfl ?_
  refine g_sipush (v := 400) k_Rea_readAny_12 rfl ?_
  refine g_icmp_ge (tgt := 69) k_Rea_readAny_15 (by decide) (fun c => ?_) (fun c => ?_)
  · rw [if_pos c] at e
    refine g_aload_n k_Rea_readAny_69 rfl rfl ?_
    refine g_iconst (v := 1) k_Rea_readAny_70 rfl ?_
    obtain ⟨y1, m2, e_y1, e⟩ := o_b2_ex e
    refine g_cv k_Rea_readAny_71 lv_Rea_53 (by decide +kernel) (T := F_Rea) (N := 8) (ci := 5) rfl (sk_Rea s) (s_Rea_fail (bc := 0) (bs := 0) s 1 m e_y1) rfl rfl (Nat.le_of_ble_eq_true rfl) (by simp [Value.category]) (by omega) (by omega) (by omega) ?_
    obtain ⟨q3, e⟩ := o_gd_ex e
    refine g_zret k_Rea_readAny_74 rfl (isb_or q3) ?_
    exact (by cases e; exact hq)
  · rw [if_neg c] at e
    refine g_aload_n k_Rea_readAny_18 rfl rfl ?_
    obtain ⟨y4, m5, e_y4, e⟩ := o_b2_ex e
    refine g_cv k_Rea_readAny_19 lv_Rea_46 (by decide +kernel) (T := F_Rea) (N := 8) (ci := 5) rfl (sk_Rea s) (s_Rea_skipBlanks (bc := 0) (bs := 0) s F  m e_y4) rfl rfl (Nat.le_of_ble_eq_true rfl) (by simp [Value.category]) (by omega) (by omega) (by omega) ?_
    refine g_aload_n k_Rea_readAny_22 rfl rfl ?_
    refine g_str (k := 9) (f := fw 9) k_Rea_readAny_23 rfl rfl ?_
    obtain ⟨y6, e_y6, e⟩ := o_b_ex e
    refine g_cv k_Rea_readAny_25 lv_Rea_63 (by decide +kernel) (T := F_Rea) (N := 8) (ci := 5) rfl (sk_Rea s) (s_Rea_isWord (bc := 0) (bs := 0) s F 9 (by decide) m5 e_y6 (by omega)) rfl rfl (Nat.le_of_ble_eq_true rfl) (by simp [Value.category]) (by omega) (by omega) (by omega) ?_
    refine g_if_ne (tgt := 33) k_Rea_readAny_28 (by decide) (fun c => ?_) (fun c => ?_)
    · rw [if_pos c] at e
      refine g_iconst (v := 1) k_Rea_readAny_31 rfl ?_
      refine g_zret k_Rea_readAny_32 rfl (by decide) ?_
      exact (by cases e; exact hq)
    · rw [if_neg c] at e
      refine g_aload_n k_Rea_readAny_33 rfl rfl ?_
      refine g_dup k_Rea_readAny_34 rfl ?_
      refine p_geti k_Rea_readAny_35 fl_Rea_29 rfl (sk_Rea s) (by decide) ?_
      refine g_iconst (v := 2) k_Rea_readAny_38 rfl ?_
      refine g_iadd k_Rea_readAny_39 ?_
      refine p_puti k_Rea_readAny_40 fl_Rea_29 rfl ⟨R_Rea, F_Rea, 8, rfl, Or.inl rfl⟩ (sk_Rea s) (by decide) ?_
      obtain ⟨m7, u_m7, e⟩ := o_let_ex e
      refine G.hm u_m7 ?_
      refine g_aload_n k_Rea_readAny_43 rfl rfl ?_
      obtain ⟨y8, m9, e_y8, e⟩ := o_b2_ex e
      refine g_cv k_Rea_readAny_44 lv_Rea_155 (by decide +kernel) (T := F_Rea) (N := 8) (ci := 5) rfl (sk_Rea s) (sg_Rea_readAll (bc := 0) (bs := 0) s F D0 rc_Rea_readSum hc_Rea_readSum rc_Rea_readTest hc_Rea_readTest  m7 e_y8 (by omega)) rfl rfl (Nat.le_of_ble_eq_true rfl) (by simp [Value.category]) (by omega) (by omega) (by omega) ?_
      refine g_if_ne (tgt := 52) k_Rea_readAny_47 (by decide) (fun c => ?_) (fun c => ?_)
      · rw [if_pos c] at e
        refine g_iconst (v := 0) k_Rea_readAny_50 rfl ?_
        refine g_zret k_Rea_readAny_51 rfl (by decide) ?_
        exact (by cases e; exact hq)
      · rw [if_neg c] at e
        refine g_aload_n k_Rea_readAny_52 rfl rfl ?_
        refine p_getr k_Rea_readAny_53 fl_Rea_15 rfl (sk_Rea s) (by decide) (sr_Rea_5 s) ?_
        refine g_bipush (v := 16) k_Rea_readAny_56 rfl ?_
        refine g_iconst (v := 0) k_Rea_readAny_58 rfl ?_
        obtain ⟨y10, m11, e_y10, e⟩ := o_b2_ex e
        refine g_cv k_Rea_readAny_59 lv_Rea_115 (by decide +kernel) (T := F_Len) (N := 11) (ci := 2) rfl (sk_Len (sy_dra s)) (s_Len_addOrder (bc := 0) (bs := 0) s 12 (sy_dra s) 16 0 m9 e_y10) rfl rfl (Nat.le_of_ble_eq_true rfl) (by simp [Value.category]) (by omega) (by omega) (by omega) ?_
        refine g_pop k_Rea_readAny_62 rfl ?_
        refine g_iinc (v := _ + 1) k_Rea_readAny_63 rfl rfl (by decide) ?_
        refine g_goto (tgt := 11) k_Rea_readAny_66 (by decide) ?_
        exact (hr_11 (x1 + 1) m11 e)
def ll_Rea_readAny_11 (F : Nat) (rc_Rea_readSum : aM → Option (Int32 × aM)) (rc_Rea_readTest : aM → Option (Int32 × aM)) : Nat → Int32 → aM → Option (Int32 × aM)
  | 0, _, _ => none
  | N + 1, x1, m => lb_Rea_readAny_11 F rc_Rea_readSum rc_Rea_readTest (ll_Rea_readAny_11 F rc_Rea_readSum rc_Rea_readTest N) x1 m
theorem t_Rea_readAny_11 {K : aK} {d bc bs : Nat} {g : aG} (s : Sys g) {Q : aQ} {r : Int32} {m' : aM} (F : Nat) (D0 : Nat) (rc_Rea_readSum : aM → Option (Int32 × aM)) (hc_Rea_readSum : ∀ (d bc bs : Nat)  (m : aM) (r : Int32) (m' : aM), rc_Rea_readSum  m = some (r, m') → D0 ≤ d → Sp K M_Rea_readSum d bc bs [.ref 11] (g, m) (some (.int r)) (g, m')) (rc_Rea_readTest : aM → Option (Int32 × aM)) (hc_Rea_readTest : ∀ (d bc bs : Nat)  (m : aM) (r : Int32) (m' : aM), rc_Rea_readTest  m = some (r, m') → D0 ≤ d → Sp K M_Rea_readTest d bc bs [.ref 11] (g, m) (some (.int r)) (g, m')) : ∀ (N : Nat) (x1 : Int32) (m : aM), Q (.inl (some (.int r))) (g, m') → ll_Rea_readAny_11 F rc_Rea_readSum rc_Rea_readTest N x1 m = some (r, m') → D0 + 8 ≤ d → G K M_Rea_readAny d bc bs 11 [.ref 11, .int x1] [] (g, m) Q
  | 0, _, _ => fun _ e => nomatch e
  | N + 1, x1, m => fun hq e hd => tb_Rea_readAny_11 s F D0 rc_Rea_readSum hc_Rea_readSum rc_Rea_readTest hc_Rea_readTest (ll_Rea_readAny_11 F rc_Rea_readSum rc_Rea_readTest N) (fun x1 m e => t_Rea_readAny_11 s F D0 rc_Rea_readSum hc_Rea_readSum rc_Rea_readTest hc_Rea_readTest N x1 m hq e hd) x1 m hq e hd
def g_Rea_readAny (F : Nat) (rc_Rea_readSum : aM → Option (Int32 × aM)) (rc_Rea_readTest : aM → Option (Int32 × aM))  (m : aM) : Option (Int32 × aM) :=
  o_b2 (g_Rea_readAll F rc_Rea_readSum rc_Rea_readTest  m) fun y1 m2 =>
  (if y1 = 0 then
  some (0, m2)
  else
  ll_Rea_readAny_11 F rc_Rea_readSum rc_Rea_readTest F 0 m2
  )
theorem sg_Rea_readAny {K : aK} {d bc bs : Nat} {g : aG} (s : Sys g) (F : Nat) (D0 : Nat) (rc_Rea_readSum : aM → Option (Int32 × aM)) (hc_Rea_readSum : ∀ (d bc bs : Nat)  (m : aM) (r : Int32) (m' : aM), rc_Rea_readSum  m = some (r, m') → D0 ≤ d → Sp K M_Rea_readSum d bc bs [.ref 11] (g, m) (some (.int r)) (g, m')) (rc_Rea_readTest : aM → Option (Int32 × aM)) (hc_Rea_readTest : ∀ (d bc bs : Nat)  (m : aM) (r : Int32) (m' : aM), rc_Rea_readTest  m = some (r, m') → D0 ≤ d → Sp K M_Rea_readTest d bc bs [.ref 11] (g, m) (some (.int r)) (g, m'))  (m : aM) {r : Int32} {m' : aM} (e : g_Rea_readAny F rc_Rea_readSum rc_Rea_readTest  m = some (r, m')) (hd : D0 + 8 ≤ d) : Sp K M_Rea_readAny d bc bs [.ref 11] (g, m) (some (.int r)) (g, m') := by
  refine sp_of ok_Rea_readAny rfl (Nat.le_of_ble_eq_true rfl) (by simp [Value.category]) (fun Q hq => ?_)
  unfold g_Rea_readAny at e
  refine g_aload_n k_Rea_readAny_0 rfl rfl ?_
  obtain ⟨y1, m2, e_y1, e⟩ := o_b2_ex e
  refine g_cv k_Rea_readAny_1 lv_Rea_155 (by decide +kernel) (T := F_Rea) (N := 8) (ci := 5) rfl (sk_Rea s) (sg_Rea_readAll (bc := 0) (bs := 0) s F D0 rc_Rea_readSum hc_Rea_readSum rc_Rea_readTest hc_Rea_readTest  m e_y1 (by omega)) rfl rfl (Nat.le_of_ble_eq_true rfl) (by simp [Value.category]) (by omega) (by omega) (by omega) ?_
  refine g_if_ne (tgt := 9) k_Rea_readAny_4 (by decide) (fun c => ?_) (fun c => ?_)
  · rw [if_pos c] at e
    refine g_iconst (v := 0) k_Rea_readAny_7 rfl ?_
    refine g_zret k_Rea_readAny_8 rfl (by decide) ?_
    exact (by cases e; exact hq)
  · rw [if_neg c] at e
    refine g_iconst (v := 0) k_Rea_readAny_9 rfl ?_
    refine g_istore_n k_Rea_readAny_10 rfl (by decide) ?_
    exact (t_Rea_readAny_11 s F D0 rc_Rea_readSum hc_Rea_readSum rc_Rea_readTest hc_Rea_readTest F 0 m2 hq e hd)
def g_Rea_readIf (F : Nat) (rc_Rea_readSum : aM → Option (Int32 × aM)) (rc_Rea_readTest : aM → Option (Int32 × aM))  (m : aM) : Option (Int32 × aM) :=
  o_b2 (f_Rea_readOpening F 40 m) fun y1 m2 =>
  (if y1 = 0 then
  some (0, m2)
  else
  o_b2 (g_Rea_readAny F rc_Rea_readSum rc_Rea_readTest  m2) fun y3 m4 =>
  (if y3 = 0 then
  some (0, m4)
  else
  o_b2 (f_Rea_readSign F 44 m4) fun y5 m6 =>
  (if y5 = 0 then
  some (0, m6)
  else
  o_b2 (f_Len_addOrder 12 4 0 m6) fun y7 m8 =>
  o_b2 (rc_Rea_readSum  m8) fun y9 m10 =>
  (if y9 = 0 then
  some (0, m10)
  else
  o_b2 (f_Rea_readSign F 44 m10) fun y11 m12 =>
  (if y11 = 0 then
  some (0, m12)
  else
  o_b2 (f_Len_addOrder 12 3 0 m12) fun y13 m14 =>
  o_b2 (f_Len_jumpHere 12 y7 m14) fun y15 m16 =>
  o_b2 (rc_Rea_readSum  m16) fun y17 m18 =>
  (if y17 = 0 then
  some (0, m18)
  else
  o_b2 (f_Rea_readClosing F 41 m18) fun y19 m20 =>
  (if y19 = 0 then
  some (0, m20)
  else
  o_b2 (f_Len_jumpHere 12 y13 m20) fun y21 m22 =>
  some (1, m22)
  )
  )
  )
  )
  )
  )
  )
theorem sg_Rea_readIf {K : aK} {d bc bs : Nat} {g : aG} (s : Sys g) (F : Nat) (D0 : Nat) (rc_Rea_readSum : aM → Option (Int32 × aM)) (hc_Rea_readSum : ∀ (d bc bs : Nat)  (m : aM) (r : Int32) (m' : aM), rc_Rea_readSum  m = some (r, m') → D0 ≤ d → Sp K M_Rea_readSum d bc bs [.ref 11] (g, m) (some (.int r)) (g, m')) (rc_Rea_readTest : aM → Option (Int32 × aM)) (hc_Rea_readTest : ∀ (d bc bs : Nat)  (m : aM) (r : Int32) (m' : aM), rc_Rea_readTest  m = some (r, m') → D0 ≤ d → Sp K M_Rea_readTest d bc bs [.ref 11] (g, m) (some (.int r)) (g, m'))  (m : aM) {r : Int32} {m' : aM} (e : g_Rea_readIf F rc_Rea_readSum rc_Rea_readTest  m = some (r, m')) (hd : D0 + 10 ≤ d) : Sp K M_Rea_readIf d bc bs [.ref 11] (g, m) (some (.int r)) (g, m') := by
  refine sp_of ok_Rea_readIf rfl (Nat.le_of_ble_eq_true rfl) (by simp [Value.category]) (fun Q hq => ?_)
  unfold g_Rea_readIf at e
  refine g_aload_n k_Rea_readIf_0 rfl rfl ?_
  refine g_bipush (v := 40) k_Rea_readIf_1 rfl ?_
  obtain ⟨y1, m2, e_y1, e⟩ := o_b2_ex e
  refine g_cv k_Rea_readIf_3 lv_Rea_134 (by decide +kernel) (T := F_Rea) (N := 8) (ci := 5) rfl (sk_Rea s) (s_Rea_readOpening (bc := 0) (bs := 0) s F 40 m e_y1 (by omega)) rfl rfl (Nat.le_of_ble_eq_true rfl) (by simp [Value.category]) (by omega) (by omega) (by omega) ?_
  refine g_if_eq (tgt := 25) k_Rea_readIf_6 (by decide) (fun c => ?_) (fun c => ?_)
  · rw [if_pos c] at e
    refine g_iconst (v := 0) k_Rea_readIf_25 rfl ?_
    refine g_zret k_Rea_readIf_26 rfl (by decide) ?_
    exact (by cases e; exact hq)
  · rw [if_neg c] at e
    refine g_aload_n k_Rea_readIf_9 rfl rfl ?_
    obtain ⟨y3, m4, e_y3, e⟩ := o_b2_ex e
    refine g_cv k_Rea_readIf_10 lv_Rea_96 (by decide +kernel) (T := F_Rea) (N := 8) (ci := 5) rfl (sk_Rea s) (sg_Rea_readAny (bc := 0) (bs := 0) s F D0 rc_Rea_readSum hc_Rea_readSum rc_Rea_readTest hc_Rea_readTest  m2 e_y3 (by omega)) rfl rfl (Nat.le_of_ble_eq_true rfl) (by simp [Value.category]) (by omega) (by omega) (by omega) ?_
    refine g_if_eq (tgt := 25) k_Rea_readIf_13 (by decide) (fun c => ?_) (fun c => ?_)
    · rw [if_pos c] at e
      refine g_iconst (v := 0) k_Rea_readIf_25 rfl ?_
      refine g_zret k_Rea_readIf_26 rfl (by decide) ?_
      exact (by cases e; exact hq)
    · rw [if_neg c] at e
      refine g_aload_n k_Rea_readIf_16 rfl rfl ?_
      refine g_bipush (v := 44) k_Rea_readIf_17 rfl ?_
      obtain ⟨y5, m6, e_y5, e⟩ := o_b2_ex e
      refine g_cv k_Rea_readIf_19 lv_Rea_79 (by decide +kernel) (T := F_Rea) (N := 8) (ci := 5) rfl (sk_Rea s) (s_Rea_readSign (bc := 0) (bs := 0) s F 44 m4 e_y5 (by omega)) rfl rfl (Nat.le_of_ble_eq_true rfl) (by simp [Value.category]) (by omega) (by omega) (by omega) ?_
      refine g_if_ne (tgt := 27) k_Rea_readIf_22 (by decide) (fun c => ?_) (fun c => ?_)
      · rw [if_pos c] at e
        refine g_iconst (v := 0) k_Rea_readIf_25 rfl ?_
        refine g_zret k_Rea_readIf_26 rfl (by decide) ?_
        exact (by cases e; exact hq)
      · rw [if_neg c] at e
        refine g_aload_n k_Rea_readIf_27 rfl rfl ?_
        refine p_getr k_Rea_readIf_28 fl_Rea_15 rfl (sk_Rea s) (by decide) (sr_Rea_5 s) ?_
        refine g_iconst (v := 4) k_Rea_readIf_31 rfl ?_
        refine g_iconst (v := 0) k_Rea_readIf_32 rfl ?_
        obtain ⟨y7, m8, e_y7, e⟩ := o_b2_ex e
        refine g_cv k_Rea_readIf_33 lv_Rea_115 (by decide +kernel) (T := F_Len) (N := 11) (ci := 2) rfl (sk_Len (sy_dra s)) (s_Len_addOrder (bc := 0) (bs := 0) s 12 (sy_dra s) 4 0 m6 e_y7) rfl rfl (Nat.le_of_ble_eq_true rfl) (by simp [Value.category]) (by omega) (by omega) (by omega) ?_
        refine g_istore_n k_Rea_readIf_36 rfl (by decide) ?_
        refine g_aload_n k_Rea_readIf_37 rfl rfl ?_
        obtain ⟨y9, m10, e_y9, e⟩ := o_b2_ex e
        refine g_cv k_Rea_readIf_38 lv_Rea_102 (by decide +kernel) (T := F_Rea) (N := 8) (ci := 5) rfl (sk_Rea s) (hc_Rea_readSum _ 0 0  m8 _ _ e_y9 (by omega)) rfl rfl (Nat.le_of_ble_eq_true rfl) (by simp [Value.category]) (by omega) (by omega) (by omega) ?_
        refine g_if_eq (tgt := 53) k_Rea_readIf_41 (by decide) (fun c => ?_) (fun c => ?_)
        · rw [if_pos c] at e
          refine g_iconst (v := 0) k_Rea_readIf_53 rfl ?_
          refine g_zret k_Rea_readIf_54 rfl (by decide) ?_
          exact (by cases e; exact hq)
        · rw [if_neg c] at e
          refine g_aload_n k_Rea_readIf_44 rfl rfl ?_
          refine g_bipush (v := 44) k_Rea_readIf_45 rfl ?_
          obtain ⟨y11, m12, e_y11, e⟩ := o_b2_ex e
          refine g_cv k_Rea_readIf_47 lv_Rea_79 (by decide +kernel) (T := F_Rea) (N := 8) (ci := 5) rfl (sk_Rea s) (s_Rea_readSign (bc := 0) (bs := 0) s F 44 m10 e_y11 (by omega)) rfl rfl (Nat.le_of_ble_eq_true rfl) (by simp [Value.category]) (by omega) (by omega) (by omega) ?_
          refine g_if_ne (tgt := 55) k_Rea_readIf_50 (by decide) (fun c => ?_) (fun c => ?_)
          · rw [if_pos c] at e
            refine g_iconst (v := 0) k_Rea_readIf_53 rfl ?_
            refine g_zret k_Rea_readIf_54 rfl (by decide) ?_
            exact (by cases e; exact hq)
          · rw [if_neg c] at e
            refine g_aload_n k_Rea_readIf_55 rfl rfl ?_
            refine p_getr k_Rea_readIf_56 fl_Rea_15 rfl (sk_Rea s) (by decide) (sr_Rea_5 s) ?_
            refine g_iconst (v := 3) k_Rea_readIf_59 rfl ?_
            refine g_iconst (v := 0) k_Rea_readIf_60 rfl ?_
            obtain ⟨y13, m14, e_y13, e⟩ := o_b2_ex e
            refine g_cv k_Rea_readIf_61 lv_Rea_115 (by decide +kernel) (T := F_Len) (N := 11) (ci := 2) rfl (sk_Len (sy_dra s)) (s_Len_addOrder (bc := 0) (bs := 0) s 12 (sy_dra s) 3 0 m12 e_y13) rfl rfl (Nat.le_of_ble_eq_true rfl) (by simp [Value.category]) (by omega) (by omega) (by omega) ?_
            refine g_istore_n k_Rea_readIf_64 rfl (by decide) ?_
            refine g_aload_n k_Rea_readIf_65 rfl rfl ?_
            refine p_getr k_Rea_readIf_66 fl_Rea_15 rfl (sk_Rea s) (by decide) (sr_Rea_5 s) ?_
            refine g_iload_n k_Rea_readIf_69 rfl rfl ?_
            obtain ⟨y15, m16, e_y15, e⟩ := o_b2_ex e
            refine g_cv k_Rea_readIf_70 lv_Rea_152 (by decide +kernel) (T := F_Len) (N := 11) (ci := 2) rfl (sk_Len (sy_dra s)) (s_Len_jumpHere (bc := 0) (bs := 0) s 12 (sy_dra s) y7 m14 e_y15) rfl rfl (Nat.le_of_ble_eq_true rfl) (by simp [Value.category]) (by omega) (by omega) (by omega) ?_
            refine g_aload_n k_Rea_readIf_73 rfl rfl ?_
            obtain ⟨y17, m18, e_y17, e⟩ := o_b2_ex e
            refine g_cv k_Rea_readIf_74 lv_Rea_102 (by decide +kernel) (T := F_Rea) (N := 8) (ci := 5) rfl (sk_Rea s) (hc_Rea_readSum _ 0 0  m16 _ _ e_y17 (by omega)) rfl rfl (Nat.le_of_ble_eq_true rfl) (by simp [Value.category]) (by omega) (by omega) (by omega) ?_
            refine g_if_eq (tgt := 89) k_Rea_readIf_77 (by decide) (fun c => ?_) (fun c => ?_)
            · rw [if_pos c] at e
              refine g_iconst (v := 0) k_Rea_readIf_89 rfl ?_
              refine g_zret k_Rea_readIf_90 rfl (by decide) ?_
              exact (by cases e; exact hq)
            · rw [if_neg c] at e
              refine g_aload_n k_Rea_readIf_80 rfl rfl ?_
              refine g_bipush (v := 41) k_Rea_readIf_81 rfl ?_
              obtain ⟨y19, m20, e_y19, e⟩ := o_b2_ex e
              refine g_cv k_Rea_readIf_83 lv_Rea_137 (by decide +kernel) (T := F_Rea) (N := 8) (ci := 5) rfl (sk_Rea s) (s_Rea_readClosing (bc := 0) (bs := 0) s F 41 m18 e_y19 (by omega)) rfl rfl (Nat.le_of_ble_eq_true rfl) (by simp [Value.category]) (by omega) (by omega) (by omega) ?_
              refine g_if_ne (tgt := 91) k_Rea_readIf_86 (by decide) (fun c => ?_) (fun c => ?_)
              · rw [if_pos c] at e
                refine g_iconst (v := 0) k_Rea_readIf_89 rfl ?_
                refine g_zret k_Rea_readIf_90 rfl (by decide) ?_
                exact (by cases e; exact hq)
              · rw [if_neg c] at e
                refine g_aload_n k_Rea_readIf_91 rfl rfl ?_
                refine p_getr k_Rea_readIf_92 fl_Rea_15 rfl (sk_Rea s) (by decide) (sr_Rea_5 s) ?_
                refine g_iload_n k_Rea_readIf_95 rfl rfl ?_
                obtain ⟨y21, m22, e_y21, e⟩ := o_b2_ex e
                refine g_cv k_Rea_readIf_96 lv_Rea_152 (by decide +kernel) (T := F_Len) (N := 11) (ci := 2) rfl (sk_Len (sy_dra s)) (s_Len_jumpHere (bc := 0) (bs := 0) s 12 (sy_dra s) y13 m20 e_y21) rfl rfl (Nat.le_of_ble_eq_true rfl) (by simp [Value.category]) (by omega) (by omega) (by omega) ?_
                refine g_iconst (v := 1) k_Rea_readIf_99 rfl ?_
                refine g_zret k_Rea_readIf_100 rfl (by decide) ?_
                exact (by cases e; exact hq)
def g_Rea_readPair (F : Nat) (rc_Rea_readSum : aM → Option (Int32 × aM)) (rc_Rea_readTest : aM → Option (Int32 × aM)) (x1 : Int32) (m : aM) : Option (Int32 × aM) :=
  o_b2 (f_Rea_readOpening F 40 m) fun y1 m2 =>
  (if y1 = 0 then
  some (0, m2)
  else
  o_b2 (rc_Rea_readSum  m2) fun y3 m4 =>
  (if y3 = 0 then
  some (0, m4)
  else
  o_b2 (f_Rea_readSign F 44 m4) fun y5 m6 =>
  (if y5 = 0 then
  some (0, m6)
  else
  o_b2 (rc_Rea_readSum  m6) fun y7 m8 =>
  (if y7 = 0 then
  some (0, m8)
  else
  o_b2 (f_Rea_readClosing F 41 m8) fun y9 m10 =>
  (if y9 = 0 then
  some (0, m10)
  else
  o_b2 (f_Len_addOrder 12 x1 0 m10) fun y11 m12 =>
  some (1, m12)
  )
  )
  )
  )
  )
theorem sg_Rea_readPair {K : aK} {d bc bs : Nat} {g : aG} (s : Sys g) (F : Nat) (D0 : Nat) (rc_Rea_readSum : aM → Option (Int32 × aM)) (hc_Rea_readSum : ∀ (d bc bs : Nat)  (m : aM) (r : Int32) (m' : aM), rc_Rea_readSum  m = some (r, m') → D0 ≤ d → Sp K M_Rea_readSum d bc bs [.ref 11] (g, m) (some (.int r)) (g, m')) (rc_Rea_readTest : aM → Option (Int32 × aM)) (hc_Rea_readTest : ∀ (d bc bs : Nat)  (m : aM) (r : Int32) (m' : aM), rc_Rea_readTest  m = some (r, m') → D0 ≤ d → Sp K M_Rea_readTest d bc bs [.ref 11] (g, m) (some (.int r)) (g, m')) (x1 : Int32) (m : aM) {r : Int32} {m' : aM} (e : g_Rea_readPair F rc_Rea_readSum rc_Rea_readTest x1 m = some (r, m')) (hd : D0 + 4 ≤ d) : Sp K M_Rea_readPair d bc bs [.ref 11, .int x1] (g, m) (some (.int r)) (g, m') := by
  refine sp_of ok_Rea_readPair rfl (Nat.le_of_ble_eq_true rfl) (by simp [Value.category]) (fun Q hq => ?_)
  unfold g_Rea_readPair at e
  refine g_aload_n k_Rea_readPair_0 rfl rfl ?_
  refine g_bipush (v := 40) k_Rea_readPair_1 rfl ?_
  obtain ⟨y1, m2, e_y1, e⟩ := o_b2_ex e
  refine g_cv k_Rea_readPair_3 lv_Rea_134 (by decide +kernel) (T := F_Rea) (N := 8) (ci := 5) rfl (sk_Rea s) (s_Rea_readOpening (bc := 0) (bs := 0) s F 40 m e_y1 (by omega)) rfl rfl (Nat.le_of_ble_eq_true rfl) (by simp [Value.category]) (by omega) (by omega) (by omega) ?_
  refine g_if_eq (tgt := 41) k_Rea_readPair_6 (by decide) (fun c => ?_) (fun c => ?_)
  · rw [if_pos c] at e
    refine g_iconst (v := 0) k_Rea_readPair_41 rfl ?_
    refine g_zret k_Rea_readPair_42 rfl (by decide) ?_
    exact (by cases e; exact hq)
  · rw [if_neg c] at e
    refine g_aload_n k_Rea_readPair_9 rfl rfl ?_
    obtain ⟨y3, m4, e_y3, e⟩ := o_b2_ex e
    refine g_cv k_Rea_readPair_10 lv_Rea_102 (by decide +kernel) (T := F_Rea) (N := 8) (ci := 5) rfl (sk_Rea s) (hc_Rea_readSum _ 0 0  m2 _ _ e_y3 (by omega)) rfl rfl (Nat.le_of_ble_eq_true rfl) (by simp [Value.category]) (by omega) (by omega) (by omega) ?_
    refine g_if_eq (tgt := 41) k_Rea_readPair_13 (by decide) (fun c => ?_) (fun c => ?_)
    · rw [if_pos c] at e
      refine g_iconst (v := 0) k_Rea_readPair_41 rfl ?_
      refine g_zret k_Rea_readPair_42 rfl (by decide) ?_
      exact (by cases e; exact hq)
    · rw [if_neg c] at e
      refine g_aload_n k_Rea_readPair_16 rfl rfl ?_
      refine g_bipush (v := 44) k_Rea_readPair_17 rfl ?_
      obtain ⟨y5, m6, e_y5, e⟩ := o_b2_ex e
      refine g_cv k_Rea_readPair_19 lv_Rea_79 (by decide +kernel) (T := F_Rea) (N := 8) (ci := 5) rfl (sk_Rea s) (s_Rea_readSign (bc := 0) (bs := 0) s F 44 m4 e_y5 (by omega)) rfl rfl (Nat.le_of_ble_eq_true rfl) (by simp [Value.category]) (by omega) (by omega) (by omega) ?_
      refine g_if_eq (tgt := 41) k_Rea_readPair_22 (by decide) (fun c => ?_) (fun c => ?_)
      · rw [if_pos c] at e
        refine g_iconst (v := 0) k_Rea_readPair_41 rfl ?_
        refine g_zret k_Rea_readPair_42 rfl (by decide) ?_
        exact (by cases e; exact hq)
      · rw [if_neg c] at e
        refine g_aload_n k_Rea_readPair_25 rfl rfl ?_
        obtain ⟨y7, m8, e_y7, e⟩ := o_b2_ex e
        refine g_cv k_Rea_readPair_26 lv_Rea_102 (by decide +kernel) (T := F_Rea) (N := 8) (ci := 5) rfl (sk_Rea s) (hc_Rea_readSum _ 0 0  m6 _ _ e_y7 (by omega)) rfl rfl (Nat.le_of_ble_eq_true rfl) (by simp [Value.category]) (by omega) (by omega) (by omega) ?_
        refine g_if_eq (tgt := 41) k_Rea_readPair_29 (by decide) (fun c => ?_) (fun c => ?_)
        · rw [if_pos c] at e
          refine g_iconst (v := 0) k_Rea_readPair_41 rfl ?_
          refine g_zret k_Rea_readPair_42 rfl (by decide) ?_
          exact (by cases e; exact hq)
        · rw [if_neg c] at e
          refine g_aload_n k_Rea_readPair_32 rfl rfl ?_
          refine g_bipush (v := 41) k_Rea_readPair_33 rfl ?_
          obtain ⟨y9, m10, e_y9, e⟩ := o_b2_ex e
          refine g_cv k_Rea_readPair_35 lv_Rea_137 (by decide +kernel) (T := F_Rea) (N := 8) (ci := 5) rfl (sk_Rea s) (s_Rea_readClosing (bc := 0) (bs := 0) s F 41 m8 e_y9 (by omega)) rfl rfl (Nat.le_of_ble_eq_true rfl) (by simp [Value.category]) (by omega) (by omega) (by omega) ?_
          refine g_if_ne (tgt := 43) k_Rea_readPair_38 (by decide) (fun c => ?_) (fun c => ?_)
          · rw [if_pos c] at e
            refine g_iconst (v := 0) k_Rea_readPair_41 rfl ?_
            refine g_zret k_Rea_readPair_42 rfl (by decide) ?_
            exact (by cases e; exact hq)
          · rw [if_neg c] at e
            refine g_aload_n k_Rea_readPair_43 rfl rfl ?_
            refine p_getr k_Rea_readPair_44 fl_Rea_15 rfl (sk_Rea s) (by decide) (sr_Rea_5 s) ?_
            refine g_iload_n k_Rea_readPair_47 rfl rfl ?_
            refine g_iconst (v := 0) k_Rea_readPair_48 rfl ?_
            obtain ⟨y11, m12, e_y11, e⟩ := o_b2_ex e
            refine g_cv k_Rea_readPair_49 lv_Rea_115 (by decide +kernel) (T := F_Len) (N := 11) (ci := 2) rfl (sk_Len (sy_dra s)) (s_Len_addOrder (bc := 0) (bs := 0) s 12 (sy_dra s) x1 0 m10 e_y11) rfl rfl (Nat.le_of_ble_eq_true rfl) (by simp [Value.category]) (by omega) (by omega) (by omega) ?_
            refine g_pop k_Rea_readPair_52 rfl ?_
            refine g_iconst (v := 1) k_Rea_readPair_53 rfl ?_
            refine g_zret k_Rea_readPair_54 rfl (by decide) ?_
            exact (by cases e; exact hq)
def g_Rea_readUnit (F : Nat) (rc_Rea_readSum : aM → Option (Int32 × aM)) (rc_Rea_readTest : aM → Option (Int32 × aM))  (m : aM) : Option (Int32 × aM) :=
  o_b2 (f_Rea_skipBlanks F  m) fun y1 m2 =>
  o_b (f_Rea_byteAt (m2 11 2) m2) fun y3 =>
  o_b (f_Rea_isDigit y3 m2) fun y4 =>
  (if y4 = 0 then
  o_b (f_Rea_letterHere  m2) fun y5 =>
  (if y5 = (-1) then
  o_b2 (f_Rea_isSign F 40 m2) fun y6 m7 =>
  (if y6 = 0 then
  o_b (f_Rea_isWord F 5 m7) fun y8 =>
  (if y8 = 0 then
  o_b (f_Rea_isWord F 6 m7) fun y9 =>
  (if y9 = 0 then
  o_b (f_Rea_isWord F 7 m7) fun y10 =>
  (if y10 = 0 then
  o_b2 (f_Rea_fail 1 m7) fun y11 m12 =>
  o_gd (isb y11) <|
  some (y11, m12)
  else
  o_let (a_st m7 11 2 ((m7 11 2) + 2)) fun m14 =>
  o_b2 (g_Rea_readIf F rc_Rea_readSum rc_Rea_readTest  m14) fun y15 m16 =>
  o_gd (isb y15) <|
  some (y15, m16)
  )
  else
  o_let (a_st m7 11 2 ((m7 11 2) + 4)) fun m18 =>
  o_b2 (g_Rea_readPair F rc_Rea_readSum rc_Rea_readTest 11 m18) fun y19 m20 =>
  o_gd (isb y19) <|
  some (y19, m20)
  )
  else
  o_let (a_st m7 11 2 ((m7 11 2) + 5)) fun m22 =>
  o_b2 (g_Rea_readPair F rc_Rea_readSum rc_Rea_readTest 10 m22) fun y23 m24 =>
  o_gd (isb y23) <|
  some (y23, m24)
  )
  else
  o_b2 (f_Rea_readOpening F 40 m7) fun y26 m27 =>
  (if y26 = 0 then
  some (0, m27)
  else
  o_b2 (rc_Rea_readSum  m27) fun y28 m29 =>
  (if y28 = 0 then
  some (0, m29)
  else
  o_b2 (f_Rea_readClosing F 41 m29) fun y30 m31 =>
  (if y30 = 0 then
  some (0, m31)
  else
  some (1, m31)
  )
  )
  )
  )
  else
  o_b2 (f_Rea_readOperand y5 m2) fun y32 m33 =>
  o_gd (isb y32) <|
  some (y32, m33)
  )
  else
  o_b2 (f_Rea_readNumber F  m2) fun y35 m36 =>
  o_gd (isb y35) <|
  some (y35, m36)
  )
theorem sg_Rea_readUnit {K : aK} {d bc bs : Nat} {g : aG} (s : Sys g) (F : Nat) (D0 : Nat) (rc_Rea_readSum : aM → Option (Int32 × aM)) (hc_Rea_readSum : ∀ (d bc bs : Nat)  (m : aM) (r : Int32) (m' : aM), rc_Rea_readSum  m = some (r, m') → D0 ≤ d → Sp K M_Rea_readSum d bc bs [.ref 11] (g, m) (some (.int r)) (g, m')) (rc_Rea_readTest : aM → Option (Int32 × aM)) (hc_Rea_readTest : ∀ (d bc bs : Nat)  (m : aM) (r : Int32) (m' : aM), rc_Rea_readTest  m = some (r, m') → D0 ≤ d → Sp K M_Rea_readTest d bc bs [.ref 11] (g, m) (some (.int r)) (g, m'))  (m : aM) {r : Int32} {m' : aM} (e : g_Rea_readUnit F rc_Rea_readSum rc_Rea_readTest  m = some (r, m')) (hd : D0 + 12 ≤ d) : Sp K M_Rea_readUnit d bc bs [.ref 11] (g, m) (some (.int r)) (g, m') := by
  refine sp_of ok_Rea_readUnit rfl (Nat.le_of_ble_eq_true rfl) (by simp [Value.category]) (fun Q hq => ?_)
  unfold g_Rea_readUnit at e
  refine g_aload_n k_Rea_readUnit_0 rfl rfl ?_
  obtain ⟨y1, m2, e_y1, e⟩ := o_b2_ex e
  refine g_cv k_Rea_readUnit_1 lv_Rea_46 (by decide +kernel) (T := F_Rea) (N := 8) (ci := 5) rfl (sk_Rea s) (s_Rea_skipBlanks (bc := 0) (bs := 0) s F  m e_y1) rfl rfl (Nat.le_of_ble_eq_true rfl) (by simp [Value.category]) (by omega) (by omega) (by omega) ?_
  refine g_aload_n k_Rea_readUnit_4 rfl rfl ?_
  refine g_aload_n k_Rea_readUnit_5 rfl rfl ?_
  refine p_geti k_Rea_readUnit_6 fl_Rea_29 rfl (sk_Rea s) (by decide) ?_
  obtain ⟨y3, e_y3, e⟩ := o_b_ex e
  refine g_cv k_Rea_readUnit_9 lv_Rea_121 (by decide +kernel) (T := F_Rea) (N := 8) (ci := 5) rfl (sk_Rea s) (s_Rea_byteAt (bc := 0) (bs := 0) s (m2 11 2) m2 e_y3) rfl rfl (Nat.le_of_ble_eq_true rfl) (by simp [Value.category]) (by omega) (by omega) (by omega) ?_
  obtain ⟨y4, e_y4, e⟩ := o_b_ex e
  refine g_cs k_Rea_readUnit_12 ls_Rea_125 (by decide +kernel) (s_Rea_isDigit (bc := 0) (bs := 0) s y3 m2 e_y4) rfl rfl (Nat.le_of_ble_eq_true rfl) (by simp [Value.category]) (by omega) (by omega) (by omega) ?_
  refine g_if_eq (tgt := 23) k_Rea_readUnit_15 (by decide) (fun c => ?_) (fun c => ?_)
  · rw [if_pos c] at e
    refine g_aload_n k_Rea_readUnit_23 rfl rfl ?_
    obtain ⟨y5, e_y5, e⟩ := o_b_ex e
    refine g_cv k_Rea_readUnit_24 lv_Rea_57 (by decide +kernel) (T := F_Rea) (N := 8) (ci := 5) rfl (sk_Rea s) (s_Rea_letterHere (bc := 0) (bs := 0) s  m2 e_y5 (by omega)) rfl rfl (Nat.le_of_ble_eq_true rfl) (by simp [Value.category]) (by omega) (by omega) (by omega) ?_
    refine g_istore_n k_Rea_readUnit_27 rfl (by decide) ?_
    refine g_iload_n k_Rea_readUnit_28 rfl rfl ?_
    refine g_iconst (v := (-1)) k_Rea_readUnit_29 rfl ?_
    refine g_icmp_eq (tgt := 39) k_Rea_readUnit_30 (by decide) (fun c => ?_) (fun c => ?_)
    · rw [if_pos c] at e
      refine g_aload_n k_Rea_readUnit_39 rfl rfl ?_
      refine g_bipush (v := 40) k_Rea_readUnit_40 rfl ?_
      obtain ⟨y6, m7, e_y6, e⟩ := o_b2_ex e
      refine g_cv k_Rea_readUnit_42 lv_Rea_112 (by decide +kernel) (T := F_Rea) (N := 8) (ci := 5) rfl (sk_Rea s) (s_Rea_isSign (bc := 0) (bs := 0) s F 40 m2 e_y6 (by omega)) rfl rfl (Nat.le_of_ble_eq_true rfl) (by simp [Value.category]) (by omega) (by omega) (by omega) ?_
      refine g_if_eq (tgt := 79) k_Rea_readUnit_45 (by decide) (fun c => ?_) (fun c => ?_)
      · rw [if_pos c] at e
        refine g_aload_n k_Rea_readUnit_79 rfl rfl ?_
        refine g_str (k := 5) (f := fw 5) k_Rea_readUnit_80 rfl rfl ?_
        obtain ⟨y8, e_y8, e⟩ := o_b_ex e
        refine g_cv k_Rea_readUnit_82 lv_Rea_63 (by decide +kernel) (T := F_Rea) (N := 8) (ci := 5) rfl (sk_Rea s) (s_Rea_isWord (bc := 0) (bs := 0) s F 5 (by decide) m7 e_y8 (by omega)) rfl rfl (Nat.le_of_ble_eq_true rfl) (by simp [Value.category]) (by omega) (by omega) (by omega) ?_
        refine g_if_eq (tgt := 105) k_Rea_readUnit_85 (by decide) (fun c => ?_) (fun c => ?_)
        · rw [if_pos c] at e
          refine g_aload_n k_Rea_readUnit_105 rfl rfl ?_
          refine g_str (k := 6) (f := fw 6) k_Rea_readUnit_106 rfl rfl ?_
          obtain ⟨y9, e_y9, e⟩ := o_b_ex e
          refine g_cv k_Rea_readUnit_108 lv_Rea_63 (by decide +kernel) (T := F_Rea) (N := 8) (ci := 5) rfl (sk_Rea s) (s_Rea_isWord (bc := 0) (bs := 0) s F 6 (by decide) m7 e_y9 (by omega)) rfl rfl (Nat.le_of_ble_eq_true rfl) (by simp [Value.category]) (by omega) (by omega) (by omega) ?_
          refine g_if_eq (tgt := 131) k_Rea_readUnit_111 (by decide) (fun c => ?_) (fun c => ?_)
          · rw [if_pos c] at e
            refine g_aload_n k_Rea_readUnit_131 rfl rfl ?_
            refine g_str (k := 7) (f := fw 7) k_Rea_readUnit_132 rfl rfl ?_
            obtain ⟨y10, e_y10, e⟩ := o_b_ex e
            refine g_cv k_Rea_readUnit_134 lv_Rea_63 (by decide +kernel) (T := F_Rea) (N := 8) (ci := 5) rfl (sk_Rea s) (s_Rea_isWord (bc := 0) (bs := 0) s F 7 (by decide) m7 e_y10 (by omega)) rfl rfl (Nat.le_of_ble_eq_true rfl) (by simp [Value.category]) (by omega) (by omega) (by omega) ?_
            refine g_if_eq (tgt := 155) k_Rea_readUnit_137 (by decide) (fun c => ?_) (fun c => ?_)
            · rw [if_pos c] at e
              refine g_aload_n k_Rea_readUnit_155 rfl rfl ?_
              refine g_iconst (v := 1) k_Rea_readUnit_156 rfl ?_
              obtain ⟨y11, m12, e_y11, e⟩ := o_b2_ex e
              refine g_cv k_Rea_readUnit_157 lv_Rea_53 (by decide +kernel) (T := F_Rea) (N := 8) (ci := 5) rfl (sk_Rea s) (s_Rea_fail (bc := 0) (bs := 0) s 1 m7 e_y11) rfl rfl (Nat.le_of_ble_eq_true rfl) (by simp [Value.category]) (by omega) (by omega) (by omega) ?_
              obtain ⟨q13, e⟩ := o_gd_ex e
              refine g_zret k_Rea_readUnit_160 rfl (isb_or q13) ?_
              exact (by cases e; exact hq)
            · rw [if_neg c] at e
              refine g_aload_n k_Rea_readUnit_140 rfl rfl ?_
              refine g_dup k_Rea_readUnit_141 rfl ?_
              refine p_geti k_Rea_readUnit_142 fl_Rea_29 rfl (sk_Rea s) (by decide) ?_
              refine g_iconst (v := 2) k_Rea_readUnit_145 rfl ?_
              refine g_iadd k_Rea_readUnit_146 ?_
              refine p_puti k_Rea_readUnit_147 fl_Rea_29 rfl ⟨R_Rea, F_Rea, 8, rfl, Or.inl rfl⟩ (sk_Rea s) (by decide) ?_
              obtain ⟨m14, u_m14, e⟩ := o_let_ex e
              refine G.hm u_m14 ?_
              refine g_aload_n k_Rea_readUnit_150 rfl rfl ?_
              obtain ⟨y15, m16, e_y15, e⟩ := o_b2_ex e
              refine g_cv k_Rea_readUnit_151 lv_Rea_149 (by decide +kernel) (T := F_Rea) (N := 8) (ci := 5) rfl (sk_Rea s) (sg_Rea_readIf (bc := 0) (bs := 0) s F D0 rc_Rea_readSum hc_Rea_readSum rc_Rea_readTest hc_Rea_readTest  m14 e_y15 (by omega)) rfl rfl (Nat.le_of_ble_eq_true rfl) (by simp [Value.category]) (by omega) (by omega) (by omega) ?_
              obtain ⟨q17, e⟩ := o_gd_ex e
              refine g_zret k_Rea_readUnit_154 rfl (isb_or q17) ?_
              exact (by cases e; exact hq)
          · rw [if_neg c] at e
            refine g_aload_n k_Rea_readUnit_114 rfl rfl ?_
            refine g_dup k_Rea_readUnit_115 rfl ?_
            refine p_geti k_Rea_readUnit_116 fl_Rea_29 rfl (sk_Rea s) (by decide) ?_
            refine g_iconst (v := 4) k_Rea_readUnit_119 rfl ?_
            refine g_iadd k_Rea_readUnit_120 ?_
            refine p_puti k_Rea_readUnit_121 fl_Rea_29 rfl ⟨R_Rea, F_Rea, 8, rfl, Or.inl rfl⟩ (sk_Rea s) (by decide) ?_
            obtain ⟨m18, u_m18, e⟩ := o_let_ex e
            refine G.hm u_m18 ?_
            refine g_aload_n k_Rea_readUnit_124 rfl rfl ?_
            refine g_bipush (v := 11) k_Rea_readUnit_125 rfl ?_
            obtain ⟨y19, m20, e_y19, e⟩ := o_b2_ex e
            refine g_cv k_Rea_readUnit_127 lv_Rea_142 (by decide +kernel) (T := F_Rea) (N := 8) (ci := 5) rfl (sk_Rea s) (sg_Rea_readPair (bc := 0) (bs := 0) s F D0 rc_Rea_readSum hc_Rea_readSum rc_Rea_readTest hc_Rea_readTest 11 m18 e_y19 (by omega)) rfl rfl (Nat.le_of_ble_eq_true rfl) (by simp [Value.category]) (by omega) (by omega) (by omega) ?_
            obtain ⟨q21, e⟩ := o_gd_ex e
            refine g_zret k_Rea_readUnit_130 rfl (isb_or q21) ?_
            exact (by cases e; exact hq)
        · rw [if_neg c] at e
          refine g_aload_n k_Rea_readUnit_88 rfl rfl ?_
          refine g_dup k_Rea_readUnit_89 rfl ?_
          refine p_geti k_Rea_readUnit_90 fl_Rea_29 rfl (sk_Rea s) (by decide) ?_
          refine g_iconst (v := 5) k_Rea_readUnit_93 rfl ?_
          refine g_iadd k_Rea_readUnit_94 ?_
          refine p_puti k_Rea_readUnit_95 fl_Rea_29 rfl ⟨R_Rea, F_Rea, 8, rfl, Or.inl rfl⟩ (sk_Rea s) (by decide) ?_
          obtain ⟨m22, u_m22, e⟩ := o_let_ex e
          refine G.hm u_m22 ?_
          refine g_aload_n k_Rea_readUnit_98 rfl rfl ?_
          refine g_bipush (v := 10) k_Rea_readUnit_99 rfl ?_
          obtain ⟨y23, m24, e_y23, e⟩ := o_b2_ex e
          refine g_cv k_Rea_readUnit_101 lv_Rea_142 (by decide +kernel) (T := F_Rea) (N := 8) (ci := 5) rfl (sk_Rea s) (sg_Rea_readPair (bc := 0) (bs := 0) s F D0 rc_Rea_readSum hc_Rea_readSum rc_Rea_readTest hc_Rea_readTest 10 m22 e_y23 (by omega)) rfl rfl (Nat.le_of_ble_eq_true rfl) (by simp [Value.category]) (by omega) (by omega) (by omega) ?_
          obtain ⟨q25, e⟩ := o_gd_ex e
          refine g_zret k_Rea_readUnit_104 rfl (isb_or q25) ?_
          exact (by cases e; exact hq)
      · rw [if_neg c] at e
        refine g_aload_n k_Rea_readUnit_48 rfl rfl ?_
        refine g_bipush (v := 40) k_Rea_readUnit_49 rfl ?_
        obtain ⟨y26, m27, e_y26, e⟩ := o_b2_ex e
        refine g_cv k_Rea_readUnit_51 lv_Rea_134 (by decide +kernel) (T := F_Rea) (N := 8) (ci := 5) rfl (sk_Rea s) (s_Rea_readOpening (bc := 0) (bs := 0) s F 40 m7 e_y26 (by omega)) rfl rfl (Nat.le_of_ble_eq_true rfl) (by simp [Value.category]) (by omega) (by omega) (by omega) ?_
        refine g_if_eq (tgt := 77) k_Rea_readUnit_54 (by decide) (fun c => ?_) (fun c => ?_)
        · rw [if_pos c] at e
          refine g_iconst (v := 0) k_Rea_readUnit_77 rfl ?_
          refine g_zret k_Rea_readUnit_78 rfl (by decide) ?_
          exact (by cases e; exact hq)
        · rw [if_neg c] at e
          refine g_aload_n k_Rea_readUnit_57 rfl rfl ?_
          obtain ⟨y28, m29, e_y28, e⟩ := o_b2_ex e
          refine g_cv k_Rea_readUnit_58 lv_Rea_102 (by decide +kernel) (T := F_Rea) (N := 8) (ci := 5) rfl (sk_Rea s) (hc_Rea_readSum _ 0 0  m27 _ _ e_y28 (by omega)) rfl rfl (Nat.le_of_ble_eq_true rfl) (by simp [Value.category]) (by omega) (by omega) (by omega) ?_
          refine g_if_eq (tgt := 77) k_Rea_readUnit_61 (by decide) (fun c => ?_) (fun c => ?_)
          · rw [if_pos c] at e
            refine g_iconst (v := 0) k_Rea_readUnit_77 rfl ?_
            refine g_zret k_Rea_readUnit_78 rfl (by decide) ?_
            exact (by cases e; exact hq)
          · rw [if_neg c] at e
            refine g_aload_n k_Rea_readUnit_64 rfl rfl ?_
            refine g_bipush (v := 41) k_Rea_readUnit_65 rfl ?_
            obtain ⟨y30, m31, e_y30, e⟩ := o_b2_ex e
            refine g_cv k_Rea_readUnit_67 lv_Rea_137 (by decide +kernel) (T := F_Rea) (N := 8) (ci := 5) rfl (sk_Rea s) (s_Rea_readClosing (bc := 0) (bs := 0) s F 41 m29 e_y30 (by omega)) rfl rfl (Nat.le_of_ble_eq_true rfl) (by simp [Value.category]) (by omega) (by omega) (by omega) ?_
            refine g_if_eq (tgt := 77) k_Rea_readUnit_70 (by decide) (fun c => ?_) (fun c => ?_)
            · rw [if_pos c] at e
              refine g_iconst (v := 0) k_Rea_readUnit_77 rfl ?_
              refine g_zret k_Rea_readUnit_78 rfl (by decide) ?_
              exact (by cases e; exact hq)
            · rw [if_neg c] at e
              refine g_iconst (v := 1) k_Rea_readUnit_73 rfl ?_
              refine g_goto (tgt := 78) k_Rea_readUnit_74 (by decide) ?_
              refine g_zret k_Rea_readUnit_78 rfl (by decide) ?_
              exact (by cases e; exact hq)
    · rw [if_neg c] at e
      refine g_aload_n k_Rea_readUnit_33 rfl rfl ?_
      refine g_iload_n k_Rea_readUnit_34 rfl rfl ?_
      obtain ⟨y32, m33, e_y32, e⟩ := o_b2_ex e
      refine g_cv k_Rea_readUnit_35 lv_Rea_131 (by decide +kernel) (T := F_Rea) (N := 8) (ci := 5) rfl (sk_Rea s) (s_Rea_readOperand (bc := 0) (bs := 0) s y5 m2 e_y32 (by omega)) rfl rfl (Nat.le_of_ble_eq_true rfl) (by simp [Value.category]) (by omega) (by omega) (by omega) ?_
      obtain ⟨q34, e⟩ := o_gd_ex e
      refine g_zret k_Rea_readUnit_38 rfl (isb_or q34) ?_
      exact (by cases e; exact hq)
  · rw [if_neg c] at e
    refine g_aload_n k_Rea_readUnit_18 rfl rfl ?_
    obtain ⟨y35, m36, e_y35, e⟩ := o_b2_ex e
    refine g_cv k_Rea_readUnit_19 lv_Rea_128 (by decide +kernel) (T := F_Rea) (N := 8) (ci := 5) rfl (sk_Rea s) (s_Rea_readNumber (bc := 0) (bs := 0) s F  m2 e_y35 (by omega)) rfl rfl (Nat.le_of_ble_eq_true rfl) (by simp [Value.category]) (by omega) (by omega) (by omega) ?_
    obtain ⟨q37, e⟩ := o_gd_ex e
    refine g_zret k_Rea_readUnit_22 rfl (isb_or q37) ?_
    exact (by cases e; exact hq)
def b_Rea_readProduct_74 (F : Nat) (rc_Rea_readSum : aM → Option (Int32 × aM)) (rc_Rea_readTest : aM → Option (Int32 × aM)) (rec_11 : Int32 → aM → Option (Int32 × aM)) (x1 : Int32) (xt0 : Int32) (m : aM) : Option (Int32 × aM) :=
  o_b2 (f_Len_addOrder 12 xt0 0 m) fun y1 m2 =>
  rec_11 (x1 + 1) m2
theorem t_Rea_readProduct_74 {K : aK} {d bc bs : Nat} {g : aG} (s : Sys g) {Q : aQ} {r : Int32} {m' : aM} (F : Nat) (D0 : Nat) (rc_Rea_readSum : aM → Option (Int32 × aM)) (hc_Rea_readSum : ∀ (d bc bs : Nat)  (m : aM) (r : Int32) (m' : aM), rc_Rea_readSum  m = some (r, m') → D0 ≤ d → Sp K M_Rea_readSum d bc bs [.ref 11] (g, m) (some (.int r)) (g, m')) (rc_Rea_readTest : aM → Option (Int32 × aM)) (hc_Rea_readTest : ∀ (d bc bs : Nat)  (m : aM) (r : Int32) (m' : aM), rc_Rea_readTest  m = some (r, m') → D0 ≤ d → Sp K M_Rea_readTest d bc bs [.ref 11] (g, m) (some (.int r)) (g, m')) (rec_11 : Int32 → aM → Option (Int32 × aM)) (hr_11 : ∀ (x1 : Int32) (m : aM), rec_11 x1 m = some (r, m') → G K M_Rea_readProduct d bc bs 11 [.ref 11, .int x1, .double 0] [] (g, m) Q) (x1 : Int32) (xt0 : Int32) (m : aM) (hq : Q (.inl (some (.int r))) (g, m')) (e : b_Rea_readProduct_74 F rc_Rea_readSum rc_Rea_readTest rec_11 x1 xt0 m = some (r, m')) (hd : D0 + 14 ≤ d) : G K M_Rea_readProduct d bc bs 74 [.ref 11, .int x1, .double 0] [.int xt0, .ref 12] (g, m) Q := by
  unfold b_Rea_readProduct_74 at e
  refine g_iconst (v := 0) k_Rea_readProduct_74 rfl ?_
  obtain ⟨y1, m2, e_y1, e⟩ := o_b2_ex e
  refine g_cv k_Rea_readProduct_75 lv_Rea_115 (by decide +kernel) (T := F_Len) (N := 11) (ci := 2) rfl (sk_Len (sy_dra s)) (s_Len_addOrder (bc := 0) (bs := 0) s 12 (sy_dra s) xt0 0 m e_y1) rfl rfl (Nat.le_of_ble_eq_true rfl) (by simp [Value.category]) (by omega) (by omega) (by omega) ?_
  refine g_pop k_Rea_readProduct_78 rfl ?_
  refine g_iinc (v := _ + 1) k_Rea_readProduct_79 rfl rfl (by decide) ?_
  refine g_goto (tgt := 11) k_Rea_readProduct_82 (by decide) ?_
  exact (hr_11 (x1 + 1) m2 e)
def b_Rea_readProduct_40 (F : Nat) (rc_Rea_readSum : aM → Option (Int32 × aM)) (rc_Rea_readTest : aM → Option (Int32 × aM)) (rec_11 : Int32 → aM → Option (Int32 × aM)) (x1 : Int32) (x2 : Int32) (m : aM) : Option (Int32 × aM) :=
  o_let (a_st m 11 2 ((m 11 2) + 1)) fun m1 =>
  o_b2 (g_Rea_readUnit F rc_Rea_readSum rc_Rea_readTest  m1) fun y2 m3 =>
  (if y2 = 0 then
  some (0, m3)
  else
  (if x2 = 0 then
  b_Rea_readProduct_74 F rc_Rea_readSum rc_Rea_readTest rec_11 x1 9 m3
  else
  b_Rea_readProduct_74 F rc_Rea_readSum rc_Rea_readTest rec_11 x1 8 m3
  )
  )
theorem t_Rea_readProduct_40 {K : aK} {d bc bs : Nat} {g : aG} (s : Sys g) {Q : aQ} {r : Int32} {m' : aM} (F : Nat) (D0 : Nat) (rc_Rea_readSum : aM → Option (Int32 × aM)) (hc_Rea_readSum : ∀ (d bc bs : Nat)  (m : aM) (r : Int32) (m' : aM), rc_Rea_readSum  m = some (r, m') → D0 ≤ d → Sp K M_Rea_readSum d bc bs [.ref 11] (g, m) (some (.int r)) (g, m')) (rc_Rea_readTest : aM → Option (Int32 × aM)) (hc_Rea_readTest : ∀ (d bc bs : Nat)  (m : aM) (r : Int32) (m' : aM), rc_Rea_readTest  m = some (r, m') → D0 ≤ d → Sp K M_Rea_readTest d bc bs [.ref 11] (g, m) (some (.int r)) (g, m')) (rec_11 : Int32 → aM → Option (Int32 × aM)) (hr_11 : ∀ (x1 : Int32) (m : aM), rec_11 x1 m = some (r, m') → G K M_Rea_readProduct d bc bs 11 [.ref 11, .int x1, .double 0] [] (g, m) Q) (x1 : Int32) (x2 : Int32) (m : aM) (hq : Q (.inl (some (.int r))) (g, m')) (e : b_Rea_readProduct_40 F rc_Rea_readSum rc_Rea_readTest rec_11 x1 x2 m = some (r, m')) (hd : D0 + 14 ≤ d) : G K M_Rea_readProduct d bc bs 40 [.ref 11, .int x1, .int x2] [] (g, m) Q := by
  unfold b_Rea_readProduct_40 at e
  refine g_aload_n k_Rea_readProduct_40 rfl rfl ?_
  refine g_dup k_Rea_readProduct_41 rfl ?_
  refine p_geti k_Rea_readProduct_42 fl_Rea_29 rfl (sk_Rea s) (by decide) ?_
  refine g_iconst (v := 1) k_Rea_readProduct_45 rfl ?_
  refine g_iadd k_Rea_readProduct_46 ?_
  refine p_puti k_Rea_readProduct_47 fl_Rea_29 rfl ⟨R_Rea, F_Rea, 8, rfl, Or.inl rfl⟩ (sk_Rea s) (by decide) ?_
  obtain ⟨m1, u_m1, e⟩ := o_let_ex e
  refine G.hm u_m1 ?_
  refine g_aload_n k_Rea_readProduct_50 rfl rfl ?_
  obtain ⟨y2, m3, e_y2, e⟩ := o_b2_ex e
  refine g_cv k_Rea_readProduct_51 lv_Rea_118 (by decide +kernel) (T := F_Rea) (N := 8) (ci := 5) rfl (sk_Rea s) (sg_Rea_readUnit (bc := 0) (bs := 0) s F D0 rc_Rea_readSum hc_Rea_readSum rc_Rea_readTest hc_Rea_readTest  m1 e_y2 (by omega)) rfl rfl (Nat.le_of_ble_eq_true rfl) (by simp [Value.category]) (by omega) (by omega) (by omega) ?_
  refine g_if_ne (tgt := 59) k_Rea_readProduct_54 (by decide) (fun c => ?_) (fun c => ?_)
  · rw [if_pos c] at e
    refine g_iconst (v := 0) k_Rea_readProduct_57 rfl ?_
    refine g_zret k_Rea_readProduct_58 rfl (by decide) ?_
    exact (by cases e; exact hq)
  · rw [if_neg c] at e
    refine g_aload_n k_Rea_readProduct_59 rfl rfl ?_
    refine p_getr k_Rea_readProduct_60 fl_Rea_15 rfl (sk_Rea s) (by decide) (sr_Rea_5 s) ?_
    refine g_iload_n k_Rea_readProduct_63 rfl rfl ?_
    refine g_if_eq (tgt := 72) k_Rea_readProduct_64 (by decide) (fun c => ?_) (fun c => ?_)
    · rw [if_pos c] at e
      refine g_bipush (v := 9) k_Rea_readProduct_72 rfl ?_
      exact G.wl (wls (wls (wld wl0))) (t_Rea_readProduct_74 s F D0 rc_Rea_readSum hc_Rea_readSum rc_Rea_readTest hc_Rea_readTest rec_11 hr_11 x1 9 m3 hq e hd)
    · rw [if_neg c] at e
      refine g_bipush (v := 8) k_Rea_readProduct_67 rfl ?_
      refine g_goto (tgt := 74) k_Rea_readProduct_69 (by decide) ?_
      exact G.wl (wls (wls (wld wl0))) (t_Rea_readProduct_74 s F D0 rc_Rea_readSum hc_Rea_readSum rc_Rea_readTest hc_Rea_readTest rec_11 hr_11 x1 8 m3 hq e hd)
def lb_Rea_readProduct_11 (F : Nat) (rc_Rea_readSum : aM → Option (Int32 × aM)) (rc_Rea_readTest : aM → Option (Int32 × aM)) (rec_11 : Int32 → aM → Option (Int32 × aM)) (x1 : Int32) (m : aM) : Option (Int32 × aM) :=
  (if 400 ≤ x1 then
  o_b2 (f_Rea_fail 1 m) fun y1 m2 =>
  o_gd (isb y1) <|
  some (y1, m2)
  else
  o_b2 (f_Rea_isSign F 42 m) fun y4 m5 =>
  (if y4 = 0 then
  o_b2 (f_Rea_isSign F 47 m5) fun y6 m7 =>
  (if y6 = 0 then
  some (1, m7)
  else
  b_Rea_readProduct_40 F rc_Rea_readSum rc_Rea_readTest rec_11 x1 y4 m7
  )
  else
  b_Rea_readProduct_40 F rc_Rea_readSum rc_Rea_readTest rec_11 x1 y4 m5
  )
  )
theorem tb_Rea_readProduct_11 {K : aK} {d bc bs : Nat} {g : aG} (s : Sys g) {Q : aQ} {r : Int32} {m' : aM} (F : Nat) (D0 : Nat) (rc_Rea_readSum : aM → Option (Int32 × aM)) (hc_Rea_readSum : ∀ (d bc bs : Nat)  (m : aM) (r : Int32) (m' : aM), rc_Rea_readSum  m = some (r, m') → D0 ≤ d → Sp K M_Rea_readSum d bc bs [.ref 11] (g, m) (some (.int r)) (g, m')) (rc_Rea_readTest : aM → Option (Int32 × aM)) (hc_Rea_readTest : ∀ (d bc bs : Nat)  (m : aM) (r : Int32) (m' : aM), rc_Rea_readTest  m = some (r, m') → D0 ≤ d → Sp K M_Rea_readTest d bc bs [.ref 11] (g, m) (some (.int r)) (g, m')) (rec_11 : Int32 → aM → Option (Int32 × aM)) (hr_11 : ∀ (x1 : Int32) (m : aM), rec_11 x1 m = some (r, m') → G K M_Rea_readProduct d bc bs 11 [.ref 11, .int x1, .double 0] [] (g, m) Q) (x1 : Int32) (m : aM) (hq : Q (.inl (some (.int r))) (g, m')) (e : lb_Rea_readProduct_11 F rc_Rea_readSum rc_Rea_readTest rec_11 x1 m = some (r, m')) (hd : D0 + 14 ≤ d) : G K M_Rea_readProduct d bc bs 11 [.ref 11, .int x1, .double 0] [] (g, m) Q := by
  unfold lb_Rea_readProduct_11 at e
  refine g_iload_n k_Rea_readProduct_11 rfl rfl ?_
  refine g_sipush (v := 400) k_Rea_readProduct_12 rfl ?_
  refine g_icmp_ge (tgt := 85) k_Rea_readProduct_15 (by decide) (fun c => ?_) (fun c => ?_)
  · rw [if_pos c] at e
    refine g_aload_n k_Rea_readProduct_85 rfl rfl ?_
    refine g_iconst (v := 1) k_Rea_readProduct_86 rfl ?_
    obtain ⟨y1, m2, e_y1, e⟩ := o_b2_ex e
    refine g_cv k_Rea_readProduct_87 lv_Rea_53 (by decide +kernel) (T := F_Rea) (N := 8) (ci := 5) rfl (sk_Rea s) (s_Rea_fail (bc := 0) (bs := 0) s 1 m e_y1) rfl rfl (Nat.le_of_ble_eq_true rfl) (by simp [Value.category]) (by omega) (by omega) (by omega) ?_
    obtain ⟨q3, e⟩ := o_gd_ex e
    refine g_zret k_Rea_readProduct_90 rfl (isb_or q3) ?_
    exact (by cases e; exact hq)
  · rw [if_neg c] at e
    refine g_aload_n k_Rea_readProduct_18 rfl rfl ?_
    refine g_bipush (v := 42) k_Rea_readProduct_19 rfl ?_
    obtain ⟨y4, m5, e_y4, e⟩ := o_b2_ex e
    refine g_cv k_Rea_readProduct_21 lv_Rea_112 (by decide +kernel) (T := F_Rea) (N := 8) (ci := 5) rfl (sk_Rea s) (s_Rea_isSign (bc := 0) (bs := 0) s F 42 m e_y4 (by omega)) rfl rfl (Nat.le_of_ble_eq_true rfl) (by simp [Value.category]) (by omega) (by omega) (by omega) ?_
    refine g_istore_n k_Rea_readProduct_24 rfl (by decide) ?_
    refine g_iload_n k_Rea_readProduct_25 rfl rfl ?_
    refine g_if_ne (tgt := 40) k_Rea_readProduct_26 (by decide) (fun c => ?_) (fun c => ?_)
    · rw [if_pos c] at e
      refine g_aload_n k_Rea_readProduct_29 rfl rfl ?_
      refine g_bipush (v := 47) k_Rea_readProduct_30 rfl ?_
      obtain ⟨y6, m7, e_y6, e⟩ := o_b2_ex e
      refine g_cv k_Rea_readProduct_32 lv_Rea_112 (by decide +kernel) (T := F_Rea) (N := 8) (ci := 5) rfl (sk_Rea s) (s_Rea_isSign (bc := 0) (bs := 0) s F 47 m5 e_y6 (by omega)) rfl rfl (Nat.le_of_ble_eq_true rfl) (by simp [Value.category]) (by omega) (by omega) (by omega) ?_
      refine g_if_ne (tgt := 40) k_Rea_readProduct_35 (by decide) (fun c => ?_) (fun c => ?_)
      · rw [if_pos c] at e
        refine g_iconst (v := 1) k_Rea_readProduct_38 rfl ?_
        refine g_zret k_Rea_readProduct_39 rfl (by decide) ?_
        exact (by cases e; exact hq)
      · rw [if_neg c] at e
        exact (t_Rea_readProduct_40 s F D0 rc_Rea_readSum hc_Rea_readSum rc_Rea_readTest hc_Rea_readTest rec_11 hr_11 x1 y4 m7 hq e hd)
    · rw [if_neg c] at e
      exact (t_Rea_readProduct_40 s F D0 rc_Rea_readSum hc_Rea_readSum rc_Rea_readTest hc_Rea_readTest rec_11 hr_11 x1 y4 m5 hq e hd)
def ll_Rea_readProduct_11 (F : Nat) (rc_Rea_readSum : aM → Option (Int32 × aM)) (rc_Rea_readTest : aM → Option (Int32 × aM)) : Nat → Int32 → aM → Option (Int32 × aM)
  | 0, _, _ => none
  | N + 1, x1, m => lb_Rea_readProduct_11 F rc_Rea_readSum rc_Rea_readTest (ll_Rea_readProduct_11 F rc_Rea_readSum rc_Rea_readTest N) x1 m
theorem t_Rea_readProduct_11 {K : aK} {d bc bs : Nat} {g : aG} (s : Sys g) {Q : aQ} {r : Int32} {m' : aM} (F : Nat) (D0 : Nat) (rc_Rea_readSum : aM → Option (Int32 × aM)) (hc_Rea_readSum : ∀ (d bc bs : Nat)  (m : aM) (r : Int32) (m' : aM), rc_Rea_readSum  m = some (r, m') → D0 ≤ d → Sp K M_Rea_readSum d bc bs [.ref 11] (g, m) (some (.int r)) (g, m')) (rc_Rea_readTest : aM → Option (Int32 × aM)) (hc_Rea_readTest : ∀ (d bc bs : Nat)  (m : aM) (r : Int32) (m' : aM), rc_Rea_readTest  m = some (r, m') → D0 ≤ d → Sp K M_Rea_readTest d bc bs [.ref 11] (g, m) (some (.int r)) (g, m')) : ∀ (N : Nat) (x1 : Int32) (m : aM), Q (.inl (some (.int r))) (g, m') → ll_Rea_readProduct_11 F rc_Rea_readSum rc_Rea_readTest N x1 m = some (r, m') → D0 + 14 ≤ d → G K M_Rea_readProduct d bc bs 11 [.ref 11, .int x1, .double 0] [] (g, m) Q
  | 0, _, _ => fun _ e => nomatch e
  | N + 1, x1, m => fun hq e hd => tb_Rea_readProduct_11 s F D0 rc_Rea_readSum hc_Rea_readSum rc_Rea_readTest hc_Rea_readTest (ll_Rea_readProduct_11 F rc_Rea_readSum rc_Rea_readTest N) (fun x1 m e => t_Rea_readProduct_11 s F D0 rc_Rea_readSum hc_Rea_readSum rc_Rea_readTest hc_Rea_readTest N x1 m hq e hd) x1 m hq e hd
def g_Rea_readProduct (F : Nat) (rc_Rea_readSum : aM → Option (Int32 × aM)) (rc_Rea_readTest : aM → Option (Int32 × aM))  (m : aM) : Option (Int32 × aM) :=
  o_b2 (g_Rea_readUnit F rc_Rea_readSum rc_Rea_readTest  m) fun y1 m2 =>
  (if y1 = 0 then
  some (0, m2)
  else
  ll_Rea_readProduct_11 F rc_Rea_readSum rc_Rea_readTest F 0 m2
  )
theorem sg_Rea_readProduct {K : aK} {d bc bs : Nat} {g : aG} (s : Sys g) (F : Nat) (D0 : Nat) (rc_Rea_readSum : aM → Option (Int32 × aM)) (hc_Rea_readSum : ∀ (d bc bs : Nat)  (m : aM) (r : Int32) (m' : aM), rc_Rea_readSum  m = some (r, m') → D0 ≤ d → Sp K M_Rea_readSum d bc bs [.ref 11] (g, m) (some (.int r)) (g, m')) (rc_Rea_readTest : aM → Option (Int32 × aM)) (hc_Rea_readTest : ∀ (d bc bs : Nat)  (m : aM) (r : Int32) (m' : aM), rc_Rea_readTest  m = some (r, m') → D0 ≤ d → Sp K M_Rea_readTest d bc bs [.ref 11] (g, m) (some (.int r)) (g, m'))  (m : aM) {r : Int32} {m' : aM} (e : g_Rea_readProduct F rc_Rea_readSum rc_Rea_readTest  m = some (r, m')) (hd : D0 + 14 ≤ d) : Sp K M_Rea_readProduct d bc bs [.ref 11] (g, m) (some (.int r)) (g, m') := by
  refine sp_of ok_Rea_readProduct rfl (Nat.le_of_ble_eq_true rfl) (by simp [Value.category]) (fun Q hq => ?_)
  unfold g_Rea_readProduct at e
  refine g_aload_n k_Rea_readProduct_0 rfl rfl ?_
  obtain ⟨y1, m2, e_y1, e⟩ := o_b2_ex e
  refine g_cv k_Rea_readProduct_1 lv_Rea_118 (by decide +kernel) (T := F_Rea) (N := 8) (ci := 5) rfl (sk_Rea s) (sg_Rea_readUnit (bc := 0) (bs := 0) s F D0 rc_Rea_readSum hc_Rea_readSum rc_Rea_readTest hc_Rea_readTest  m e_y1 (by omega)) rfl rfl (Nat.le_of_ble_eq_true rfl) (by simp [Value.category]) (by omega) (by omega) (by omega) ?_
  refine g_if_ne (tgt := 9) k_Rea_readProduct_4 (by decide) (fun c => ?_) (fun c => ?_)
  · rw [if_pos c] at e
    refine g_iconst (v := 0) k_Rea_readProduct_7 rfl ?_
    refine g_zret k_Rea_readProduct_8 rfl (by decide) ?_
    exact (by cases e; exact hq)
  · rw [if_neg c] at e
    refine g_iconst (v := 0) k_Rea_readProduct_9 rfl ?_
    refine g_istore_n k_Rea_readProduct_10 rfl (by decide) ?_
    exact (t_Rea_readProduct_11 s F D0 rc_Rea_readSum hc_Rea_readSum rc_Rea_readTest hc_Rea_readTest F 0 m2 hq e hd)
def b_Rea_readSum_74 (F : Nat) (rc_Rea_readSum : aM → Option (Int32 × aM)) (rc_Rea_readTest : aM → Option (Int32 × aM)) (rec_11 : Int32 → aM → Option (Int32 × aM)) (x1 : Int32) (xt0 : Int32) (m : aM) : Option (Int32 × aM) :=
  o_b2 (f_Len_addOrder 12 xt0 0 m) fun y1 m2 =>
  rec_11 (x1 + 1) m2
theorem t_Rea_readSum_74 {K : aK} {d bc bs : Nat} {g : aG} (s : Sys g) {Q : aQ} {r : Int32} {m' : aM} (F : Nat) (D0 : Nat) (rc_Rea_readSum : aM → Option (Int32 × aM)) (hc_Rea_readSum : ∀ (d bc bs : Nat)  (m : aM) (r : Int32) (m' : aM), rc_Rea_readSum  m = some (r, m') → D0 ≤ d → Sp K M_Rea_readSum d bc bs [.ref 11] (g, m) (some (.int r)) (g, m')) (rc_Rea_readTest : aM → Option (Int32 × aM)) (hc_Rea_readTest : ∀ (d bc bs : Nat)  (m : aM) (r : Int32) (m' : aM), rc_Rea_readTest  m = some (r, m') → D0 ≤ d → Sp K M_Rea_readTest d bc bs [.ref 11] (g, m) (some (.int r)) (g, m')) (rec_11 : Int32 → aM → Option (Int32 × aM)) (hr_11 : ∀ (x1 : Int32) (m : aM), rec_11 x1 m = some (r, m') → G K M_Rea_readSum d bc bs 11 [.ref 11, .int x1, .double 0] [] (g, m) Q) (x1 : Int32) (xt0 : Int32) (m : aM) (hq : Q (.inl (some (.int r))) (g, m')) (e : b_Rea_readSum_74 F rc_Rea_readSum rc_Rea_readTest rec_11 x1 xt0 m = some (r, m')) (hd : D0 + 16 ≤ d) : G K M_Rea_readSum d bc bs 74 [.ref 11, .int x1, .double 0] [.int xt0, .ref 12] (g, m) Q := by
  unfold b_Rea_readSum_74 at e
  refine g_iconst (v := 0) k_Rea_readSum_74 rfl ?_
  obtain ⟨y1, m2, e_y1, e⟩ := o_b2_ex e
  refine g_cv k_Rea_readSum_75 lv_Rea_115 (by decide +kernel) (T := F_Len) (N := 11) (ci := 2) rfl (sk_Len (sy_dra s)) (s_Len_addOrder (bc := 0) (bs := 0) s 12 (sy_dra s) xt0 0 m e_y1) rfl rfl (Nat.le_of_ble_eq_true rfl) (by simp [Value.category]) (by omega) (by omega) (by omega) ?_
  refine g_pop k_Rea_readSum_78 rfl ?_
  refine g_iinc (v := _ + 1) k_Rea_readSum_79 rfl rfl (by decide) ?_
  refine g_goto (tgt := 11) k_Rea_readSum_82 (by decide) ?_
  exact (hr_11 (x1 + 1) m2 e)
def b_Rea_readSum_40 (F : Nat) (rc_Rea_readSum : aM → Option (Int32 × aM)) (rc_Rea_readTest : aM → Option (Int32 × aM)) (rec_11 : Int32 → aM → Option (Int32 × aM)) (x1 : Int32) (x2 : Int32) (m : aM) : Option (Int32 × aM) :=
  o_let (a_st m 11 2 ((m 11 2) + 1)) fun m1 =>
  o_b2 (g_Rea_readProduct F rc_Rea_readSum rc_Rea_readTest  m1) fun y2 m3 =>
  (if y2 = 0 then
  some (0, m3)
  else
  (if x2 = 0 then
  b_Rea_readSum_74 F rc_Rea_readSum rc_Rea_readTest rec_11 x1 7 m3
  else
  b_Rea_readSum_74 F rc_Rea_readSum rc_Rea_readTest rec_11 x1 6 m3
  )
  )
theorem t_Rea_readSum_40 {K : aK} {d bc bs : Nat} {g : aG} (s : Sys g) {Q : aQ} {r : Int32} {m' : aM} (F : Nat) (D0 : Nat) (rc_Rea_readSum : aM → Option (Int32 × aM)) (hc_Rea_readSum : ∀ (d bc bs : Nat)  (m : aM) (r : Int32) (m' : aM), rc_Rea_readSum  m = some (r, m') → D0 ≤ d → Sp K M_Rea_readSum d bc bs [.ref 11] (g, m) (some (.int r)) (g, m')) (rc_Rea_readTest : aM → Option (Int32 × aM)) (hc_Rea_readTest : ∀ (d bc bs : Nat)  (m : aM) (r : Int32) (m' : aM), rc_Rea_readTest  m = some (r, m') → D0 ≤ d → Sp K M_Rea_readTest d bc bs [.ref 11] (g, m) (some (.int r)) (g, m')) (rec_11 : Int32 → aM → Option (Int32 × aM)) (hr_11 : ∀ (x1 : Int32) (m : aM), rec_11 x1 m = some (r, m') → G K M_Rea_readSum d bc bs 11 [.ref 11, .int x1, .double 0] [] (g, m) Q) (x1 : Int32) (x2 : Int32) (m : aM) (hq : Q (.inl (some (.int r))) (g, m')) (e : b_Rea_readSum_40 F rc_Rea_readSum rc_Rea_readTest rec_11 x1 x2 m = some (r, m')) (hd : D0 + 16 ≤ d) : G K M_Rea_readSum d bc bs 40 [.ref 11, .int x1, .int x2] [] (g, m) Q := by
  unfold b_Rea_readSum_40 at e
  refine g_aload_n k_Rea_readSum_40 rfl rfl ?_
  refine g_dup k_Rea_readSum_41 rfl ?_
  refine p_geti k_Rea_readSum_42 fl_Rea_29 rfl (sk_Rea s) (by decide) ?_
  refine g_iconst (v := 1) k_Rea_readSum_45 rfl ?_
  refine g_iadd k_Rea_readSum_46 ?_
  refine p_puti k_Rea_readSum_47 fl_Rea_29 rfl ⟨R_Rea, F_Rea, 8, rfl, Or.inl rfl⟩ (sk_Rea s) (by decide) ?_
  obtain ⟨m1, u_m1, e⟩ := o_let_ex e
  refine G.hm u_m1 ?_
  refine g_aload_n k_Rea_readSum_50 rfl rfl ?_
  obtain ⟨y2, m3, e_y2, e⟩ := o_b2_ex e
  refine g_cv k_Rea_readSum_51 lv_Rea_109 (by decide +kernel) (T := F_Rea) (N := 8) (ci := 5) rfl (sk_Rea s) (sg_Rea_readProduct (bc := 0) (bs := 0) s F D0 rc_Rea_readSum hc_Rea_readSum rc_Rea_readTest hc_Rea_readTest  m1 e_y2 (by omega)) rfl rfl (Nat.le_of_ble_eq_true rfl) (by simp [Value.category]) (by omega) (by omega) (by omega) ?_
  refine g_if_ne (tgt := 59) k_Rea_readSum_54 (by decide) (fun c => ?_) (fun c => ?_)
  · rw [if_pos c] at e
    refine g_iconst (v := 0) k_Rea_readSum_57 rfl ?_
    refine g_zret k_Rea_readSum_58 rfl (by decide) ?_
    exact (by cases e; exact hq)
  · rw [if_neg c] at e
    refine g_aload_n k_Rea_readSum_59 rfl rfl ?_
    refine p_getr k_Rea_readSum_60 fl_Rea_15 rfl (sk_Rea s) (by decide) (sr_Rea_5 s) ?_
    refine g_iload_n k_Rea_readSum_63 rfl rfl ?_
    refine g_if_eq (tgt := 72) k_Rea_readSum_64 (by decide) (fun c => ?_) (fun c => ?_)
    · rw [if_pos c] at e
      refine g_bipush (v := 7) k_Rea_readSum_72 rfl ?_
      exact G.wl (wls (wls (wld wl0))) (t_Rea_readSum_74 s F D0 rc_Rea_readSum hc_Rea_readSum rc_Rea_readTest hc_Rea_readTest rec_11 hr_11 x1 7 m3 hq e hd)
    · rw [if_neg c] at e
      refine g_bipush (v := 6) k_Rea_readSum_67 rfl ?_
      refine g_goto (tgt := 74) k_Rea_readSum_69 (by decide) ?_
      exact G.wl (wls (wls (wld wl0))) (t_Rea_readSum_74 s F D0 rc_Rea_readSum hc_Rea_readSum rc_Rea_readTest hc_Rea_readTest rec_11 hr_11 x1 6 m3 hq e hd)
def lb_Rea_readSum_11 (F : Nat) (rc_Rea_readSum : aM → Option (Int32 × aM)) (rc_Rea_readTest : aM → Option (Int32 × aM)) (rec_11 : Int32 → aM → Option (Int32 × aM)) (x1 : Int32) (m : aM) : Option (Int32 × aM) :=
  (if 400 ≤ x1 then
  o_b2 (f_Rea_fail 1 m) fun y1 m2 =>
  o_gd (isb y1) <|
  some (y1, m2)
  else
  o_b2 (f_Rea_isSign F 43 m) fun y4 m5 =>
  (if y4 = 0 then
  o_b2 (f_Rea_isSign F 45 m5) fun y6 m7 =>
  (if y6 = 0 then
  some (1, m7)
  else
  b_Rea_readSum_40 F rc_Rea_readSum rc_Rea_readTest rec_11 x1 y4 m7
  )
  else
  b_Rea_readSum_40 F rc_Rea_readSum rc_Rea_readTest rec_11 x1 y4 m5
  )
  )
theorem tb_Rea_readSum_11 {K : aK} {d bc bs : Nat} {g : aG} (s : Sys g) {Q : aQ} {r : Int32} {m' : aM} (F : Nat) (D0 : Nat) (rc_Rea_readSum : aM → Option (Int32 × aM)) (hc_Rea_readSum : ∀ (d bc bs : Nat)  (m : aM) (r : Int32) (m' : aM), rc_Rea_readSum  m = some (r, m') → D0 ≤ d → Sp K M_Rea_readSum d bc bs [.ref 11] (g, m) (some (.int r)) (g, m')) (rc_Rea_readTest : aM → Option (Int32 × aM)) (hc_Rea_readTest : ∀ (d bc bs : Nat)  (m : aM) (r : Int32) (m' : aM), rc_Rea_readTest  m = some (r, m') → D0 ≤ d → Sp K M_Rea_readTest d bc bs [.ref 11] (g, m) (some (.int r)) (g, m')) (rec_11 : Int32 → aM → Option (Int32 × aM)) (hr_11 : ∀ (x1 : Int32) (m : aM), rec_11 x1 m = some (r, m') → G K M_Rea_readSum d bc bs 11 [.ref 11, .int x1, .double 0] [] (g, m) Q) (x1 : Int32) (m : aM) (hq : Q (.inl (some (.int r))) (g, m')) (e : lb_Rea_readSum_11 F rc_Rea_readSum rc_Rea_readTest rec_11 x1 m = some (r, m')) (hd : D0 + 16 ≤ d) : G K M_Rea_readSum d bc bs 11 [.ref 11, .int x1, .double 0] [] (g, m) Q := by
  unfold lb_Rea_readSum_11 at e
  refine g_iload_n k_Rea_readSum_11 rfl rfl ?_
  refine g_sipush (v := 400) k_Rea_readSum_12 rfl ?_
  refine g_icmp_ge (tgt := 85) k_Rea_readSum_15 (by decide) (fun c => ?_) (fun c => ?_)
  · rw [if_pos c] at e
    refine g_aload_n k_Rea_readSum_85 rfl rfl ?_
    refine g_iconst (v := 1) k_Rea_readSum_86 rfl ?_
    obtain ⟨y1, m2, e_y1, e⟩ := o_b2_ex e
    refine g_cv k_Rea_readSum_87 lv_Rea_53 (by decide +kernel) (T := F_Rea) (N := 8) (ci := 5) rfl (sk_Rea s) (s_Rea_fail (bc := 0) (bs := 0) s 1 m e_y1) rfl rfl (Nat.le_of_ble_eq_true rfl) (by simp [Value.category]) (by omega) (by omega) (by omega) ?_
    obtain ⟨q3, e⟩ := o_gd_ex e
    refine g_zret k_Rea_readSum_90 rfl (isb_or q3) ?_
    exact (by cases e; exact hq)
  · rw [if_neg c] at e
    refine g_aload_n k_Rea_readSum_18 rfl rfl ?_
    refine g_bipush (v := 43) k_Rea_readSum_19 rfl ?_
    obtain ⟨y4, m5, e_y4, e⟩ := o_b2_ex e
    refine g_cv k_Rea_readSum_21 lv_Rea_112 (by decide +kernel) (T := F_Rea) (N := 8) (ci := 5) rfl (sk_Rea s) (s_Rea_isSign (bc := 0) (bs := 0) s F 43 m e_y4 (by omega)) rfl rfl (Nat.le_of_ble_eq_true rfl) (by simp [Value.category]) (by omega) (by omega) (by omega) ?_
    refine g_istore_n k_Rea_readSum_24 rfl (by decide) ?_
    refine g_iload_n k_Rea_readSum_25 rfl rfl ?_
    refine g_if_ne (tgt := 40) k_Rea_readSum_26 (by decide) (fun c => ?_) (fun c => ?_)
    · rw [if_pos c] at e
      refine g_aload_n k_Rea_readSum_29 rfl rfl ?_
      refine g_bipush (v := 45) k_Rea_readSum_30 rfl ?_
      obtain ⟨y6, m7, e_y6, e⟩ := o_b2_ex e
      refine g_cv k_Rea_readSum_32 lv_Rea_112 (by decide +kernel) (T := F_Rea) (N := 8) (ci := 5) rfl (sk_Rea s) (s_Rea_isSign (bc := 0) (bs := 0) s F 45 m5 e_y6 (by omega)) rfl rfl (Nat.le_of_ble_eq_true rfl) (by simp [Value.category]) (by omega) (by omega) (by omega) ?_
      refine g_if_ne (tgt := 40) k_Rea_readSum_35 (by decide) (fun c => ?_) (fun c => ?_)
      · rw [if_pos c] at e
        refine g_iconst (v := 1) k_Rea_readSum_38 rfl ?_
        refine g_zret k_Rea_readSum_39 rfl (by decide) ?_
        exact (by cases e; exact hq)
      · rw [if_neg c] at e
        exact (t_Rea_readSum_40 s F D0 rc_Rea_readSum hc_Rea_readSum rc_Rea_readTest hc_Rea_readTest rec_11 hr_11 x1 y4 m7 hq e hd)
    · rw [if_neg c] at e
      exact (t_Rea_readSum_40 s F D0 rc_Rea_readSum hc_Rea_readSum rc_Rea_readTest hc_Rea_readTest rec_11 hr_11 x1 y4 m5 hq e hd)
def ll_Rea_readSum_11 (F : Nat) (rc_Rea_readSum : aM → Option (Int32 × aM)) (rc_Rea_readTest : aM → Option (Int32 × aM)) : Nat → Int32 → aM → Option (Int32 × aM)
  | 0, _, _ => none
  | N + 1, x1, m => lb_Rea_readSum_11 F rc_Rea_readSum rc_Rea_readTest (ll_Rea_readSum_11 F rc_Rea_readSum rc_Rea_readTest N) x1 m
theorem t_Rea_readSum_11 {K : aK} {d bc bs : Nat} {g : aG} (s : Sys g) {Q : aQ} {r : Int32} {m' : aM} (F : Nat) (D0 : Nat) (rc_Rea_readSum : aM → Option (Int32 × aM)) (hc_Rea_readSum : ∀ (d bc bs : Nat)  (m : aM) (r : Int32) (m' : aM), rc_Rea_readSum  m = some (r, m') → D0 ≤ d → Sp K M_Rea_readSum d bc bs [.ref 11] (g, m) (some (.int r)) (g, m')) (rc_Rea_readTest : aM → Option (Int32 × aM)) (hc_Rea_readTest : ∀ (d bc bs : Nat)  (m : aM) (r : Int32) (m' : aM), rc_Rea_readTest  m = some (r, m') → D0 ≤ d → Sp K M_Rea_readTest d bc bs [.ref 11] (g, m) (some (.int r)) (g, m')) : ∀ (N : Nat) (x1 : Int32) (m : aM), Q (.inl (some (.int r))) (g, m') → ll_Rea_readSum_11 F rc_Rea_readSum rc_Rea_readTest N x1 m = some (r, m') → D0 + 16 ≤ d → G K M_Rea_readSum d bc bs 11 [.ref 11, .int x1, .double 0] [] (g, m) Q
  | 0, _, _ => fun _ e => nomatch e
  | N + 1, x1, m => fun hq e hd => tb_Rea_readSum_11 s F D0 rc_Rea_readSum hc_Rea_readSum rc_Rea_readTest hc_Rea_readTest (ll_Rea_readSum_11 F rc_Rea_readSum rc_Rea_readTest N) (fun x1 m e => t_Rea_readSum_11 s F D0 rc_Rea_readSum hc_Rea_readSum rc_Rea_readTest hc_Rea_readTest N x1 m hq e hd) x1 m hq e hd
def g_Rea_readSum (F : Nat) (rc_Rea_readSum : aM → Option (Int32 × aM)) (rc_Rea_readTest : aM → Option (Int32 × aM))  (m : aM) : Option (Int32 × aM) :=
  o_b2 (g_Rea_readProduct F rc_Rea_readSum rc_Rea_readTest  m) fun y1 m2 =>
  (if y1 = 0 then
  some (0, m2)
  else
  ll_Rea_readSum_11 F rc_Rea_readSum rc_Rea_readTest F 0 m2
  )
theorem sg_Rea_readSum {K : aK} {d bc bs : Nat} {g : aG} (s : Sys g) (F : Nat) (D0 : Nat) (rc_Rea_readSum : aM → Option (Int32 × aM)) (hc_Rea_readSum : ∀ (d bc bs : Nat)  (m : aM) (r : Int32) (m' : aM), rc_Rea_readSum  m = some (r, m') → D0 ≤ d → Sp K M_Rea_readSum d bc bs [.ref 11] (g, m) (some (.int r)) (g, m')) (rc_Rea_readTest : aM → Option (Int32 × aM)) (hc_Rea_readTest : ∀ (d bc bs : Nat)  (m : aM) (r : Int32) (m' : aM), rc_Rea_readTest  m = some (r, m') → D0 ≤ d → Sp K M_Rea_readTest d bc bs [.ref 11] (g, m) (some (.int r)) (g, m'))  (m : aM) {r : Int32} {m' : aM} (e : g_Rea_readSum F rc_Rea_readSum rc_Rea_readTest  m = some (r, m')) (hd : D0 + 16 ≤ d) : Sp K M_Rea_readSum d bc bs [.ref 11] (g, m) (some (.int r)) (g, m') := by
  refine sp_of ok_Rea_readSum rfl (Nat.le_of_ble_eq_true rfl) (by simp [Value.category]) (fun Q hq => ?_)
  unfold g_Rea_readSum at e
  refine g_aload_n k_Rea_readSum_0 rfl rfl ?_
  obtain ⟨y1, m2, e_y1, e⟩ := o_b2_ex e
  refine g_cv k_Rea_readSum_1 lv_Rea_109 (by decide +kernel) (T := F_Rea) (N := 8) (ci := 5) rfl (sk_Rea s) (sg_Rea_readProduct (bc := 0) (bs := 0) s F D0 rc_Rea_readSum hc_Rea_readSum rc_Rea_readTest hc_Rea_readTest  m e_y1 (by omega)) rfl rfl (Nat.le_of_ble_eq_true rfl) (by simp [Value.category]) (by omega) (by omega) (by omega) ?_
  refine g_if_ne (tgt := 9) k_Rea_readSum_4 (by decide) (fun c => ?_) (fun c => ?_)
  · rw [if_pos c] at e
    refine g_iconst (v := 0) k_Rea_readSum_7 rfl ?_
    refine g_zret k_Rea_readSum_8 rfl (by decide) ?_
    exact (by cases e; exact hq)
  · rw [if_neg c] at e
    refine g_iconst (v := 0) k_Rea_readSum_9 rfl ?_
    refine g_istore_n k_Rea_readSum_10 rfl (by decide) ?_
    exact (t_Rea_readSum_11 s F D0 rc_Rea_readSum hc_Rea_readSum rc_Rea_readTest hc_Rea_readTest F 0 m2 hq e hd)
def b_Rea_readComparison_60 (F : Nat) (rc_Rea_readSum : aM → Option (Int32 × aM)) (rc_Rea_readTest : aM → Option (Int32 × aM)) (x1 : Int32) (m : aM) : Option (Int32 × aM) :=
  o_let (a_st m 11 2 ((m 11 2) + 1)) fun m1 =>
  o_b2 (rc_Rea_readSum  m1) fun y2 m3 =>
  (if y2 = 0 then
  some (0, m3)
  else
  o_b2 (f_Len_addOrder 12 x1 0 m3) fun y4 m5 =>
  some (1, m5)
  )
theorem t_Rea_readComparison_60 {K : aK} {d bc bs : Nat} {g : aG} (s : Sys g) {Q : aQ} {r : Int32} {m' : aM} (F : Nat) (D0 : Nat) (rc_Rea_readSum : aM → Option (Int32 × aM)) (hc_Rea_readSum : ∀ (d bc bs : Nat)  (m : aM) (r : Int32) (m' : aM), rc_Rea_readSum  m = some (r, m') → D0 ≤ d → Sp K M_Rea_readSum d bc bs [.ref 11] (g, m) (some (.int r)) (g, m')) (rc_Rea_readTest : aM → Option (Int32 × aM)) (hc_Rea_readTest : ∀ (d bc bs : Nat)  (m : aM) (r : Int32) (m' : aM), rc_Rea_readTest  m = some (r, m') → D0 ≤ d → Sp K M_Rea_readTest d bc bs [.ref 11] (g, m) (some (.int r)) (g, m')) (x1 : Int32) (m : aM) (hq : Q (.inl (some (.int r))) (g, m')) (e : b_Rea_readComparison_60 F rc_Rea_readSum rc_Rea_readTest x1 m = some (r, m')) (hd : D0 + 3 ≤ d) : G K M_Rea_readComparison d bc bs 60 [.ref 11, .int x1] [] (g, m) Q := by
  unfold b_Rea_readComparison_60 at e
  refine g_aload_n k_Rea_readComparison_60 rfl rfl ?_
  refine g_dup k_Rea_readComparison_61 rfl ?_
  refine p_geti k_Rea_readComparison_62 fl_Rea_29 rfl (sk_Rea s) (by decide) ?_
  refine g_iconst (v := 1) k_Rea_readComparison_65 rfl ?_
  refine g_iadd k_Rea_readComparison_66 ?_
  refine p_puti k_Rea_readComparison_67 fl_Rea_29 rfl ⟨R_Rea, F_Rea, 8, rfl, Or.inl rfl⟩ (sk_Rea s) (by decide) ?_
  obtain ⟨m1, u_m1, e⟩ := o_let_ex e
  refine G.hm u_m1 ?_
  refine g_aload_n k_Rea_readComparison_70 rfl rfl ?_
  obtain ⟨y2, m3, e_y2, e⟩ := o_b2_ex e
  refine g_cv k_Rea_readComparison_71 lv_Rea_102 (by decide +kernel) (T := F_Rea) (N := 8) (ci := 5) rfl (sk_Rea s) (hc_Rea_readSum _ 0 0  m1 _ _ e_y2 (by omega)) rfl rfl (Nat.le_of_ble_eq_true rfl) (by simp [Value.category]) (by omega) (by omega) (by omega) ?_
  refine g_if_ne (tgt := 79) k_Rea_readComparison_74 (by decide) (fun c => ?_) (fun c => ?_)
  · rw [if_pos c] at e
    refine g_iconst (v := 0) k_Rea_readComparison_77 rfl ?_
    refine g_zret k_Rea_readComparison_78 rfl (by decide) ?_
    exact (by cases e; exact hq)
  · rw [if_neg c] at e
    refine g_aload_n k_Rea_readComparison_79 rfl rfl ?_
    refine p_getr k_Rea_readComparison_80 fl_Rea_15 rfl (sk_Rea s) (by decide) (sr_Rea_5 s) ?_
    refine g_iload_n k_Rea_readComparison_83 rfl rfl ?_
    refine g_iconst (v := 0) k_Rea_readComparison_84 rfl ?_
    obtain ⟨y4, m5, e_y4, e⟩ := o_b2_ex e
    refine g_cv k_Rea_readComparison_85 lv_Rea_115 (by decide +kernel) (T := F_Len) (N := 11) (ci := 2) rfl (sk_Len (sy_dra s)) (s_Len_addOrder (bc := 0) (bs := 0) s 12 (sy_dra s) x1 0 m3 e_y4) rfl rfl (Nat.le_of_ble_eq_true rfl) (by simp [Value.category]) (by omega) (by omega) (by omega) ?_
    refine g_pop k_Rea_readComparison_88 rfl ?_
    refine g_iconst (v := 1) k_Rea_readComparison_89 rfl ?_
    refine g_zret k_Rea_readComparison_90 rfl (by decide) ?_
    exact (by cases e; exact hq)
def g_Rea_readComparison (F : Nat) (rc_Rea_readSum : aM → Option (Int32 × aM)) (rc_Rea_readTest : aM → Option (Int32 × aM))  (m : aM) : Option (Int32 × aM) :=
  o_b2 (rc_Rea_readSum  m) fun y1 m2 =>
  (if y1 = 0 then
  some (0, m2)
  else
  o_b2 (f_Rea_isSign F 60 m2) fun y3 m4 =>
  (if y3 = 0 then
  o_b2 (f_Rea_isSign F 62 m4) fun y5 m6 =>
  (if y5 = 0 then
  o_b2 (f_Rea_isSign F 61 m6) fun y7 m8 =>
  (if y7 = 0 then
  o_b2 (f_Rea_fail 1 m8) fun y9 m10 =>
  o_gd (isb y9) <|
  some (y9, m10)
  else
  b_Rea_readComparison_60 F rc_Rea_readSum rc_Rea_readTest 14 m8
  )
  else
  b_Rea_readComparison_60 F rc_Rea_readSum rc_Rea_readTest 13 m6
  )
  else
  b_Rea_readComparison_60 F rc_Rea_readSum rc_Rea_readTest 12 m4
  )
  )
theorem sg_Rea_readComparison {K : aK} {d bc bs : Nat} {g : aG} (s : Sys g) (F : Nat) (D0 : Nat) (rc_Rea_readSum : aM → Option (Int32 × aM)) (hc_Rea_readSum : ∀ (d bc bs : Nat)  (m : aM) (r : Int32) (m' : aM), rc_Rea_readSum  m = some (r, m') → D0 ≤ d → Sp K M_Rea_readSum d bc bs [.ref 11] (g, m) (some (.int r)) (g, m')) (rc_Rea_readTest : aM → Option (Int32 × aM)) (hc_Rea_readTest : ∀ (d bc bs : Nat)  (m : aM) (r : Int32) (m' : aM), rc_Rea_readTest  m = some (r, m') → D0 ≤ d → Sp K M_Rea_readTest d bc bs [.ref 11] (g, m) (some (.int r)) (g, m'))  (m : aM) {r : Int32} {m' : aM} (e : g_Rea_readComparison F rc_Rea_readSum rc_Rea_readTest  m = some (r, m')) (hd : D0 + 3 ≤ d) : Sp K M_Rea_readComparison d bc bs [.ref 11] (g, m) (some (.int r)) (g, m') := by
  refine sp_of ok_Rea_readComparison rfl (Nat.le_of_ble_eq_true rfl) (by simp [Value.category]) (fun Q hq => ?_)
  unfold g_Rea_readComparison at e
  refine g_aload_n k_Rea_readComparison_0 rfl rfl ?_
  obtain ⟨y1, m2, e_y1, e⟩ := o_b2_ex e
  refine g_cv k_Rea_readComparison_1 lv_Rea_102 (by decide +kernel) (T := F_Rea) (N := 8) (ci := 5) rfl (sk_Rea s) (hc_Rea_readSum _ 0 0  m _ _ e_y1 (by omega)) rfl rfl (Nat.le_of_ble_eq_true rfl) (by simp [Value.category]) (by omega) (by omega) (by omega) ?_
  refine g_if_ne (tgt := 9) k_Rea_readComparison_4 (by decide) (fun c => ?_) (fun c => ?_)
  · rw [if_pos c] at e
    refine g_iconst (v := 0) k_Rea_readComparison_7 rfl ?_
    refine g_zret k_Rea_readComparison_8 rfl (by decide) ?_
    exact (by cases e; exact hq)
  · rw [if_neg c] at e
    refine g_aload_n k_Rea_readComparison_9 rfl rfl ?_
    refine g_bipush (v := 60) k_Rea_readComparison_10 rfl ?_
    obtain ⟨y3, m4, e_y3, e⟩ := o_b2_ex e
    refine g_cv k_Rea_readComparison_12 lv_Rea_112 (by decide +kernel) (T := F_Rea) (N := 8) (ci := 5) rfl (sk_Rea s) (s_Rea_isSign (bc := 0) (bs := 0) s F 60 m2 e_y3 (by omega)) rfl rfl (Nat.le_of_ble_eq_true rfl) (by simp [Value.category]) (by omega) (by omega) (by omega) ?_
    refine g_if_eq (tgt := 24) k_Rea_readComparison_15 (by decide) (fun c => ?_) (fun c => ?_)
    · rw [if_pos c] at e
      refine g_aload_n k_Rea_readComparison_24 rfl rfl ?_
      refine g_bipush (v := 62) k_Rea_readComparison_25 rfl ?_
      obtain ⟨y5, m6, e_y5, e⟩ := o_b2_ex e
      refine g_cv k_Rea_readComparison_27 lv_Rea_112 (by decide +kernel) (T := F_Rea) (N := 8) (ci := 5) rfl (sk_Rea s) (s_Rea_isSign (bc := 0) (bs := 0) s F 62 m4 e_y5 (by omega)) rfl rfl (Nat.le_of_ble_eq_true rfl) (by simp [Value.category]) (by omega) (by omega) (by omega) ?_
      refine g_if_eq (tgt := 39) k_Rea_readComparison_30 (by decide) (fun c => ?_) (fun c => ?_)
      · rw [if_pos c] at e
        refine g_aload_n k_Rea_readComparison_39 rfl rfl ?_
        refine g_bipush (v := 61) k_Rea_readComparison_40 rfl ?_
        obtain ⟨y7, m8, e_y7, e⟩ := o_b2_ex e
        refine g_cv k_Rea_readComparison_42 lv_Rea_112 (by decide +kernel) (T := F_Rea) (N := 8) (ci := 5) rfl (sk_Rea s) (s_Rea_isSign (bc := 0) (bs := 0) s F 61 m6 e_y7 (by omega)) rfl rfl (Nat.le_of_ble_eq_true rfl) (by simp [Value.category]) (by omega) (by omega) (by omega) ?_
        refine g_if_eq (tgt := 54) k_Rea_readComparison_45 (by decide) (fun c => ?_) (fun c => ?_)
        · rw [if_pos c] at e
          refine g_aload_n k_Rea_readComparison_54 rfl rfl ?_
          refine g_iconst (v := 1) k_Rea_readComparison_55 rfl ?_
          obtain ⟨y9, m10, e_y9, e⟩ := o_b2_ex e
          refine g_cv k_Rea_readComparison_56 lv_Rea_53 (by decide +kernel) (T := F_Rea) (N := 8) (ci := 5) rfl (sk_Rea s) (s_Rea_fail (bc := 0) (bs := 0) s 1 m8 e_y9) rfl rfl (Nat.le_of_ble_eq_true rfl) (by simp [Value.category]) (by omega) (by omega) (by omega) ?_
          obtain ⟨q11, e⟩ := o_gd_ex e
          refine g_zret k_Rea_readComparison_59 rfl (isb_or q11) ?_
          exact (by cases e; exact hq)
        · rw [if_neg c] at e
          refine g_bipush (v := 14) k_Rea_readComparison_48 rfl ?_
          refine g_istore_n k_Rea_readComparison_50 rfl (by decide) ?_
          refine g_goto (tgt := 60) k_Rea_readComparison_51 (by decide) ?_
          exact (t_Rea_readComparison_60 s F D0 rc_Rea_readSum hc_Rea_readSum rc_Rea_readTest hc_Rea_readTest 14 m8 hq e hd)
      · rw [if_neg c] at e
        refine g_bipush (v := 13) k_Rea_readComparison_33 rfl ?_
        refine g_istore_n k_Rea_readComparison_35 rfl (by decide) ?_
        refine g_goto (tgt := 60) k_Rea_readComparison_36 (by decide) ?_
        exact (t_Rea_readComparison_60 s F D0 rc_Rea_readSum hc_Rea_readSum rc_Rea_readTest hc_Rea_readTest 13 m6 hq e hd)
    · rw [if_neg c] at e
      refine g_bipush (v := 12) k_Rea_readComparison_18 rfl ?_
      refine g_istore_n k_Rea_readComparison_20 rfl (by decide) ?_
      refine g_goto (tgt := 60) k_Rea_readComparison_21 (by decide) ?_
      exact (t_Rea_readComparison_60 s F D0 rc_Rea_readSum hc_Rea_readSum rc_Rea_readTest hc_Rea_readTest 12 m4 hq e hd)
def g_Rea_readNot (F : Nat) (rc_Rea_readSum : aM → Option (Int32 × aM)) (rc_Rea_readTest : aM → Option (Int32 × aM))  (m : aM) : Option (Int32 × aM) :=
  (if (m 11 3) < 6 then
  o_let (a_st m 11 3 ((m 11 3) + 1)) fun m1 =>
  o_let (a_st m1 11 2 ((m1 11 2) + 3)) fun m2 =>
  o_b2 (rc_Rea_readTest  m2) fun y3 m4 =>
  (if y3 = 0 then
  some (0, m4)
  else
  o_let (a_st m4 11 3 ((m4 11 3) - 1)) fun m5 =>
  o_b2 (f_Len_addOrder 12 5 0 m5) fun y6 m7 =>
  some (1, m7)
  )
  else
  o_b2 (f_Rea_fail 3 m) fun y8 m9 =>
  o_gd (isb y8) <|
  some (y8, m9)
  )
theorem sg_Rea_readNot {K : aK} {d bc bs : Nat} {g : aG} (s : Sys g) (F : Nat) (D0 : Nat) (rc_Rea_readSum : aM → Option (Int32 × aM)) (hc_Rea_readSum : ∀ (d bc bs : Nat)  (m : aM) (r : Int32) (m' : aM), rc_Rea_readSum  m = some (r, m') → D0 ≤ d → Sp K M_Rea_readSum d bc bs [.ref 11] (g, m) (some (.int r)) (g, m')) (rc_Rea_readTest : aM → Option (Int32 × aM)) (hc_Rea_readTest : ∀ (d bc bs : Nat)  (m : aM) (r : Int32) (m' : aM), rc_Rea_readTest  m = some (r, m') → D0 ≤ d → Sp K M_Rea_readTest d bc bs [.ref 11] (g, m) (some (.int r)) (g, m'))  (m : aM) {r : Int32} {m' : aM} (e : g_Rea_readNot F rc_Rea_readSum rc_Rea_readTest  m = some (r, m')) (hd : D0 + 2 ≤ d) : Sp K M_Rea_readNot d bc bs [.ref 11] (g, m) (some (.int r)) (g, m') := by
  refine sp_of ok_Rea_readNot rfl (Nat.le_of_ble_eq_true rfl) (by simp [Value.category]) (fun Q hq => ?_)
  unfold g_Rea_readNot at e
  refine g_aload_n k_Rea_readNot_0 rfl rfl ?_
  refine p_geti k_Rea_readNot_1 fl_Rea_32 rfl (sk_Rea s) (by decide) ?_
  refine g_bipush (v := 6) k_Rea_readNot_4 rfl ?_
  refine g_icmp_lt (tgt := 15) k_Rea_readNot_6 (by decide) (fun c => ?_) (fun c => ?_)
  · rw [if_pos c] at e
    refine g_aload_n k_Rea_readNot_15 rfl rfl ?_
    refine g_dup k_Rea_readNot_16 rfl ?_
    refine p_geti k_Rea_readNot_17 fl_Rea_32 rfl (sk_Rea s) (by decide) ?_
    refine g_iconst (v := 1) k_Rea_readNot_20 rfl ?_
    refine g_iadd k_Rea_readNot_21 ?_
    refine p_puti k_Rea_readNot_22 fl_Rea_32 rfl ⟨R_Rea, F_Rea, 8, rfl, Or.inl rfl⟩ (sk_Rea s) (by decide) ?_
    obtain ⟨m1, u_m1, e⟩ := o_let_ex e
    refine G.hm u_m1 ?_
    refine g_aload_n k_Rea_readNot_25 rfl rfl ?_
    refine g_dup k_Rea_readNot_26 rfl ?_
    refine p_geti k_Rea_readNot_27 fl_Rea_29 rfl (sk_Rea s) (by decide) ?_
    refine g_iconst (v := 3) k_Rea_readNot_30 rfl ?_
    refine g_iadd k_Rea_readNot_31 ?_
    refine p_puti k_Rea_readNot_32 fl_Rea_29 rfl ⟨R_Rea, F_Rea, 8, rfl, Or.inl rfl⟩ (sk_Rea s) (by decide) ?_
    obtain ⟨m2, u_m2, e⟩ := o_let_ex e
    refine G.hm u_m2 ?_
    refine g_aload_n k_Rea_readNot_35 rfl rfl ?_
    obtain ⟨y3, m4, e_y3, e⟩ := o_b2_ex e
    refine g_cv k_Rea_readNot_36 lv_Rea_160 (by decide +kernel) (T := F_Rea) (N := 8) (ci := 5) rfl (sk_Rea s) (hc_Rea_readTest _ 0 0  m2 _ _ e_y3 (by omega)) rfl rfl (Nat.le_of_ble_eq_true rfl) (by simp [Value.category]) (by omega) (by omega) (by omega) ?_
    refine g_if_ne (tgt := 44) k_Rea_readNot_39 (by decide) (fun c => ?_) (fun c => ?_)
    · rw [if_pos c] at e
      refine g_iconst (v := 0) k_Rea_readNot_42 rfl ?_
      refine g_zret k_Rea_readNot_43 rfl (by decide) ?_
      exact (by cases e; exact hq)
    · rw [if_neg c] at e
      refine g_aload_n k_Rea_readNot_44 rfl rfl ?_
      refine g_dup k_Rea_readNot_45 rfl ?_
      refine p_geti k_Rea_readNot_46 fl_Rea_32 rfl (sk_Rea s) (by decide) ?_
      refine g_iconst (v := 1) k_Rea_readNot_49 rfl ?_
      refine g_isub k_Rea_readNot_50 ?_
      refine p_puti k_Rea_readNot_51 fl_Rea_32 rfl ⟨R_Rea, F_Rea, 8, rfl, Or.inl rfl⟩ (sk_Rea s) (by decide) ?_
      obtain ⟨m5, u_m5, e⟩ := o_let_ex e
      refine G.hm u_m5 ?_
      refine g_aload_n k_Rea_readNot_54 rfl rfl ?_
      refine p_getr k_Rea_readNot_55 fl_Rea_15 rfl (sk_Rea s) (by decide) (sr_Rea_5 s) ?_
      refine g_iconst (v := 5) k_Rea_readNot_58 rfl ?_
      refine g_iconst (v := 0) k_Rea_readNot_59 rfl ?_
      obtain ⟨y6, m7, e_y6, e⟩ := o_b2_ex e
      refine g_cv k_Rea_readNot_60 lv_Rea_115 (by decide +kernel) (T := F_Len) (N := 11) (ci := 2) rfl (sk_Len (sy_dra s)) (s_Len_addOrder (bc := 0) (bs := 0) s 12 (sy_dra s) 5 0 m5 e_y6) rfl rfl (Nat.le_of_ble_eq_true rfl) (by simp [Value.category]) (by omega) (by omega) (by omega) ?_
      refine g_pop k_Rea_readNot_63 rfl ?_
      refine g_iconst (v := 1) k_Rea_readNot_64 rfl ?_
      refine g_zret k_Rea_readNot_65 rfl (by decide) ?_
      exact (by cases e; exact hq)
  · rw [if_neg c] at e
    refine g_aload_n k_Rea_readNot_9 rfl rfl ?_
    refine g_iconst (v := 3) k_Rea_readNot_10 rfl ?_
    obtain ⟨y8, m9, e_y8, e⟩ := o_b2_ex e
    refine g_cv k_Rea_readNot_11 lv_Rea_53 (by decide +kernel) (T := F_Rea) (N := 8) (ci := 5) rfl (sk_Rea s) (s_Rea_fail (bc := 0) (bs := 0) s 3 m e_y8) rfl rfl (Nat.le_of_ble_eq_true rfl) (by simp [Value.category]) (by omega) (by omega) (by omega) ?_
    obtain ⟨q10, e⟩ := o_gd_ex e
    refine g_zret k_Rea_readNot_14 rfl (isb_or q10) ?_
    exact (by cases e; exact hq)
def g_Rea_readTest (F : Nat) (rc_Rea_readSum : aM → Option (Int32 × aM)) (rc_Rea_readTest : aM → Option (Int32 × aM))  (m : aM) : Option (Int32 × aM) :=
  o_b2 (f_Rea_skipBlanks F  m) fun y1 m2 =>
  o_b (f_Rea_isWord F 4 m2) fun y3 =>
  (if y3 = 0 then
  o_b2 (f_Rea_isSign F 91 m2) fun y4 m5 =>
  (if y4 = 0 then
  o_b2 (g_Rea_readComparison F rc_Rea_readSum rc_Rea_readTest  m5) fun y6 m7 =>
  o_gd (isb y6) <|
  some (y6, m7)
  else
  o_b2 (f_Rea_readOpening F 91 m5) fun y9 m10 =>
  (if y9 = 0 then
  some (0, m10)
  else
  o_b2 (g_Rea_readAny F rc_Rea_readSum rc_Rea_readTest  m10) fun y11 m12 =>
  (if y11 = 0 then
  some (0, m12)
  else
  o_b2 (f_Rea_readClosing F 93 m12) fun y13 m14 =>
  (if y13 = 0 then
  some (0, m14)
  else
  some (1, m14)
  )
  )
  )
  )
  else
  o_b2 (g_Rea_readNot F rc_Rea_readSum rc_Rea_readTest  m2) fun y15 m16 =>
  o_gd (isb y15) <|
  some (y15, m16)
  )
theorem sg_Rea_readTest {K : aK} {d bc bs : Nat} {g : aG} (s : Sys g) (F : Nat) (D0 : Nat) (rc_Rea_readSum : aM → Option (Int32 × aM)) (hc_Rea_readSum : ∀ (d bc bs : Nat)  (m : aM) (r : Int32) (m' : aM), rc_Rea_readSum  m = some (r, m') → D0 ≤ d → Sp K M_Rea_readSum d bc bs [.ref 11] (g, m) (some (.int r)) (g, m')) (rc_Rea_readTest : aM → Option (Int32 × aM)) (hc_Rea_readTest : ∀ (d bc bs : Nat)  (m : aM) (r : Int32) (m' : aM), rc_Rea_readTest  m = some (r, m') → D0 ≤ d → Sp K M_Rea_readTest d bc bs [.ref 11] (g, m) (some (.int r)) (g, m'))  (m : aM) {r : Int32} {m' : aM} (e : g_Rea_readTest F rc_Rea_readSum rc_Rea_readTest  m = some (r, m')) (hd : D0 + 10 ≤ d) : Sp K M_Rea_readTest d bc bs [.ref 11] (g, m) (some (.int r)) (g, m') := by
  refine sp_of ok_Rea_readTest rfl (Nat.le_of_ble_eq_true rfl) (by simp [Value.category]) (fun Q hq => ?_)
  unfold g_Rea_readTest at e
  refine g_aload_n k_Rea_readTest_0 rfl rfl ?_
  obtain ⟨y1, m2, e_y1, e⟩ := o_b2_ex e
  refine g_cv k_Rea_readTest_1 lv_Rea_46 (by decide +kernel) (T := F_Rea) (N := 8) (ci := 5) rfl (sk_Rea s) (s_Rea_skipBlanks (bc := 0) (bs := 0) s F  m e_y1) rfl rfl (Nat.le_of_ble_eq_true rfl) (by simp [Value.category]) (by omega) (by omega) (by omega) ?_
  refine g_aload_n k_Rea_readTest_4 rfl rfl ?_
  refine g_str (k := 4) (f := fw 4) k_Rea_readTest_5 rfl rfl ?_
  obtain ⟨y3, e_y3, e⟩ := o_b_ex e
  refine g_cv k_Rea_readTest_7 lv_Rea_63 (by decide +kernel) (T := F_Rea) (N := 8) (ci := 5) rfl (sk_Rea s) (s_Rea_isWord (bc := 0) (bs := 0) s F 4 (by decide) m2 e_y3 (by omega)) rfl rfl (Nat.le_of_ble_eq_true rfl) (by simp [Value.category]) (by omega) (by omega) (by omega) ?_
  refine g_if_eq (tgt := 18) k_Rea_readTest_10 (by decide) (fun c => ?_) (fun c => ?_)
  · rw [if_pos c] at e
    refine g_aload_n k_Rea_readTest_18 rfl rfl ?_
    refine g_bipush (v := 91) k_Rea_readTest_19 rfl ?_
    obtain ⟨y4, m5, e_y4, e⟩ := o_b2_ex e
    refine g_cv k_Rea_readTest_21 lv_Rea_112 (by decide +kernel) (T := F_Rea) (N := 8) (ci := 5) rfl (sk_Rea s) (s_Rea_isSign (bc := 0) (bs := 0) s F 91 m2 e_y4 (by omega)) rfl rfl (Nat.le_of_ble_eq_true rfl) (by simp [Value.category]) (by omega) (by omega) (by omega) ?_
    refine g_if_eq (tgt := 58) k_Rea_readTest_24 (by decide) (fun c => ?_) (fun c => ?_)
    · rw [if_pos c] at e
      refine g_aload_n k_Rea_readTest_58 rfl rfl ?_
      obtain ⟨y6, m7, e_y6, e⟩ := o_b2_ex e
      refine g_cv k_Rea_readTest_59 lv_Rea_170 (by decide +kernel) (T := F_Rea) (N := 8) (ci := 5) rfl (sk_Rea s) (sg_Rea_readComparison (bc := 0) (bs := 0) s F D0 rc_Rea_readSum hc_Rea_readSum rc_Rea_readTest hc_Rea_readTest  m5 e_y6 (by omega)) rfl rfl (Nat.le_of_ble_eq_true rfl) (by simp [Value.category]) (by omega) (by omega) (by omega) ?_
      obtain ⟨q8, e⟩ := o_gd_ex e
      refine g_zret k_Rea_readTest_62 rfl (isb_or q8) ?_
      exact (by cases e; exact hq)
    · rw [if_neg c] at e
      refine g_aload_n k_Rea_readTest_27 rfl rfl ?_
      refine g_bipush (v := 91) k_Rea_readTest_28 rfl ?_
      obtain ⟨y9, m10, e_y9, e⟩ := o_b2_ex e
      refine g_cv k_Rea_readTest_30 lv_Rea_134 (by decide +kernel) (T := F_Rea) (N := 8) (ci := 5) rfl (sk_Rea s) (s_Rea_readOpening (bc := 0) (bs := 0) s F 91 m5 e_y9 (by omega)) rfl rfl (Nat.le_of_ble_eq_true rfl) (by simp [Value.category]) (by omega) (by omega) (by omega) ?_
      refine g_if_eq (tgt := 56) k_Rea_readTest_33 (by decide) (fun c => ?_) (fun c => ?_)
      · rw [if_pos c] at e
        refine g_iconst (v := 0) k_Rea_readTest_56 rfl ?_
        refine g_zret k_Rea_readTest_57 rfl (by decide) ?_
        exact (by cases e; exact hq)
      · rw [if_neg c] at e
        refine g_aload_n k_Rea_readTest_36 rfl rfl ?_
        obtain ⟨y11, m12, e_y11, e⟩ := o_b2_ex e
        refine g_cv k_Rea_readTest_37 lv_Rea_96 (by decide +kernel) (T := F_Rea) (N := 8) (ci := 5) rfl (sk_Rea s) (sg_Rea_readAny (bc := 0) (bs := 0) s F D0 rc_Rea_readSum hc_Rea_readSum rc_Rea_readTest hc_Rea_readTest  m10 e_y11 (by omega)) rfl rfl (Nat.le_of_ble_eq_true rfl) (by simp [Value.category]) (by omega) (by omega) (by omega) ?_
        refine g_if_eq (tgt := 56) k_Rea_readTest_40 (by decide) (fun c => ?_) (fun c => ?_)
        · rw [if_pos c] at e
          refine g_iconst (v := 0) k_Rea_readTest_56 rfl ?_
          refine g_zret k_Rea_readTest_57 rfl (by decide) ?_
          exact (by cases e; exact hq)
        · rw [if_neg c] at e
          refine g_aload_n k_Rea_readTest_43 rfl rfl ?_
          refine g_bipush (v := 93) k_Rea_readTest_44 rfl ?_
          obtain ⟨y13, m14, e_y13, e⟩ := o_b2_ex e
          refine g_cv k_Rea_readTest_46 lv_Rea_137 (by decide +kernel) (T := F_Rea) (N := 8) (ci := 5) rfl (sk_Rea s) (s_Rea_readClosing (bc := 0) (bs := 0) s F 93 m12 e_y13 (by omega)) rfl rfl (Nat.le_of_ble_eq_true rfl) (by simp [Value.category]) (by omega) (by omega) (by omega) ?_
          refine g_if_eq (tgt := 56) k_Rea_readTest_49 (by decide) (fun c => ?_) (fun c => ?_)
          · rw [if_pos c] at e
            refine g_iconst (v := 0) k_Rea_readTest_56 rfl ?_
            refine g_zret k_Rea_readTest_57 rfl (by decide) ?_
            exact (by cases e; exact hq)
          · rw [if_neg c] at e
            refine g_iconst (v := 1) k_Rea_readTest_52 rfl ?_
            refine g_goto (tgt := 57) k_Rea_readTest_53 (by decide) ?_
            refine g_zret k_Rea_readTest_57 rfl (by decide) ?_
            exact (by cases e; exact hq)
  · rw [if_neg c] at e
    refine g_aload_n k_Rea_readTest_13 rfl rfl ?_
    obtain ⟨y15, m16, e_y15, e⟩ := o_b2_ex e
    refine g_cv k_Rea_readTest_14 lv_Rea_167 (by decide +kernel) (T := F_Rea) (N := 8) (ci := 5) rfl (sk_Rea s) (sg_Rea_readNot (bc := 0) (bs := 0) s F D0 rc_Rea_readSum hc_Rea_readSum rc_Rea_readTest hc_Rea_readTest  m2 e_y15 (by omega)) rfl rfl (Nat.le_of_ble_eq_true rfl) (by simp [Value.category]) (by omega) (by omega) (by omega) ?_
    obtain ⟨q17, e⟩ := o_gd_ex e
    refine g_zret k_Rea_readTest_17 rfl (isb_or q17) ?_
    exact (by cases e; exact hq)
def rcs_rea (F : Nat) : Nat → (aM → Option (Int32 × aM)) × (aM → Option (Int32 × aM))
  | 0 => (fun _ => none, fun _ => none)
  | N + 1 => (fun m => g_Rea_readSum F (rcs_rea F N).1 (rcs_rea F N).2 m, fun m => g_Rea_readTest F (rcs_rea F N).1 (rcs_rea F N).2 m)
theorem hcs_rea {K : aK} {g : aG} (s : Sys g) (F : Nat) : ∀ N : Nat, (∀ (d bc bs : Nat)  (m : aM) (r : Int32) (m' : aM), (rcs_rea F N).1  m = some (r, m') → 16 * N ≤ d → Sp K M_Rea_readSum d bc bs [.ref 11] (g, m) (some (.int r)) (g, m')) ∧ (∀ (d bc bs : Nat)  (m : aM) (r : Int32) (m' : aM), (rcs_rea F N).2  m = some (r, m') → 16 * N ≤ d → Sp K M_Rea_readTest d bc bs [.ref 11] (g, m) (some (.int r)) (g, m'))
  | 0 => ⟨(fun _ _ _  _ _ _ e => nomatch e), (fun _ _ _  _ _ _ e => nomatch e)⟩
  | N + 1 => ⟨(fun d bc bs  m r m' e hd => sg_Rea_readSum s F (16 * N) (rcs_rea F N).1 (hcs_rea s F N).1 (rcs_rea F N).2 (hcs_rea s F N).2  m e (by omega)), (fun d bc bs  m r m' e hd => sg_Rea_readTest s F (16 * N) (rcs_rea F N).1 (hcs_rea s F N).1 (rcs_rea F N).2 (hcs_rea s F N).2  m e (by omega))⟩
def f_Rea_readAll (F : Nat)  (m : aM) : Option (Int32 × aM) := g_Rea_readAll F (rcs_rea F 32).1 (rcs_rea F 32).2  m
theorem s_Rea_readAll {K : aK} {d bc bs : Nat} {g : aG} (s : Sys g) (F : Nat)  (m : aM) {r : Int32} {m' : aM} (e : f_Rea_readAll F  m = some (r, m')) (hd : 528 ≤ d) : Sp K M_Rea_readAll d bc bs [.ref 11] (g, m) (some (.int r)) (g, m') := sg_Rea_readAll s F 512 (rcs_rea F 32).1 (hcs_rea s F 32).1 (rcs_rea F 32).2 (hcs_rea s F 32).2  m e (by omega)
def f_Rea_readAny (F : Nat)  (m : aM) : Option (Int32 × aM) := g_Rea_readAny F (rcs_rea F 32).1 (rcs_rea F 32).2  m
theorem s_Rea_readAny {K : aK} {d bc bs : Nat} {g : aG} (s : Sys g) (F : Nat)  (m : aM) {r : Int32} {m' : aM} (e : f_Rea_readAny F  m = some (r, m')) (hd : 528 ≤ d) : Sp K M_Rea_readAny d bc bs [.ref 11] (g, m) (some (.int r)) (g, m') := sg_Rea_readAny s F 512 (rcs_rea F 32).1 (hcs_rea s F 32).1 (rcs_rea F 32).2 (hcs_rea s F 32).2  m e (by omega)
def f_Rea_readIf (F : Nat)  (m : aM) : Option (Int32 × aM) := g_Rea_readIf F (rcs_rea F 32).1 (rcs_rea F 32).2  m
theorem s_Rea_readIf {K : aK} {d bc bs : Nat} {g : aG} (s : Sys g) (F : Nat)  (m : aM) {r : Int32} {m' : aM} (e : f_Rea_readIf F  m = some (r, m')) (hd : 528 ≤ d) : Sp K M_Rea_readIf d bc bs [.ref 11] (g, m) (some (.int r)) (g, m') := sg_Rea_readIf s F 512 (rcs_rea F 32).1 (hcs_rea s F 32).1 (rcs_rea F 32).2 (hcs_rea s F 32).2  m e (by omega)
def f_Rea_readPair (F : Nat) (x1 : Int32) (m : aM) : Option (Int32 × aM) := g_Rea_readPair F (rcs_rea F 32).1 (rcs_rea F 32).2 x1 m
theorem s_Rea_readPair {K : aK} {d bc bs : Nat} {g : aG} (s : Sys g) (F : Nat) (x1 : Int32) (m : aM) {r : Int32} {m' : aM} (e : f_Rea_readPair F x1 m = some (r, m')) (hd : 528 ≤ d) : Sp K M_Rea_readPair d bc bs [.ref 11, .int x1] (g, m) (some (.int r)) (g, m') := sg_Rea_readPair s F 512 (rcs_rea F 32).1 (hcs_rea s F 32).1 (rcs_rea F 32).2 (hcs_rea s F 32).2 x1 m e (by omega)
def f_Rea_readUnit (F : Nat)  (m : aM) : Option (Int32 × aM) := g_Rea_readUnit F (rcs_rea F 32).1 (rcs_rea F 32).2  m
theorem s_Rea_readUnit {K : aK} {d bc bs : Nat} {g : aG} (s : Sys g) (F : Nat)  (m : aM) {r : Int32} {m' : aM} (e : f_Rea_readUnit F  m = some (r, m')) (hd : 528 ≤ d) : Sp K M_Rea_readUnit d bc bs [.ref 11] (g, m) (some (.int r)) (g, m') := sg_Rea_readUnit s F 512 (rcs_rea F 32).1 (hcs_rea s F 32).1 (rcs_rea F 32).2 (hcs_rea s F 32).2  m e (by omega)
def f_Rea_readProduct (F : Nat)  (m : aM) : Option (Int32 × aM) := g_Rea_readProduct F (rcs_rea F 32).1 (rcs_rea F 32).2  m
theorem s_Rea_readProduct {K : aK} {d bc bs : Nat} {g : aG} (s : Sys g) (F : Nat)  (m : aM) {r : Int32} {m' : aM} (e : f_Rea_readProduct F  m = some (r, m')) (hd : 528 ≤ d) : Sp K M_Rea_readProduct d bc bs [.ref 11] (g, m) (some (.int r)) (g, m') := sg_Rea_readProduct s F 512 (rcs_rea F 32).1 (hcs_rea s F 32).1 (rcs_rea F 32).2 (hcs_rea s F 32).2  m e (by omega)
def f_Rea_readSum (F : Nat)  (m : aM) : Option (Int32 × aM) := g_Rea_readSum F (rcs_rea F 32).1 (rcs_rea F 32).2  m
theorem s_Rea_readSum {K : aK} {d bc bs : Nat} {g : aG} (s : Sys g) (F : Nat)  (m : aM) {r : Int32} {m' : aM} (e : f_Rea_readSum F  m = some (r, m')) (hd : 528 ≤ d) : Sp K M_Rea_readSum d bc bs [.ref 11] (g, m) (some (.int r)) (g, m') := sg_Rea_readSum s F 512 (rcs_rea F 32).1 (hcs_rea s F 32).1 (rcs_rea F 32).2 (hcs_rea s F 32).2  m e (by omega)
def f_Rea_readComparison (F : Nat)  (m : aM) : Option (Int32 × aM) := g_Rea_readComparison F (rcs_rea F 32).1 (rcs_rea F 32).2  m
theorem s_Rea_readComparison {K : aK} {d bc bs : Nat} {g : aG} (s : Sys g) (F : Nat)  (m : aM) {r : Int32} {m' : aM} (e : f_Rea_readComparison F  m = some (r, m')) (hd : 528 ≤ d) : Sp K M_Rea_readComparison d bc bs [.ref 11] (g, m) (some (.int r)) (g, m') := sg_Rea_readComparison s F 512 (rcs_rea F 32).1 (hcs_rea s F 32).1 (rcs_rea F 32).2 (hcs_rea s F 32).2  m e (by omega)
def f_Rea_readNot (F : Nat)  (m : aM) : Option (Int32 × aM) := g_Rea_readNot F (rcs_rea F 32).1 (rcs_rea F 32).2  m
theorem s_Rea_readNot {K : aK} {d bc bs : Nat} {g : aG} (s : Sys g) (F : Nat)  (m : aM) {r : Int32} {m' : aM} (e : f_Rea_readNot F  m = some (r, m')) (hd : 528 ≤ d) : Sp K M_Rea_readNot d bc bs [.ref 11] (g, m) (some (.int r)) (g, m') := sg_Rea_readNot s F 512 (rcs_rea F 32).1 (hcs_rea s F 32).1 (rcs_rea F 32).2 (hcs_rea s F 32).2  m e (by omega)
def f_Rea_readTest (F : Nat)  (m : aM) : Option (Int32 × aM) := g_Rea_readTest F (rcs_rea F 32).1 (rcs_rea F 32).2  m
theorem s_Rea_readTest {K : aK} {d bc bs : Nat} {g : aG} (s : Sys g) (F : Nat)  (m : aM) {r : Int32} {m' : aM} (e : f_Rea_readTest F  m = some (r, m')) (hd : 528 ≤ d) : Sp K M_Rea_readTest d bc bs [.ref 11] (g, m) (some (.int r)) (g, m') := sg_Rea_readTest s F 512 (rcs_rea F 32).1 (hcs_rea s F 32).1 (rcs_rea F 32).2 (hcs_rea s F 32).2  m e (by omega)
def f_Rea_readLaw (F : Nat)  (m : aM) : Option (Int32 × aM) :=
  o_let (a_st m 11 2 ((m 11 2) + 3)) fun m1 =>
  o_b (f_Len_here 12 m1) fun y2 =>
  o_b2 (f_Rea_readAny F  m1) fun y3 m4 =>
  (if y3 = 0 then
  some (0, m4)
  else
  o_b2 (f_Len_endLaw 12 y2 m4) fun y5 m6 =>
  some (1, m6)
  )
theorem s_Rea_readLaw {K : aK} {d bc bs : Nat} {g : aG} (s : Sys g) (F : Nat)  (m : aM) {r : Int32} {m' : aM} (e : f_Rea_readLaw F  m = some (r, m')) (hd : 529 ≤ d) : Sp K M_Rea_readLaw d bc bs [.ref 11] (g, m) (some (.int r)) (g, m') := by
  refine sp_of ok_Rea_readLaw rfl (Nat.le_of_ble_eq_true rfl) (by simp [Value.category]) (fun Q hq => ?_)
  unfold f_Rea_readLaw at e
  refine g_aload_n k_Rea_readLaw_0 rfl rfl ?_
  refine g_dup k_Rea_readLaw_1 rfl ?_
  refine p_geti k_Rea_readLaw_2 fl_Rea_29 rfl (sk_Rea s) (by decide) ?_
  refine g_iconst (v := 3) k_Rea_readLaw_5 rfl ?_
  refine g_iadd k_Rea_readLaw_6 ?_
  refine p_puti k_Rea_readLaw_7 fl_Rea_29 rfl ⟨R_Rea, F_Rea, 8, rfl, Or.inl rfl⟩ (sk_Rea s) (by decide) ?_
  obtain ⟨m1, u_m1, e⟩ := o_let_ex e
  refine G.hm u_m1 ?_
  refine g_aload_n k_Rea_readLaw_10 rfl rfl ?_
  refine p_getr k_Rea_readLaw_11 fl_Rea_15 rfl (sk_Rea s) (by decide) (sr_Rea_5 s) ?_
  obtain ⟨y2, e_y2, e⟩ := o_b_ex e
  refine g_cv k_Rea_readLaw_14 lv_Rea_93 (by decide +kernel) (T := F_Len) (N := 11) (ci := 2) rfl (sk_Len (sy_dra s)) (s_Len_here (bc := 0) (bs := 0) s 12 (sy_dra s) m1 e_y2) rfl rfl (Nat.le_of_ble_eq_true rfl) (by simp [Value.category]) (by omega) (by omega) (by omega) ?_
  refine g_istore_n k_Rea_readLaw_17 rfl (by decide) ?_
  refine g_aload_n k_Rea_readLaw_18 rfl rfl ?_
  obtain ⟨y3, m4, e_y3, e⟩ := o_b2_ex e
  refine g_cv k_Rea_readLaw_19 lv_Rea_96 (by decide +kernel) (T := F_Rea) (N := 8) (ci := 5) rfl (sk_Rea s) (s_Rea_readAny (bc := 0) (bs := 0) s F  m1 e_y3 (by omega)) rfl rfl (Nat.le_of_ble_eq_true rfl) (by simp [Value.category]) (by omega) (by omega) (by omega) ?_
  refine g_if_ne (tgt := 27) k_Rea_readLaw_22 (by decide) (fun c => ?_) (fun c => ?_)
  · rw [if_pos c] at e
    refine g_iconst (v := 0) k_Rea_readLaw_25 rfl ?_
    refine g_zret k_Rea_readLaw_26 rfl (by decide) ?_
    exact (by cases e; exact hq)
  · rw [if_neg c] at e
    refine g_aload_n k_Rea_readLaw_27 rfl rfl ?_
    refine p_getr k_Rea_readLaw_28 fl_Rea_15 rfl (sk_Rea s) (by decide) (sr_Rea_5 s) ?_
    refine g_iload_n k_Rea_readLaw_31 rfl rfl ?_
    obtain ⟨y5, m6, e_y5, e⟩ := o_b2_ex e
    refine g_cv k_Rea_readLaw_32 lv_Rea_99 (by decide +kernel) (T := F_Len) (N := 11) (ci := 2) rfl (sk_Len (sy_dra s)) (s_Len_endLaw (bc := 0) (bs := 0) s 12 (sy_dra s) y2 m4 e_y5) rfl rfl (Nat.le_of_ble_eq_true rfl) (by simp [Value.category]) (by omega) (by omega) (by omega) ?_
    refine g_iconst (v := 1) k_Rea_readLaw_35 rfl ?_
    refine g_zret k_Rea_readLaw_36 rfl (by decide) ?_
    exact (by cases e; exact hq)
def f_Rea_readEquals (F : Nat) (x1 : Int32) (m : aM) : Option (Int32 × aM) :=
  o_let (a_st m 11 2 ((m 11 2) + 1)) fun m1 =>
  o_b (f_Len_here 12 m1) fun y2 =>
  o_b2 (f_Rea_readSign F 61 m1) fun y3 m4 =>
  (if y3 = 0 then
  some (0, m4)
  else
  o_b2 (f_Rea_readSum F  m4) fun y5 m6 =>
  (if y5 = 0 then
  some (0, m6)
  else
  o_b2 (f_Len_endLetter 12 x1 y2 m6) fun y7 m8 =>
  some (1, m8)
  )
  )
theorem s_Rea_readEquals {K : aK} {d bc bs : Nat} {g : aG} (s : Sys g) (F : Nat) (x1 : Int32) (m : aM) {r : Int32} {m' : aM} (e : f_Rea_readEquals F x1 m = some (r, m')) (hd : 529 ≤ d) : Sp K M_Rea_readEquals d bc bs [.ref 11, .int x1] (g, m) (some (.int r)) (g, m') := by
  refine sp_of ok_Rea_readEquals rfl (Nat.le_of_ble_eq_true rfl) (by simp [Value.category]) (fun Q hq => ?_)
  unfold f_Rea_readEquals at e
  refine g_aload_n k_Rea_readEquals_0 rfl rfl ?_
  refine g_dup k_Rea_readEquals_1 rfl ?_
  refine p_geti k_Rea_readEquals_2 fl_Rea_29 rfl (sk_Rea s) (by decide) ?_
  refine g_iconst (v := 1) k_Rea_readEquals_5 rfl ?_
  refine g_iadd k_Rea_readEquals_6 ?_
  refine p_puti k_Rea_readEquals_7 fl_Rea_29 rfl ⟨R_Rea, F_Rea, 8, rfl, Or.inl rfl⟩ (sk_Rea s) (by decide) ?_
  obtain ⟨m1, u_m1, e⟩ := o_let_ex e
  refine G.hm u_m1 ?_
  refine g_aload_n k_Rea_readEquals_10 rfl rfl ?_
  refine p_getr k_Rea_readEquals_11 fl_Rea_15 rfl (sk_Rea s) (by decide) (sr_Rea_5 s) ?_
  obtain ⟨y2, e_y2, e⟩ := o_b_ex e
  refine g_cv k_Rea_readEquals_14 lv_Rea_93 (by decide +kernel) (T := F_Len) (N := 11) (ci := 2) rfl (sk_Len (sy_dra s)) (s_Len_here (bc := 0) (bs := 0) s 12 (sy_dra s) m1 e_y2) rfl rfl (Nat.le_of_ble_eq_true rfl) (by simp [Value.category]) (by omega) (by omega) (by omega) ?_
  refine g_istore_n k_Rea_readEquals_17 rfl (by decide) ?_
  refine g_aload_n k_Rea_readEquals_18 rfl rfl ?_
  refine g_bipush (v := 61) k_Rea_readEquals_19 rfl ?_
  obtain ⟨y3, m4, e_y3, e⟩ := o_b2_ex e
  refine g_cv k_Rea_readEquals_21 lv_Rea_79 (by decide +kernel) (T := F_Rea) (N := 8) (ci := 5) rfl (sk_Rea s) (s_Rea_readSign (bc := 0) (bs := 0) s F 61 m1 e_y3 (by omega)) rfl rfl (Nat.le_of_ble_eq_true rfl) (by simp [Value.category]) (by omega) (by omega) (by omega) ?_
  refine g_if_eq (tgt := 34) k_Rea_readEquals_24 (by decide) (fun c => ?_) (fun c => ?_)
  · rw [if_pos c] at e
    refine g_iconst (v := 0) k_Rea_readEquals_34 rfl ?_
    refine g_zret k_Rea_readEquals_35 rfl (by decide) ?_
    exact (by cases e; exact hq)
  · rw [if_neg c] at e
    refine g_aload_n k_Rea_readEquals_27 rfl rfl ?_
    obtain ⟨y5, m6, e_y5, e⟩ := o_b2_ex e
    refine g_cv k_Rea_readEquals_28 lv_Rea_102 (by decide +kernel) (T := F_Rea) (N := 8) (ci := 5) rfl (sk_Rea s) (s_Rea_readSum (bc := 0) (bs := 0) s F  m4 e_y5 (by omega)) rfl rfl (Nat.le_of_ble_eq_true rfl) (by simp [Value.category]) (by omega) (by omega) (by omega) ?_
    refine g_if_ne (tgt := 36) k_Rea_readEquals_31 (by decide) (fun c => ?_) (fun c => ?_)
    · rw [if_pos c] at e
      refine g_iconst (v := 0) k_Rea_readEquals_34 rfl ?_
      refine g_zret k_Rea_readEquals_35 rfl (by decide) ?_
      exact (by cases e; exact hq)
    · rw [if_neg c] at e
      refine g_aload_n k_Rea_readEquals_36 rfl rfl ?_
      refine p_getr k_Rea_readEquals_37 fl_Rea_15 rfl (sk_Rea s) (by decide) (sr_Rea_5 s) ?_
      refine g_iload_n k_Rea_readEquals_40 rfl rfl ?_
      refine g_iload_n k_Rea_readEquals_41 rfl rfl ?_
      obtain ⟨y7, m8, e_y7, e⟩ := o_b2_ex e
      refine g_cv k_Rea_readEquals_42 lv_Rea_105 (by decide +kernel) (T := F_Len) (N := 11) (ci := 2) rfl (sk_Len (sy_dra s)) (s_Len_endLetter (bc := 0) (bs := 0) s 12 (sy_dra s) x1 y2 m6 e_y7) rfl rfl (Nat.le_of_ble_eq_true rfl) (by simp [Value.category]) (by omega) (by omega) (by omega) ?_
      refine g_iconst (v := 1) k_Rea_readEquals_45 rfl ?_
      refine g_zret k_Rea_readEquals_46 rfl (by decide) ?_
      exact (by cases e; exact hq)
def b_Rea_readClause_131 (F : Nat)  (m : aM) : Option (Int32 × aM) :=
  o_b2 (f_Rea_readSign F 59 m) fun y1 m2 =>
  (if y1 = 0 then
  some (0, m2)
  else
  some (1, m2)
  )
theorem t_Rea_readClause_131 {K : aK} {d bc bs : Nat} {g : aG} (s : Sys g) {Q : aQ} {r : Int32} {m' : aM} (F : Nat)  (m : aM) (hq : Q (.inl (some (.int r))) (g, m')) (e : b_Rea_readClause_131 F  m = some (r, m')) (hd : 530 ≤ d) : G K M_Rea_readClause d bc bs 131 [.ref 11, .double 0, .double 0, .double 0] [] (g, m) Q := by
  unfold b_Rea_readClause_131 at e
  refine g_aload_n k_Rea_readClause_131 rfl rfl ?_
  refine g_bipush (v := 59) k_Rea_readClause_132 rfl ?_
  obtain ⟨y1, m2, e_y1, e⟩ := o_b2_ex e
  refine g_cv k_Rea_readClause_134 lv_Rea_79 (by decide +kernel) (T := F_Rea) (N := 8) (ci := 5) rfl (sk_Rea s) (s_Rea_readSign (bc := 0) (bs := 0) s F 59 m e_y1 (by omega)) rfl rfl (Nat.le_of_ble_eq_true rfl) (by simp [Value.category]) (by omega) (by omega) (by omega) ?_
  refine g_if_eq (tgt := 144) k_Rea_readClause_137 (by decide) (fun c => ?_) (fun c => ?_)
  · rw [if_pos c] at e
    refine g_iconst (v := 0) k_Rea_readClause_144 rfl ?_
    refine g_zret k_Rea_readClause_145 rfl (by decide) ?_
    exact (by cases e; exact hq)
  · rw [if_neg c] at e
    refine g_iconst (v := 1) k_Rea_readClause_140 rfl ?_
    refine g_goto (tgt := 145) k_Rea_readClause_141 (by decide) ?_
    refine g_zret k_Rea_readClause_145 rfl (by decide) ?_
    exact (by cases e; exact hq)
def b_Rea_readClause_80 (F : Nat) (x1 : Int32) (x2 : Int32) (x3 : Int32) (xt0 : Int32) (m : aM) : Option (Int32 × aM) :=
  o_gd (isb xt0) <|
  o_let (a_st m 11 4 xt0) fun m2 =>
  (if x2 = 0 then
  (if x3 = 0 then
  o_b2 (f_Rea_readEquals F x1 m2) fun y3 m4 =>
  (if y3 = 0 then
  some (0, m4)
  else
  b_Rea_readClause_131 F  m4
  )
  else
  o_b2 (f_Rea_readLaw F  m2) fun y5 m6 =>
  (if y5 = 0 then
  some (0, m6)
  else
  b_Rea_readClause_131 F  m6
  )
  )
  else
  o_b2 (f_Rea_readKeep F  m2) fun y7 m8 =>
  (if y7 = 0 then
  some (0, m8)
  else
  o_b2 (f_Rea_readSign F 59 m8) fun y9 m10 =>
  (if y9 = 0 then
  some (0, m10)
  else
  some (1, m10)
  )
  )
  )
theorem t_Rea_readClause_80 {K : aK} {d bc bs : Nat} {g : aG} (s : Sys g) {Q : aQ} {r : Int32} {m' : aM} (F : Nat) (x1 : Int32) (x2 : Int32) (x3 : Int32) (xt0 : Int32) (m : aM) (hq : Q (.inl (some (.int r))) (g, m')) (e : b_Rea_readClause_80 F x1 x2 x3 xt0 m = some (r, m')) (hd : 530 ≤ d) : G K M_Rea_readClause d bc bs 80 [.ref 11, .int x1, .int x2, .int x3] [.int xt0, .ref 11] (g, m) Q := by
  unfold b_Rea_readClause_80 at e
  obtain ⟨q1, e⟩ := o_gd_ex e
  refine p_putz k_Rea_readClause_80 fl_Rea_72 rfl (isb_or q1) ⟨R_Rea, F_Rea, 8, rfl, Or.inl rfl⟩ (sk_Rea s) (by decide) ?_
  obtain ⟨m2, u_m2, e⟩ := o_let_ex e
  refine G.hm u_m2 ?_
  refine g_iload_n k_Rea_readClause_83 rfl rfl ?_
  refine g_if_eq (tgt := 109) k_Rea_readClause_84 (by decide) (fun c => ?_) (fun c => ?_)
  · rw [if_pos c] at e
    refine g_iload_n k_Rea_readClause_109 rfl rfl ?_
    refine g_if_eq (tgt := 123) k_Rea_readClause_110 (by decide) (fun c => ?_) (fun c => ?_)
    · rw [if_pos c] at e
      refine g_aload_n k_Rea_readClause_123 rfl rfl ?_
      refine g_iload_n k_Rea_readClause_124 rfl rfl ?_
      obtain ⟨y3, m4, e_y3, e⟩ := o_b2_ex e
      refine g_cv k_Rea_readClause_125 lv_Rea_86 (by decide +kernel) (T := F_Rea) (N := 8) (ci := 5) rfl (sk_Rea s) (s_Rea_readEquals (bc := 0) (bs := 0) s F x1 m2 e_y3 (by omega)) rfl rfl (Nat.le_of_ble_eq_true rfl) (by simp [Value.category]) (by omega) (by omega) (by omega) ?_
      refine g_if_eq (tgt := 144) k_Rea_readClause_128 (by decide) (fun c => ?_) (fun c => ?_)
      · rw [if_pos c] at e
        refine g_iconst (v := 0) k_Rea_readClause_144 rfl ?_
        refine g_zret k_Rea_readClause_145 rfl (by decide) ?_
        exact (by cases e; exact hq)
      · rw [if_neg c] at e
        exact G.wl (wls (wld (wld (wld wl0)))) (t_Rea_readClause_131 s F  m4 hq e hd)
    · rw [if_neg c] at e
      refine g_aload_n k_Rea_readClause_113 rfl rfl ?_
      obtain ⟨y5, m6, e_y5, e⟩ := o_b2_ex e
      refine g_cv k_Rea_readClause_114 lv_Rea_83 (by decide +kernel) (T := F_Rea) (N := 8) (ci := 5) rfl (sk_Rea s) (s_Rea_readLaw (bc := 0) (bs := 0) s F  m2 e_y5 (by omega)) rfl rfl (Nat.le_of_ble_eq_true rfl) (by simp [Value.category]) (by omega) (by omega) (by omega) ?_
      refine g_if_eq (tgt := 144) k_Rea_readClause_117 (by decide) (fun c => ?_) (fun c => ?_)
      · rw [if_pos c] at e
        refine g_iconst (v := 0) k_Rea_readClause_144 rfl ?_
        refine g_zret k_Rea_readClause_145 rfl (by decide) ?_
        exact (by cases e; exact hq)
      · rw [if_neg c] at e
        refine g_goto (tgt := 131) k_Rea_readClause_120 (by decide) ?_
        exact G.wl (wls (wld (wld (wld wl0)))) (t_Rea_readClause_131 s F  m6 hq e hd)
  · rw [if_neg c] at e
    refine g_aload_n k_Rea_readClause_87 rfl rfl ?_
    obtain ⟨y7, m8, e_y7, e⟩ := o_b2_ex e
    refine g_cv k_Rea_readClause_88 lv_Rea_76 (by decide +kernel) (T := F_Rea) (N := 8) (ci := 5) rfl (sk_Rea s) (s_Rea_readKeep (bc := 0) (bs := 0) s F  m2 e_y7 (by omega)) rfl rfl (Nat.le_of_ble_eq_true rfl) (by simp [Value.category]) (by omega) (by omega) (by omega) ?_
    refine g_if_eq (tgt := 107) k_Rea_readClause_91 (by decide) (fun c => ?_) (fun c => ?_)
    · rw [if_pos c] at e
      refine g_iconst (v := 0) k_Rea_readClause_107 rfl ?_
      refine g_zret k_Rea_readClause_108 rfl (by decide) ?_
      exact (by cases e; exact hq)
    · rw [if_neg c] at e
      refine g_aload_n k_Rea_readClause_94 rfl rfl ?_
      refine g_bipush (v := 59) k_Rea_readClause_95 rfl ?_
      obtain ⟨y9, m10, e_y9, e⟩ := o_b2_ex e
      refine g_cv k_Rea_readClause_97 lv_Rea_79 (by decide +kernel) (T := F_Rea) (N := 8) (ci := 5) rfl (sk_Rea s) (s_Rea_readSign (bc := 0) (bs := 0) s F 59 m8 e_y9 (by omega)) rfl rfl (Nat.le_of_ble_eq_true rfl) (by simp [Value.category]) (by omega) (by omega) (by omega) ?_
      refine g_if_eq (tgt := 107) k_Rea_readClause_100 (by decide) (fun c => ?_) (fun c => ?_)
      · rw [if_pos c] at e
        refine g_iconst (v := 0) k_Rea_readClause_107 rfl ?_
        refine g_zret k_Rea_readClause_108 rfl (by decide) ?_
        exact (by cases e; exact hq)
      · rw [if_neg c] at e
        refine g_iconst (v := 1) k_Rea_readClause_103 rfl ?_
        refine g_goto (tgt := 108) k_Rea_readClause_104 (by decide) ?_
        refine g_zret k_Rea_readClause_108 rfl (by decide) ?_
        exact (by cases e; exact hq)
def b_Rea_readClause_38 (F : Nat) (x1 : Int32) (x2 : Int32) (x3 : Int32) (m : aM) : Option (Int32 × aM) :=
  (if (m 12 10) < 16 then
  o_let (a_st m 12 10 ((m 12 10) + 1)) fun m1 =>
  (if x1 < 4 then
  b_Rea_readClause_80 F x1 x2 x3 0 m1
  else
  b_Rea_readClause_80 F x1 x2 x3 1 m1
  )
  else
  o_b2 (f_Rea_fail 3 m) fun y2 m3 =>
  o_gd (isb y2) <|
  some (y2, m3)
  )
theorem t_Rea_readClause_38 {K : aK} {d bc bs : Nat} {g : aG} (s : Sys g) {Q : aQ} {r : Int32} {m' : aM} (F : Nat) (x1 : Int32) (x2 : Int32) (x3 : Int32) (m : aM) (hq : Q (.inl (some (.int r))) (g, m')) (e : b_Rea_readClause_38 F x1 x2 x3 m = some (r, m')) (hd : 530 ≤ d) : G K M_Rea_readClause d bc bs 38 [.ref 11, .int x1, .int x2, .int x3] [] (g, m) Q := by
  unfold b_Rea_readClause_38 at e
  refine g_aload_n k_Rea_readClause_38 rfl rfl ?_
  refine p_getr k_Rea_readClause_39 fl_Rea_15 rfl (sk_Rea s) (by decide) (sr_Rea_5 s) ?_
  refine p_geti k_Rea_readClause_42 fl_Rea_69 rfl (sk_Len (sy_dra s)) (by decide) ?_
  refine g_bipush (v := 16) k_Rea_readClause_45 rfl ?_
  refine g_icmp_lt (tgt := 56) k_Rea_readClause_47 (by decide) (fun c => ?_) (fun c => ?_)
  · rw [if_pos c] at e
    refine g_aload_n k_Rea_readClause_56 rfl rfl ?_
    refine p_getr k_Rea_readClause_57 fl_Rea_15 rfl (sk_Rea s) (by decide) (sr_Rea_5 s) ?_
    refine g_dup k_Rea_readClause_60 rfl ?_
    refine p_geti k_Rea_readClause_61 fl_Rea_69 rfl (sk_Len (sy_dra s)) (by decide) ?_
    refine g_iconst (v := 1) k_Rea_readClause_64 rfl ?_
    refine g_iadd k_Rea_readClause_65 ?_
    refine p_puti k_Rea_readClause_66 fl_Rea_69 rfl ⟨R_Len, F_Len, 11, rfl, Or.inl rfl⟩ (sk_Len (sy_dra s)) (by decide) ?_
    obtain ⟨m1, u_m1, e⟩ := o_let_ex e
    refine G.hm u_m1 ?_
    refine g_aload_n k_Rea_readClause_69 rfl rfl ?_
    refine g_iload_n k_Rea_readClause_70 rfl rfl ?_
    refine g_iconst (v := 4) k_Rea_readClause_71 rfl ?_
    refine g_icmp_lt (tgt := 79) k_Rea_readClause_72 (by decide) (fun c => ?_) (fun c => ?_)
    · rw [if_pos c] at e
      refine g_iconst (v := 0) k_Rea_readClause_79 rfl ?_
      exact (t_Rea_readClause_80 s F x1 x2 x3 0 m1 hq e hd)
    · rw [if_neg c] at e
      refine g_iconst (v := 1) k_Rea_readClause_75 rfl ?_
      refine g_goto (tgt := 80) k_Rea_readClause_76 (by decide) ?_
      exact (t_Rea_readClause_80 s F x1 x2 x3 1 m1 hq e hd)
  · rw [if_neg c] at e
    refine g_aload_n k_Rea_readClause_50 rfl rfl ?_
    refine g_iconst (v := 3) k_Rea_readClause_51 rfl ?_
    obtain ⟨y2, m3, e_y2, e⟩ := o_b2_ex e
    refine g_cv k_Rea_readClause_52 lv_Rea_53 (by decide +kernel) (T := F_Rea) (N := 8) (ci := 5) rfl (sk_Rea s) (s_Rea_fail (bc := 0) (bs := 0) s 3 m e_y2) rfl rfl (Nat.le_of_ble_eq_true rfl) (by simp [Value.category]) (by omega) (by omega) (by omega) ?_
    obtain ⟨q4, e⟩ := o_gd_ex e
    refine g_zret k_Rea_readClause_55 rfl (isb_or q4) ?_
    exact (by cases e; exact hq)
def f_Rea_readClause (F : Nat)  (m : aM) : Option (Int32 × aM) :=
  o_b (f_Rea_letterHere  m) fun y1 =>
  o_b (f_Rea_isWord F 2 m) fun y2 =>
  o_b (f_Rea_isWord F 3 m) fun y3 =>
  (if y1 = (-1) then
  (if y2 = 0 then
  (if y3 = 0 then
  o_b2 (f_Rea_fail 1 m) fun y4 m5 =>
  o_gd (isb y4) <|
  some (y4, m5)
  else
  b_Rea_readClause_38 F y1 y2 y3 m
  )
  else
  b_Rea_readClause_38 F y1 y2 y3 m
  )
  else
  b_Rea_readClause_38 F y1 y2 y3 m
  )
theorem s_Rea_readClause {K : aK} {d bc bs : Nat} {g : aG} (s : Sys g) (F : Nat)  (m : aM) {r : Int32} {m' : aM} (e : f_Rea_readClause F  m = some (r, m')) (hd : 530 ≤ d) : Sp K M_Rea_readClause d bc bs [.ref 11] (g, m) (some (.int r)) (g, m') := by
  refine sp_of ok_Rea_readClause rfl (Nat.le_of_ble_eq_true rfl) (by simp [Value.category]) (fun Q hq => ?_)
  unfold f_Rea_readClause at e
  refine g_aload_n k_Rea_readClause_0 rfl rfl ?_
  obtain ⟨y1, e_y1, e⟩ := o_b_ex e
  refine g_cv k_Rea_readClause_1 lv_Rea_57 (by decide +kernel) (T := F_Rea) (N := 8) (ci := 5) rfl (sk_Rea s) (s_Rea_letterHere (bc := 0) (bs := 0) s  m e_y1 (by omega)) rfl rfl (Nat.le_of_ble_eq_true rfl) (by simp [Value.category]) (by omega) (by omega) (by omega) ?_
  refine g_istore_n k_Rea_readClause_4 rfl (by decide) ?_
  refine g_aload_n k_Rea_readClause_5 rfl rfl ?_
  refine g_str (k := 2) (f := fw 2) k_Rea_readClause_6 rfl rfl ?_
  obtain ⟨y2, e_y2, e⟩ := o_b_ex e
  refine g_cv k_Rea_readClause_8 lv_Rea_63 (by decide +kernel) (T := F_Rea) (N := 8) (ci := 5) rfl (sk_Rea s) (s_Rea_isWord (bc := 0) (bs := 0) s F 2 (by decide) m e_y2 (by omega)) rfl rfl (Nat.le_of_ble_eq_true rfl) (by simp [Value.category]) (by omega) (by omega) (by omega) ?_
  refine g_istore_n k_Rea_readClause_11 rfl (by decide) ?_
  refine g_aload_n k_Rea_readClause_12 rfl rfl ?_
  refine g_str (k := 3) (f := fw 3) k_Rea_readClause_13 rfl rfl ?_
  obtain ⟨y3, e_y3, e⟩ := o_b_ex e
  refine g_cv k_Rea_readClause_15 lv_Rea_63 (by decide +kernel) (T := F_Rea) (N := 8) (ci := 5) rfl (sk_Rea s) (s_Rea_isWord (bc := 0) (bs := 0) s F 3 (by decide) m e_y3 (by omega)) rfl rfl (Nat.le_of_ble_eq_true rfl) (by simp [Value.category]) (by omega) (by omega) (by omega) ?_
  refine g_istore_n k_Rea_readClause_18 rfl (by decide) ?_
  refine g_iload_n k_Rea_readClause_19 rfl rfl ?_
  refine g_iconst (v := (-1)) k_Rea_readClause_20 rfl ?_
  refine g_icmp_ne (tgt := 38) k_Rea_readClause_21 (by decide) (fun c => ?_) (fun c => ?_)
  · rw [if_pos c] at e
    refine g_iload_n k_Rea_readClause_24 rfl rfl ?_
    refine g_if_ne (tgt := 38) k_Rea_readClause_25 (by decide) (fun c => ?_) (fun c => ?_)
    · rw [if_pos c] at e
      refine g_iload_n k_Rea_readClause_28 rfl rfl ?_
      refine g_if_ne (tgt := 38) k_Rea_readClause_29 (by decide) (fun c => ?_) (fun c => ?_)
      · rw [if_pos c] at e
        refine g_aload_n k_Rea_readClause_32 rfl rfl ?_
        refine g_iconst (v := 1) k_Rea_readClause_33 rfl ?_
        obtain ⟨y4, m5, e_y4, e⟩ := o_b2_ex e
        refine g_cv k_Rea_readClause_34 lv_Rea_53 (by decide +kernel) (T := F_Rea) (N := 8) (ci := 5) rfl (sk_Rea s) (s_Rea_fail (bc := 0) (bs := 0) s 1 m e_y4) rfl rfl (Nat.le_of_ble_eq_true rfl) (by simp [Value.category]) (by omega) (by omega) (by omega) ?_
        obtain ⟨q6, e⟩ := o_gd_ex e
        refine g_zret k_Rea_readClause_37 rfl (isb_or q6) ?_
        exact (by cases e; exact hq)
      · rw [if_neg c] at e
        exact (t_Rea_readClause_38 s F y1 y2 y3 m hq e hd)
    · rw [if_neg c] at e
      exact (t_Rea_readClause_38 s F y1 y2 y3 m hq e hd)
  · rw [if_neg c] at e
    exact (t_Rea_readClause_38 s F y1 y2 y3 m hq e hd)
def lb_Rea_readLens_42 (F : Nat) (rec_42 : Int32 → aM → Option (Int32 × aM)) (x2 : Int32) (m : aM) : Option (Int32 × aM) :=
  (if 400 < x2 then
  o_b2 (f_Rea_fail 1 m) fun y1 m2 =>
  o_gd (isb y1) <|
  some (y1, m2)
  else
  o_b2 (f_Rea_skipBlanks F  m) fun y4 m5 =>
  (if (m5 11 2) < (m5 11 1) then
  o_b2 (f_Rea_readClause F  m5) fun y6 m7 =>
  (if y6 = 0 then
  some (0, m7)
  else
  rec_42 (x2 + 1) m7
  )
  else
  some (1, m5)
  )
  )
theorem tb_Rea_readLens_42 {K : aK} {d bc bs : Nat} {g : aG} (s : Sys g) {Q : aQ} {r : Int32} {m' : aM} (F : Nat) (rec_42 : Int32 → aM → Option (Int32 × aM)) (hr_42 : ∀ (x2 : Int32) (m : aM), rec_42 x2 m = some (r, m') → G K M_Rea_readLens d bc bs 42 [.ref 11, .double 0, .int x2] [] (g, m) Q) (x2 : Int32) (m : aM) (hq : Q (.inl (some (.int r))) (g, m')) (e : lb_Rea_readLens_42 F rec_42 x2 m = some (r, m')) (hd : 531 ≤ d) : G K M_Rea_readLens d bc bs 42 [.ref 11, .double 0, .int x2] [] (g, m) Q := by
  unfold lb_Rea_readLens_42 at e
  refine g_iload_n k_Rea_readLens_42 rfl rfl ?_
  refine g_sipush (v := 400) k_Rea_readLens_43 rfl ?_
  refine g_icmp_gt (tgt := 81) k_Rea_readLens_46 (by decide) (fun c => ?_) (fun c => ?_)
  · rw [if_pos c] at e
    refine g_aload_n k_Rea_readLens_81 rfl rfl ?_
    refine g_iconst (v := 1) k_Rea_readLens_82 rfl ?_
    obtain ⟨y1, m2, e_y1, e⟩ := o_b2_ex e
    refine g_cv k_Rea_readLens_83 lv_Rea_53 (by decide +kernel) (T := F_Rea) (N := 8) (ci := 5) rfl (sk_Rea s) (s_Rea_fail (bc := 0) (bs := 0) s 1 m e_y1) rfl rfl (Nat.le_of_ble_eq_true rfl) (by simp [Value.category]) (by omega) (by omega) (by omega) ?_
    obtain ⟨q3, e⟩ := o_gd_ex e
    refine g_zret k_Rea_readLens_86 rfl (isb_or q3) ?_
    exact (by cases e; exact hq)
  · rw [if_neg c] at e
    refine g_aload_n k_Rea_readLens_49 rfl rfl ?_
    obtain ⟨y4, m5, e_y4, e⟩ := o_b2_ex e
    refine g_cv k_Rea_readLens_50 lv_Rea_46 (by decide +kernel) (T := F_Rea) (N := 8) (ci := 5) rfl (sk_Rea s) (s_Rea_skipBlanks (bc := 0) (bs := 0) s F  m e_y4) rfl rfl (Nat.le_of_ble_eq_true rfl) (by simp [Value.category]) (by omega) (by omega) (by omega) ?_
    refine g_aload_n k_Rea_readLens_53 rfl rfl ?_
    refine p_geti k_Rea_readLens_54 fl_Rea_29 rfl (sk_Rea s) (by decide) ?_
    refine g_aload_n k_Rea_readLens_57 rfl rfl ?_
    refine p_geti k_Rea_readLens_58 fl_Rea_25 rfl (sk_Rea s) (by decide) ?_
    refine g_icmp_lt (tgt := 66) k_Rea_readLens_61 (by decide) (fun c => ?_) (fun c => ?_)
    · rw [if_pos c] at e
      refine g_aload_n k_Rea_readLens_66 rfl rfl ?_
      obtain ⟨y6, m7, e_y6, e⟩ := o_b2_ex e
      refine g_cv k_Rea_readLens_67 lv_Rea_49 (by decide +kernel) (T := F_Rea) (N := 8) (ci := 5) rfl (sk_Rea s) (s_Rea_readClause (bc := 0) (bs := 0) s F  m5 e_y6 (by omega)) rfl rfl (Nat.le_of_ble_eq_true rfl) (by simp [Value.category]) (by omega) (by omega) (by omega) ?_
      refine g_if_ne (tgt := 75) k_Rea_readLens_70 (by decide) (fun c => ?_) (fun c => ?_)
      · rw [if_pos c] at e
        refine g_iconst (v := 0) k_Rea_readLens_73 rfl ?_
        refine g_zret k_Rea_readLens_74 rfl (by decide) ?_
        exact (by cases e; exact hq)
      · rw [if_neg c] at e
        refine g_iinc (v := _ + 1) k_Rea_readLens_75 rfl rfl (by decide) ?_
        refine g_goto (tgt := 42) k_Rea_readLens_78 (by decide) ?_
        exact (hr_42 (x2 + 1) m7 e)
    · rw [if_neg c] at e
      refine g_iconst (v := 1) k_Rea_readLens_64 rfl ?_
      refine g_zret k_Rea_readLens_65 rfl (by decide) ?_
      exact (by cases e; exact hq)
def ll_Rea_readLens_42 (F : Nat) : Nat → Int32 → aM → Option (Int32 × aM)
  | 0, _, _ => none
  | N + 1, x2, m => lb_Rea_readLens_42 F (ll_Rea_readLens_42 F N) x2 m
theorem t_Rea_readLens_42 {K : aK} {d bc bs : Nat} {g : aG} (s : Sys g) {Q : aQ} {r : Int32} {m' : aM} (F : Nat) : ∀ (N : Nat) (x2 : Int32) (m : aM), Q (.inl (some (.int r))) (g, m') → ll_Rea_readLens_42 F N x2 m = some (r, m') → 531 ≤ d → G K M_Rea_readLens d bc bs 42 [.ref 11, .double 0, .int x2] [] (g, m) Q
  | 0, _, _ => fun _ e => nomatch e
  | N + 1, x2, m => fun hq e hd => tb_Rea_readLens_42 s F (ll_Rea_readLens_42 F N) (fun x2 m e => t_Rea_readLens_42 s F N x2 m hq e hd) x2 m hq e hd
def f_Rea_readLens (F : Nat) (x1 : Int32) (m : aM) : Option (Int32 × aM) :=
  o_let ((if 400 < x1 then 400 else x1)) fun y1 =>
  o_let (a_st m 11 1 y1) fun m2 =>
  o_let (a_st m2 11 2 0) fun m3 =>
  o_let (a_st m3 11 3 0) fun m4 =>
  o_let (a_st m4 11 6 0) fun m5 =>
  o_let (a_st m5 11 7 (-1)) fun m6 =>
  o_b2 (f_Len_empty F 12 m6) fun y7 m8 =>
  ll_Rea_readLens_42 F F 0 m8
theorem s_Rea_readLens {K : aK} {d bc bs : Nat} {g : aG} (s : Sys g) (F : Nat) (x1 : Int32) (m : aM) {r : Int32} {m' : aM} (e : f_Rea_readLens F x1 m = some (r, m')) (hd : 531 ≤ d) : Sp K M_Rea_readLens d bc bs [.ref 11, .int x1] (g, m) (some (.int r)) (g, m') := by
  refine sp_of ok_Rea_readLens rfl (Nat.le_of_ble_eq_true rfl) (by simp [Value.category]) (fun Q hq => ?_)
  unfold f_Rea_readLens at e
  refine g_aload_n k_Rea_readLens_0 rfl rfl ?_
  refine g_iload_n k_Rea_readLens_1 rfl rfl ?_
  refine g_aload_n k_Rea_readLens_2 rfl rfl ?_
  refine p_getr k_Rea_readLens_3 fl_Rea_9 rfl (sk_Rea s) (by decide) (sr_Rea_0 s) ?_
  refine p_alen (v := 400) k_Rea_readLens_6 (sa_Led_0 s) (by decide) rfl ?_
  refine g_mn k_Rea_readLens_7 mw_Rea_19 (Nat.le_of_ble_eq_true rfl) (by omega) ?_
  obtain ⟨y1, u_y1, e⟩ := o_let_ex e
  refine G.vy u_y1 ?_
  refine p_puti k_Rea_readLens_10 fl_Rea_25 rfl ⟨R_Rea, F_Rea, 8, rfl, Or.inl rfl⟩ (sk_Rea s) (by decide) ?_
  obtain ⟨m2, u_m2, e⟩ := o_let_ex e
  refine G.hm u_m2 ?_
  refine g_aload_n k_Rea_readLens_13 rfl rfl ?_
  refine g_iconst (v := 0) k_Rea_readLens_14 rfl ?_
  refine p_puti k_Rea_readLens_15 fl_Rea_29 rfl ⟨R_Rea, F_Rea, 8, rfl, Or.inl rfl⟩ (sk_Rea s) (by decide) ?_
  obtain ⟨m3, u_m3, e⟩ := o_let_ex e
  refine G.hm u_m3 ?_
  refine g_aload_n k_Rea_readLens_18 rfl rfl ?_
  refine g_iconst (v := 0) k_Rea_readLens_19 rfl ?_
  refine p_puti k_Rea_readLens_20 fl_Rea_32 rfl ⟨R_Rea, F_Rea, 8, rfl, Or.inl rfl⟩ (sk_Rea s) (by decide) ?_
  obtain ⟨m4, u_m4, e⟩ := o_let_ex e
  refine G.hm u_m4 ?_
  refine g_aload_n k_Rea_readLens_23 rfl rfl ?_
  refine g_iconst (v := 0) k_Rea_readLens_24 rfl ?_
  refine p_puti k_Rea_readLens_25 fl_Rea_35 rfl ⟨R_Rea, F_Rea, 8, rfl, Or.inl rfl⟩ (sk_Rea s) (by decide) ?_
  obtain ⟨m5, u_m5, e⟩ := o_let_ex e
  refine G.hm u_m5 ?_
  refine g_aload_n k_Rea_readLens_28 rfl rfl ?_
  refine g_iconst (v := (-1)) k_Rea_readLens_29 rfl ?_
  refine p_puti k_Rea_readLens_30 fl_Rea_38 rfl ⟨R_Rea, F_Rea, 8, rfl, Or.inl rfl⟩ (sk_Rea s) (by decide) ?_
  obtain ⟨m6, u_m6, e⟩ := o_let_ex e
  refine G.hm u_m6 ?_
  refine g_aload_n k_Rea_readLens_33 rfl rfl ?_
  refine p_getr k_Rea_readLens_34 fl_Rea_15 rfl (sk_Rea s) (by decide) (sr_Rea_5 s) ?_
  obtain ⟨y7, m8, e_y7, e⟩ := o_b2_ex e
  refine g_cv k_Rea_readLens_37 lv_Rea_41 (by decide +kernel) (T := F_Len) (N := 11) (ci := 2) rfl (sk_Len (sy_dra s)) (s_Len_empty (bc := 0) (bs := 0) s F 12 (sy_dra s) m6 e_y7) rfl rfl (Nat.le_of_ble_eq_true rfl) (by simp [Value.category]) (by omega) (by omega) (by omega) ?_
  refine g_iconst (v := 0) k_Rea_readLens_40 rfl ?_
  refine g_istore_n k_Rea_readLens_41 rfl (by decide) ?_
  exact G.wl (wls (wld (wls wl0))) (t_Rea_readLens_42 s F F 0 m8 hq e hd)
