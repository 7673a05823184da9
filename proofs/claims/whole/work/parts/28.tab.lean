/-! Table (made by wip/gen/auto2.py) -/
def b_Tab_manyOf_29 (F : Nat) (rec_4 : Int32 → Int32 → Int32 → aM → Option Int32) (x1 : Int32) (x3 : Int32) (xt0 : Int32) (xt1 : Int32) (m : aM) : Option Int32 :=
  rec_4 x1 (xt1 + xt0) (x3 + 1) m
theorem t_Tab_manyOf_29 {K : aK} {d bc bs : Nat} {g : aG} (s : Sys g) {Q : aQ} {r : Int32} (F : Nat) (m : aM) (rec_4 : Int32 → Int32 → Int32 → aM → Option Int32) (hr_4 : ∀ (x1 : Int32) (x2 : Int32) (x3 : Int32), rec_4 x1 x2 x3 m = some r → G K M_Tab_manyOf d bc bs 4 [.ref 37, .int x1, .int x2, .int x3] [] (g, m) Q) (x1 : Int32) (x3 : Int32) (xt0 : Int32) (xt1 : Int32) (hq : Q (.inl (some (.int r))) (g, m)) (e : b_Tab_manyOf_29 F rec_4 x1 x3 xt0 xt1 m = some r) : G K M_Tab_manyOf d bc bs 29 [.ref 37, .int x1, .double 0, .int x3] [.int xt0, .int xt1] (g, m) Q := by
  unfold b_Tab_manyOf_29 at e
  refine g_iadd k_Tab_manyOf_29 ?_
  refine g_istore_n k_Tab_manyOf_30 rfl (by decide) ?_
  refine g_iinc (v := _ + 1) k_Tab_manyOf_31 rfl rfl (by decide) ?_
  refine g_goto (tgt := 4) k_Tab_manyOf_34 (by decide) ?_
  exact (hr_4 x1 (xt1 + xt0) (x3 + 1)  e)
def lb_Tab_manyOf_4 (F : Nat) (rec_4 : Int32 → Int32 → Int32 → aM → Option Int32) (x1 : Int32) (x2 : Int32) (x3 : Int32) (m : aM) : Option Int32 :=
  (if 40 ≤ x3 then
  some x2
  else
  o_gd (inb x3 40) <|
  (if (m (rwp x3) 3) = x1 then
  b_Tab_manyOf_29 F rec_4 x1 x3 1 x2 m
  else
  b_Tab_manyOf_29 F rec_4 x1 x3 0 x2 m
  )
  )
theorem tb_Tab_manyOf_4 {K : aK} {d bc bs : Nat} {g : aG} (s : Sys g) {Q : aQ} {r : Int32} (F : Nat) (m : aM) (rec_4 : Int32 → Int32 → Int32 → aM → Option Int32) (hr_4 : ∀ (x1 : Int32) (x2 : Int32) (x3 : Int32), rec_4 x1 x2 x3 m = some r → G K M_Tab_manyOf d bc bs 4 [.ref 37, .int x1, .int x2, .int x3] [] (g, m) Q) (x1 : Int32) (x2 : Int32) (x3 : Int32) (hq : Q (.inl (some (.int r))) (g, m)) (e : lb_Tab_manyOf_4 F rec_4 x1 x2 x3 m = some r) : G K M_Tab_manyOf d bc bs 4 [.ref 37, .int x1, .int x2, .int x3] [] (g, m) Q := by
  unfold lb_Tab_manyOf_4 at e
  refine g_iload_n k_Tab_manyOf_4 rfl rfl ?_
  refine g_bipush (v := 40) k_Tab_manyOf_5 rfl ?_
  refine g_icmp_ge (tgt := 37) k_Tab_manyOf_7 (by decide) (fun c => ?_) (fun c => ?_)
  · rw [if_pos c] at e
    refine g_iload_n k_Tab_manyOf_37 rfl rfl ?_
    refine g_iret k_Tab_manyOf_38 rfl ?_
    exact (by cases e; exact hq)
  · rw [if_neg c] at e
    refine g_iload_n k_Tab_manyOf_10 rfl rfl ?_
    refine g_aload_n k_Tab_manyOf_11 rfl rfl ?_
    refine p_getr k_Tab_manyOf_12 fl_Tab_11 rfl (sk_Tab (sy_Tab s)) (by decide) (sr_Tab_2 (sy_Tab s)) ?_
    refine g_iload_n k_Tab_manyOf_15 rfl rfl ?_
    obtain ⟨q1, e⟩ := o_gd_ex e
    refine p_aald k_Tab_manyOf_16 (sa_Tab_2 (sy_Tab s)) (by decide) (by decide) (inb_in q1) (j := x3.toNatClampNeg) rfl (sy_rowr s (inb_in q1)) ?_
    refine p_geti k_Tab_manyOf_17 fl_Tab_40 rfl (sk_Row (sy_row s (inb_in q1))) (by decide) ?_
    refine g_iload_n k_Tab_manyOf_20 rfl rfl ?_
    refine g_icmp_ne (tgt := 28) k_Tab_manyOf_21 (by decide) (fun c => ?_) (fun c => ?_)
    · rw [if_pos c] at e
      refine g_iconst (v := 1) k_Tab_manyOf_24 rfl ?_
      refine g_goto (tgt := 29) k_Tab_manyOf_25 (by decide) ?_
      exact G.wl (wls (wls (wld (wls wl0)))) (t_Tab_manyOf_29 s F m rec_4 hr_4 x1 x3 1 x2  hq e)
    · rw [if_neg c] at e
      refine g_iconst (v := 0) k_Tab_manyOf_28 rfl ?_
      exact G.wl (wls (wls (wld (wls wl0)))) (t_Tab_manyOf_29 s F m rec_4 hr_4 x1 x3 0 x2  hq e)
def ll_Tab_manyOf_4 (F : Nat) : Nat → Int32 → Int32 → Int32 → aM → Option Int32
  | 0, _, _, _, _ => none
  | N + 1, x1, x2, x3, m => lb_Tab_manyOf_4 F (ll_Tab_manyOf_4 F N) x1 x2 x3 m
theorem t_Tab_manyOf_4 {K : aK} {d bc bs : Nat} {g : aG} (s : Sys g) {Q : aQ} {r : Int32} (F : Nat) (m : aM) : ∀ (N : Nat) (x1 : Int32) (x2 : Int32) (x3 : Int32), Q (.inl (some (.int r))) (g, m) → ll_Tab_manyOf_4 F N x1 x2 x3 m = some r → G K M_Tab_manyOf d bc bs 4 [.ref 37, .int x1, .int x2, .int x3] [] (g, m) Q
  | 0, _, _, _ => fun _ e => nomatch e
  | N + 1, x1, x2, x3 => fun hq e => tb_Tab_manyOf_4 s F m (ll_Tab_manyOf_4 F N) (fun x1 x2 x3 e => t_Tab_manyOf_4 s F m N x1 x2 x3 hq e) x1 x2 x3 hq e
def f_Tab_manyOf (F : Nat) (x1 : Int32) (m : aM) : Option Int32 :=
  ll_Tab_manyOf_4 F F x1 0 0 m
theorem s_Tab_manyOf {K : aK} {d bc bs : Nat} {g : aG} (s : Sys g) (F : Nat) (x1 : Int32) (m : aM) {r : Int32} (e : f_Tab_manyOf F x1 m = some r) : Sp K M_Tab_manyOf d bc bs [.ref 37, .int x1] (g, m) (some (.int r)) (g, m) := by
  refine sp_of ok_Tab_manyOf rfl (Nat.le_of_ble_eq_true rfl) (by simp [Value.category]) (fun Q hq => ?_)
  unfold f_Tab_manyOf at e
  refine g_iconst (v := 0) k_Tab_manyOf_0 rfl ?_
  refine g_istore_n k_Tab_manyOf_1 rfl (by decide) ?_
  refine g_iconst (v := 0) k_Tab_manyOf_2 rfl ?_
  refine g_istore_n k_Tab_manyOf_3 rfl (by decide) ?_
  exact (t_Tab_manyOf_4 s F m F x1 0 0  hq e)
def b_Tab_manyBroken_28 (F : Nat) (rec_4 : Int32 → Int32 → aM → Option Int32) (x2 : Int32) (xt0 : Int32) (xt1 : Int32) (m : aM) : Option Int32 :=
  rec_4 (xt1 + xt0) (x2 + 1) m
theorem t_Tab_manyBroken_28 {K : aK} {d bc bs : Nat} {g : aG} (s : Sys g) {Q : aQ} {r : Int32} (F : Nat) (m : aM) (rec_4 : Int32 → Int32 → aM → Option Int32) (hr_4 : ∀ (x1 : Int32) (x2 : Int32), rec_4 x1 x2 m = some r → G K M_Tab_manyBroken d bc bs 4 [.ref 37, .int x1, .int x2] [] (g, m) Q) (x2 : Int32) (xt0 : Int32) (xt1 : Int32) (hq : Q (.inl (some (.int r))) (g, m)) (e : b_Tab_manyBroken_28 F rec_4 x2 xt0 xt1 m = some r) (hd : 1 ≤ d) : G K M_Tab_manyBroken d bc bs 28 [.ref 37, .double 0, .int x2] [.int xt0, .int xt1] (g, m) Q := by
  unfold b_Tab_manyBroken_28 at e
  refine g_iadd k_Tab_manyBroken_28 ?_
  refine g_istore_n k_Tab_manyBroken_29 rfl (by decide) ?_
  refine g_iinc (v := _ + 1) k_Tab_manyBroken_30 rfl rfl (by decide) ?_
  refine g_goto (tgt := 4) k_Tab_manyBroken_33 (by decide) ?_
  exact (hr_4 (xt1 + xt0) (x2 + 1)  e)
def lb_Tab_manyBroken_4 (F : Nat) (rec_4 : Int32 → Int32 → aM → Option Int32) (x1 : Int32) (x2 : Int32) (m : aM) : Option Int32 :=
  (if 40 ≤ x2 then
  some x1
  else
  o_gd (inb x2 40) <|
  o_b (f_Row_isBroken (rwp x2) m) fun y2 =>
  (if y2 = 0 then
  b_Tab_manyBroken_28 F rec_4 x2 0 x1 m
  else
  b_Tab_manyBroken_28 F rec_4 x2 1 x1 m
  )
  )
theorem tb_Tab_manyBroken_4 {K : aK} {d bc bs : Nat} {g : aG} (s : Sys g) {Q : aQ} {r : Int32} (F : Nat) (m : aM) (rec_4 : Int32 → Int32 → aM → Option Int32) (hr_4 : ∀ (x1 : Int32) (x2 : Int32), rec_4 x1 x2 m = some r → G K M_Tab_manyBroken d bc bs 4 [.ref 37, .int x1, .int x2] [] (g, m) Q) (x1 : Int32) (x2 : Int32) (hq : Q (.inl (some (.int r))) (g, m)) (e : lb_Tab_manyBroken_4 F rec_4 x1 x2 m = some r) (hd : 1 ≤ d) : G K M_Tab_manyBroken d bc bs 4 [.ref 37, .int x1, .int x2] [] (g, m) Q := by
  unfold lb_Tab_manyBroken_4 at e
  refine g_iload_n k_Tab_manyBroken_4 rfl rfl ?_
  refine g_bipush (v := 40) k_Tab_manyBroken_5 rfl ?_
  refine g_icmp_ge (tgt := 36) k_Tab_manyBroken_7 (by decide) (fun c => ?_) (fun c => ?_)
  · rw [if_pos c] at e
    refine g_iload_n k_Tab_manyBroken_36 rfl rfl ?_
    refine g_iret k_Tab_manyBroken_37 rfl ?_
    exact (by cases e; exact hq)
  · rw [if_neg c] at e
    refine g_iload_n k_Tab_manyBroken_10 rfl rfl ?_
    refine g_aload_n k_Tab_manyBroken_11 rfl rfl ?_
    refine p_getr k_Tab_manyBroken_12 fl_Tab_11 rfl (sk_Tab (sy_Tab s)) (by decide) (sr_Tab_2 (sy_Tab s)) ?_
    refine g_iload_n k_Tab_manyBroken_15 rfl rfl ?_
    obtain ⟨q1, e⟩ := o_gd_ex e
    refine p_aald k_Tab_manyBroken_16 (sa_Tab_2 (sy_Tab s)) (by decide) (by decide) (inb_in q1) (j := x2.toNatClampNeg) rfl (sy_rowr s (inb_in q1)) ?_
    obtain ⟨y2, e_y2, e⟩ := o_b_ex e
    refine g_cv k_Tab_manyBroken_17 lv_Tab_177 (by decide +kernel) (T := F_Row) (N := 8) (ci := 6) rfl (sk_Row (sy_row s (inb_in q1))) (s_Row_isBroken (bc := 0) (bs := 0) s (rwp x2) (sy_row s (inb_in q1)) m e_y2) rfl rfl (Nat.le_of_ble_eq_true rfl) (by simp [Value.category]) (by omega) (by omega) (by omega) ?_
    refine g_if_eq (tgt := 27) k_Tab_manyBroken_20 (by decide) (fun c => ?_) (fun c => ?_)
    · rw [if_pos c] at e
      refine g_iconst (v := 0) k_Tab_manyBroken_27 rfl ?_
      exact G.wl (wls (wld (wls wl0))) (t_Tab_manyBroken_28 s F m rec_4 hr_4 x2 0 x1  hq e hd)
    · rw [if_neg c] at e
      refine g_iconst (v := 1) k_Tab_manyBroken_23 rfl ?_
      refine g_goto (tgt := 28) k_Tab_manyBroken_24 (by decide) ?_
      exact G.wl (wls (wld (wls wl0))) (t_Tab_manyBroken_28 s F m rec_4 hr_4 x2 1 x1  hq e hd)
def ll_Tab_manyBroken_4 (F : Nat) : Nat → Int32 → Int32 → aM → Option Int32
  | 0, _, _, _ => none
  | N + 1, x1, x2, m => lb_Tab_manyBroken_4 F (ll_Tab_manyBroken_4 F N) x1 x2 m
theorem t_Tab_manyBroken_4 {K : aK} {d bc bs : Nat} {g : aG} (s : Sys g) {Q : aQ} {r : Int32} (F : Nat) (m : aM) : ∀ (N : Nat) (x1 : Int32) (x2 : Int32), Q (.inl (some (.int r))) (g, m) → ll_Tab_manyBroken_4 F N x1 x2 m = some r → 1 ≤ d → G K M_Tab_manyBroken d bc bs 4 [.ref 37, .int x1, .int x2] [] (g, m) Q
  | 0, _, _ => fun _ e => nomatch e
  | N + 1, x1, x2 => fun hq e hd => tb_Tab_manyBroken_4 s F m (ll_Tab_manyBroken_4 F N) (fun x1 x2 e => t_Tab_manyBroken_4 s F m N x1 x2 hq e hd) x1 x2 hq e hd
def f_Tab_manyBroken (F : Nat)  (m : aM) : Option Int32 :=
  ll_Tab_manyBroken_4 F F 0 0 m
theorem s_Tab_manyBroken {K : aK} {d bc bs : Nat} {g : aG} (s : Sys g) (F : Nat)  (m : aM) {r : Int32} (e : f_Tab_manyBroken F  m = some r) (hd : 1 ≤ d) : Sp K M_Tab_manyBroken d bc bs [.ref 37] (g, m) (some (.int r)) (g, m) := by
  refine sp_of ok_Tab_manyBroken rfl (Nat.le_of_ble_eq_true rfl) (by simp [Value.category]) (fun Q hq => ?_)
  unfold f_Tab_manyBroken at e
  refine g_iconst (v := 0) k_Tab_manyBroken_0 rfl ?_
  refine g_istore_n k_Tab_manyBroken_1 rfl (by decide) ?_
  refine g_iconst (v := 0) k_Tab_manyBroken_2 rfl ?_
  refine g_istore_n k_Tab_manyBroken_3 rfl (by decide) ?_
  exact (t_Tab_manyBroken_4 s F m F 0 0  hq e hd)
def f_Tab_isOdd (F : Nat) (a1 : Nat) (m : aM) : Option (Int32 × aM) :=
  (if (m a1 3) = 1 then
  o_b2 (f_Len_toNew F 2 (a1 + 1) 40 m) fun y1 m2 =>
  o_b (f_Led_areAlike F 40 (a1 + 2) m2) fun y3 =>
  (if y3 = 0 then
  some (1, m2)
  else
  some (0, m2)
  )
  else
  some (0, m)
  )
theorem s_Tab_isOdd {K : aK} {d bc bs : Nat} {g : aG} (s : Sys g) (F : Nat) (a1 : Nat) (s1 : ShRow g a1) (m : aM) {r : Int32} {m' : aM} (e : f_Tab_isOdd F a1 m = some (r, m')) (hd : 3 ≤ d) : Sp K M_Tab_isOdd d bc bs [.ref 37, .ref a1] (g, m) (some (.int r)) (g, m') := by
  refine sp_of ok_Tab_isOdd rfl (Nat.le_of_ble_eq_true rfl) (by simp [Value.category]) (fun Q hq => ?_)
  unfold f_Tab_isOdd at e
  refine g_aload_n k_Tab_isOdd_0 rfl rfl ?_
  refine p_geti k_Tab_isOdd_1 fl_Tab_40 rfl (sk_Row s1) (by decide) ?_
  refine g_iconst (v := 1) k_Tab_isOdd_4 rfl ?_
  refine g_icmp_eq (tgt := 10) k_Tab_isOdd_5 (by decide) (fun c => ?_) (fun c => ?_)
  · rw [if_pos c] at e
    refine g_aload_n k_Tab_isOdd_10 rfl rfl ?_
    refine p_getr k_Tab_isOdd_11 fl_Tab_27 rfl (sk_Tab (sy_Tab s)) (by decide) (sr_Tab_0 s) ?_
    refine g_aload_n k_Tab_isOdd_14 rfl rfl ?_
    refine p_getr k_Tab_isOdd_15 fl_Tab_92 rfl (sk_Row s1) (by decide) (sr_Row_0 s1) ?_
    refine g_aload_n k_Tab_isOdd_18 rfl rfl ?_
    refine p_getr k_Tab_isOdd_19 fl_Tab_21 rfl (sk_Tab (sy_Tab s)) (by decide) (sr_Tab_4 (sy_Tab s)) ?_
    obtain ⟨y1, m2, e_y1, e⟩ := o_b2_ex e
    refine g_cv k_Tab_isOdd_22 lv_Tab_98 (by decide +kernel) (T := F_Len) (N := 11) (ci := 2) rfl (sk_Len (sy_len s)) (s_Len_toNew (bc := 0) (bs := 0) s F 2 (sy_len s) (a1 + 1) (sa_Row_0 s1) 40 (sa_Tab_4 (sy_Tab s)) m e_y1 (by omega)) rfl rfl (Nat.le_of_ble_eq_true rfl) (by simp [Value.category]) (by omega) (by omega) (by omega) ?_
    refine g_aload_n k_Tab_isOdd_25 rfl rfl ?_
    refine p_getr k_Tab_isOdd_26 fl_Tab_21 rfl (sk_Tab (sy_Tab s)) (by decide) (sr_Tab_4 (sy_Tab s)) ?_
    refine g_aload_n k_Tab_isOdd_29 rfl rfl ?_
    refine p_getr k_Tab_isOdd_30 fl_Tab_95 rfl (sk_Row s1) (by decide) (sr_Row_1 s1) ?_
    obtain ⟨y3, e_y3, e⟩ := o_b_ex e
    refine g_csn (M' := M_Led_areAlike) k_Tab_isOdd_33 nn_Tab_194 st_areAlike cm_Led_areAlike (by decide +kernel) (s_Led_areAlike (bc := 0) (bs := 0) s F 40 (sa_Tab_4 (sy_Tab s)) (a1 + 2) (sa_Row_1 s1) m2 e_y3) rfl rfl (Nat.le_of_ble_eq_true rfl) (by simp [Value.category]) (by omega) (by omega) (by omega) ?_
    refine g_if_ne (tgt := 43) k_Tab_isOdd_36 (by decide) (fun c => ?_) (fun c => ?_)
    · rw [if_pos c] at e
      refine g_iconst (v := 1) k_Tab_isOdd_39 rfl ?_
      refine g_goto (tgt := 44) k_Tab_isOdd_40 (by decide) ?_
      refine g_zret k_Tab_isOdd_44 rfl (by decide) ?_
      exact (by cases e; exact hq)
    · rw [if_neg c] at e
      refine g_iconst (v := 0) k_Tab_isOdd_43 rfl ?_
      refine g_zret k_Tab_isOdd_44 rfl (by decide) ?_
      exact (by cases e; exact hq)
  · rw [if_neg c] at e
    refine g_iconst (v := 0) k_Tab_isOdd_8 rfl ?_
    refine g_zret k_Tab_isOdd_9 rfl (by decide) ?_
    exact (by cases e; exact hq)
def b_Tab_manyOdd_29 (F : Nat) (rec_4 : Int32 → Int32 → aM → Option (Int32 × aM)) (x2 : Int32) (xt0 : Int32) (xt1 : Int32) (m : aM) : Option (Int32 × aM) :=
  rec_4 (xt1 + xt0) (x2 + 1) m
theorem t_Tab_manyOdd_29 {K : aK} {d bc bs : Nat} {g : aG} (s : Sys g) {Q : aQ} {r : Int32} {m' : aM} (F : Nat) (rec_4 : Int32 → Int32 → aM → Option (Int32 × aM)) (hr_4 : ∀ (x1 : Int32) (x2 : Int32) (m : aM), rec_4 x1 x2 m = some (r, m') → G K M_Tab_manyOdd d bc bs 4 [.ref 37, .int x1, .int x2] [] (g, m) Q) (x2 : Int32) (xt0 : Int32) (xt1 : Int32) (m : aM) (hq : Q (.inl (some (.int r))) (g, m')) (e : b_Tab_manyOdd_29 F rec_4 x2 xt0 xt1 m = some (r, m')) (hd : 4 ≤ d) : G K M_Tab_manyOdd d bc bs 29 [.ref 37, .double 0, .int x2] [.int xt0, .int xt1] (g, m) Q := by
  unfold b_Tab_manyOdd_29 at e
  refine g_iadd k_Tab_manyOdd_29 ?_
  refine g_istore_n k_Tab_manyOdd_30 rfl (by decide) ?_
  refine g_iinc (v := _ + 1) k_Tab_manyOdd_31 rfl rfl (by decide) ?_
  refine g_goto (tgt := 4) k_Tab_manyOdd_34 (by decide) ?_
  exact (hr_4 (xt1 + xt0) (x2 + 1) m e)
def lb_Tab_manyOdd_4 (F : Nat) (rec_4 : Int32 → Int32 → aM → Option (Int32 × aM)) (x1 : Int32) (x2 : Int32) (m : aM) : Option (Int32 × aM) :=
  (if 40 ≤ x2 then
  some (x1, m)
  else
  o_gd (inb x2 40) <|
  o_b2 (f_Tab_isOdd F (rwp x2) m) fun y2 m3 =>
  (if y2 = 0 then
  b_Tab_manyOdd_29 F rec_4 x2 0 x1 m3
  else
  b_Tab_manyOdd_29 F rec_4 x2 1 x1 m3
  )
  )
theorem tb_Tab_manyOdd_4 {K : aK} {d bc bs : Nat} {g : aG} (s : Sys g) {Q : aQ} {r : Int32} {m' : aM} (F : Nat) (rec_4 : Int32 → Int32 → aM → Option (Int32 × aM)) (hr_4 : ∀ (x1 : Int32) (x2 : Int32) (m : aM), rec_4 x1 x2 m = some (r, m') → G K M_Tab_manyOdd d bc bs 4 [.ref 37, .int x1, .int x2] [] (g, m) Q) (x1 : Int32) (x2 : Int32) (m : aM) (hq : Q (.inl (some (.int r))) (g, m')) (e : lb_Tab_manyOdd_4 F rec_4 x1 x2 m = some (r, m')) (hd : 4 ≤ d) : G K M_Tab_manyOdd d bc bs 4 [.ref 37, .int x1, .int x2] [] (g, m) Q := by
  unfold lb_Tab_manyOdd_4 at e
  refine g_iload_n k_Tab_manyOdd_4 rfl rfl ?_
  refine g_bipush (v := 40) k_Tab_manyOdd_5 rfl ?_
  refine g_icmp_ge (tgt := 37) k_Tab_manyOdd_7 (by decide) (fun c => ?_) (fun c => ?_)
  · rw [if_pos c] at e
    refine g_iload_n k_Tab_manyOdd_37 rfl rfl ?_
    refine g_iret k_Tab_manyOdd_38 rfl ?_
    exact (by cases e; exact hq)
  · rw [if_neg c] at e
    refine g_iload_n k_Tab_manyOdd_10 rfl rfl ?_
    refine g_aload_n k_Tab_manyOdd_11 rfl rfl ?_
    refine g_aload_n k_Tab_manyOdd_12 rfl rfl ?_
    refine p_getr k_Tab_manyOdd_13 fl_Tab_11 rfl (sk_Tab (sy_Tab s)) (by decide) (sr_Tab_2 (sy_Tab s)) ?_
    refine g_iload_n k_Tab_manyOdd_16 rfl rfl ?_
    obtain ⟨q1, e⟩ := o_gd_ex e
    refine p_aald k_Tab_manyOdd_17 (sa_Tab_2 (sy_Tab s)) (by decide) (by decide) (inb_in q1) (j := x2.toNatClampNeg) rfl (sy_rowr s (inb_in q1)) ?_
    obtain ⟨y2, m3, e_y2, e⟩ := o_b2_ex e
    refine g_cv k_Tab_manyOdd_18 lv_Tab_186 (by decide +kernel) (T := F_Tab) (N := 11) (ci := 7) rfl (sk_Tab (sy_Tab s)) (s_Tab_isOdd (bc := 0) (bs := 0) s F (rwp x2) (sy_row s (inb_in q1)) m e_y2 (by omega)) rfl rfl (Nat.le_of_ble_eq_true rfl) (by simp [Value.category]) (by omega) (by omega) (by omega) ?_
    refine g_if_eq (tgt := 28) k_Tab_manyOdd_21 (by decide) (fun c => ?_) (fun c => ?_)
    · rw [if_pos c] at e
      refine g_iconst (v := 0) k_Tab_manyOdd_28 rfl ?_
      exact G.wl (wls (wld (wls wl0))) (t_Tab_manyOdd_29 s F rec_4 hr_4 x2 0 x1 m3 hq e hd)
    · rw [if_neg c] at e
      refine g_iconst (v := 1) k_Tab_manyOdd_24 rfl ?_
      refine g_goto (tgt := 29) k_Tab_manyOdd_25 (by decide) ?_
      exact G.wl (wls (wld (wls wl0))) (t_Tab_manyOdd_29 s F rec_4 hr_4 x2 1 x1 m3 hq e hd)
def ll_Tab_manyOdd_4 (F : Nat) : Nat → Int32 → Int32 → aM → Option (Int32 × aM)
  | 0, _, _, _ => none
  | N + 1, x1, x2, m => lb_Tab_manyOdd_4 F (ll_Tab_manyOdd_4 F N) x1 x2 m
theorem t_Tab_manyOdd_4 {K : aK} {d bc bs : Nat} {g : aG} (s : Sys g) {Q : aQ} {r : Int32} {m' : aM} (F : Nat) : ∀ (N : Nat) (x1 : Int32) (x2 : Int32) (m : aM), Q (.inl (some (.int r))) (g, m') → ll_Tab_manyOdd_4 F N x1 x2 m = some (r, m') → 4 ≤ d → G K M_Tab_manyOdd d bc bs 4 [.ref 37, .int x1, .int x2] [] (g, m) Q
  | 0, _, _, _ => fun _ e => nomatch e
  | N + 1, x1, x2, m => fun hq e hd => tb_Tab_manyOdd_4 s F (ll_Tab_manyOdd_4 F N) (fun x1 x2 m e => t_Tab_manyOdd_4 s F N x1 x2 m hq e hd) x1 x2 m hq e hd
def f_Tab_manyOdd (F : Nat)  (m : aM) : Option (Int32 × aM) :=
  ll_Tab_manyOdd_4 F F 0 0 m
theorem s_Tab_manyOdd {K : aK} {d bc bs : Nat} {g : aG} (s : Sys g) (F : Nat)  (m : aM) {r : Int32} {m' : aM} (e : f_Tab_manyOdd F  m = some (r, m')) (hd : 4 ≤ d) : Sp K M_Tab_manyOdd d bc bs [.ref 37] (g, m) (some (.int r)) (g, m') := by
  refine sp_of ok_Tab_manyOdd rfl (Nat.le_of_ble_eq_true rfl) (by simp [Value.category]) (fun Q hq => ?_)
  unfold f_Tab_manyOdd at e
  refine g_iconst (v := 0) k_Tab_manyOdd_0 rfl ?_
  refine g_istore_n k_Tab_manyOdd_1 rfl (by decide) ?_
  refine g_iconst (v := 0) k_Tab_manyOdd_2 rfl ?_
  refine g_istore_n k_Tab_manyOdd_3 rfl (by decide) ?_
  exact (t_Tab_manyOdd_4 s F F 0 0 m hq e hd)
def b_Tab_mayGoOn_36 (F : Nat)  (m : aM) : Option (Int32 × aM) :=
  (if (m 37 6) = 3 then
  o_b (f_Tab_manyBroken F  m) fun y1 =>
  (if y1 = 0 then
  o_b2 (f_Tab_manyOdd F  m) fun y2 m3 =>
  (if y2 = 0 then
  some (1, m3)
  else
  some (0, m3)
  )
  else
  some (0, m)
  )
  else
  (if (m 37 6) = 4 then
  o_b (f_Ask_isOldAsked F ((m 37 7) - (m 37 10)) m) fun y4 =>
  (if y4 = 0 then
  some (1, m)
  else
  some (0, m)
  )
  else
  some (1, m)
  )
  )
theorem t_Tab_mayGoOn_36 {K : aK} {d bc bs : Nat} {g : aG} (s : Sys g) {Q : aQ} {r : Int32} {m' : aM} (F : Nat)  (m : aM) (hq : Q (.inl (some (.int r))) (g, m')) (e : b_Tab_mayGoOn_36 F  m = some (r, m')) (hd : 5 ≤ d) : G K M_Tab_mayGoOn d bc bs 36 [.ref 37] [] (g, m) Q := by
  unfold b_Tab_mayGoOn_36 at e
  refine g_aload_n k_Tab_mayGoOn_36 rfl rfl ?_
  refine p_geti k_Tab_mayGoOn_37 fl_Tab_43 rfl (sk_Tab (sy_Tab s)) (by decide) ?_
  refine g_iconst (v := 3) k_Tab_mayGoOn_40 rfl ?_
  refine g_icmp_ne (tgt := 64) k_Tab_mayGoOn_41 (by decide) (fun c => ?_) (fun c => ?_)
  · rw [if_pos c] at e
    refine g_aload_n k_Tab_mayGoOn_44 rfl rfl ?_
    obtain ⟨y1, e_y1, e⟩ := o_b_ex e
    refine g_cv k_Tab_mayGoOn_45 lv_Tab_57 (by decide +kernel) (T := F_Tab) (N := 11) (ci := 7) rfl (sk_Tab (sy_Tab s)) (s_Tab_manyBroken (bc := 0) (bs := 0) s F  m e_y1 (by omega)) rfl rfl (Nat.le_of_ble_eq_true rfl) (by simp [Value.category]) (by omega) (by omega) (by omega) ?_
    refine g_if_ne (tgt := 62) k_Tab_mayGoOn_48 (by decide) (fun c => ?_) (fun c => ?_)
    · rw [if_pos c] at e
      refine g_aload_n k_Tab_mayGoOn_51 rfl rfl ?_
      obtain ⟨y2, m3, e_y2, e⟩ := o_b2_ex e
      refine g_cv k_Tab_mayGoOn_52 lv_Tab_61 (by decide +kernel) (T := F_Tab) (N := 11) (ci := 7) rfl (sk_Tab (sy_Tab s)) (s_Tab_manyOdd (bc := 0) (bs := 0) s F  m e_y2 (by omega)) rfl rfl (Nat.le_of_ble_eq_true rfl) (by simp [Value.category]) (by omega) (by omega) (by omega) ?_
      refine g_if_ne (tgt := 62) k_Tab_mayGoOn_55 (by decide) (fun c => ?_) (fun c => ?_)
      · rw [if_pos c] at e
        refine g_iconst (v := 1) k_Tab_mayGoOn_58 rfl ?_
        refine g_goto (tgt := 63) k_Tab_mayGoOn_59 (by decide) ?_
        refine g_zret k_Tab_mayGoOn_63 rfl (by decide) ?_
        exact (by cases e; exact hq)
      · rw [if_neg c] at e
        refine g_iconst (v := 0) k_Tab_mayGoOn_62 rfl ?_
        refine g_zret k_Tab_mayGoOn_63 rfl (by decide) ?_
        exact (by cases e; exact hq)
    · rw [if_neg c] at e
      refine g_iconst (v := 0) k_Tab_mayGoOn_62 rfl ?_
      refine g_zret k_Tab_mayGoOn_63 rfl (by decide) ?_
      exact (by cases e; exact hq)
  · rw [if_neg c] at e
    refine g_aload_n k_Tab_mayGoOn_64 rfl rfl ?_
    refine p_geti k_Tab_mayGoOn_65 fl_Tab_43 rfl (sk_Tab (sy_Tab s)) (by decide) ?_
    refine g_iconst (v := 4) k_Tab_mayGoOn_68 rfl ?_
    refine g_icmp_ne (tgt := 91) k_Tab_mayGoOn_69 (by decide) (fun c => ?_) (fun c => ?_)
    · rw [if_pos c] at e
      refine g_aload_n k_Tab_mayGoOn_72 rfl rfl ?_
      refine p_getr k_Tab_mayGoOn_73 fl_Tab_31 rfl (sk_Tab (sy_Tab s)) (by decide) (sr_Tab_1 s) ?_
      refine g_aload_n k_Tab_mayGoOn_76 rfl rfl ?_
      refine p_geti k_Tab_mayGoOn_77 fl_Tab_64 rfl (sk_Tab (sy_Tab s)) (by decide) ?_
      refine g_aload_n k_Tab_mayGoOn_80 rfl rfl ?_
      refine p_geti k_Tab_mayGoOn_81 fl_Tab_36 rfl (sk_Tab (sy_Tab s)) (by decide) ?_
      refine g_isub k_Tab_mayGoOn_84 ?_
      obtain ⟨y4, e_y4, e⟩ := o_b_ex e
      refine g_cv k_Tab_mayGoOn_85 lv_Tab_67 (by decide +kernel) (T := F_Ask) (N := 1) (ci := 0) rfl (sk_Ask (sy_Ask s)) (s_Ask_isOldAsked (bc := 0) (bs := 0) s F ((m 37 7) - (m 37 10)) m e_y4 (by omega)) rfl rfl (Nat.le_of_ble_eq_true rfl) (by simp [Value.category]) (by omega) (by omega) (by omega) ?_
      refine g_if_ne (tgt := 95) k_Tab_mayGoOn_88 (by decide) (fun c => ?_) (fun c => ?_)
      · rw [if_pos c] at e
        refine g_iconst (v := 1) k_Tab_mayGoOn_91 rfl ?_
        refine g_goto (tgt := 96) k_Tab_mayGoOn_92 (by decide) ?_
        refine g_zret k_Tab_mayGoOn_96 rfl (by decide) ?_
        exact (by cases e; exact hq)
      · rw [if_neg c] at e
        refine g_iconst (v := 0) k_Tab_mayGoOn_95 rfl ?_
        refine g_zret k_Tab_mayGoOn_96 rfl (by decide) ?_
        exact (by cases e; exact hq)
    · rw [if_neg c] at e
      refine g_iconst (v := 1) k_Tab_mayGoOn_91 rfl ?_
      refine g_goto (tgt := 96) k_Tab_mayGoOn_92 (by decide) ?_
      refine g_zret k_Tab_mayGoOn_96 rfl (by decide) ?_
      exact (by cases e; exact hq)
def b_Tab_mayGoOn_18 (F : Nat)  (m : aM) : Option (Int32 × aM) :=
  (if (m 37 6) < 3 then
  b_Tab_mayGoOn_36 F  m
  else
  o_b (f_Tab_manyOf F 3 m) fun y1 =>
  (if y1 ≤ 0 then
  b_Tab_mayGoOn_36 F  m
  else
  some (0, m)
  )
  )
theorem t_Tab_mayGoOn_18 {K : aK} {d bc bs : Nat} {g : aG} (s : Sys g) {Q : aQ} {r : Int32} {m' : aM} (F : Nat)  (m : aM) (hq : Q (.inl (some (.int r))) (g, m')) (e : b_Tab_mayGoOn_18 F  m = some (r, m')) (hd : 5 ≤ d) : G K M_Tab_mayGoOn d bc bs 18 [.ref 37] [] (g, m) Q := by
  unfold b_Tab_mayGoOn_18 at e
  refine g_aload_n k_Tab_mayGoOn_18 rfl rfl ?_
  refine p_geti k_Tab_mayGoOn_19 fl_Tab_43 rfl (sk_Tab (sy_Tab s)) (by decide) ?_
  refine g_iconst (v := 3) k_Tab_mayGoOn_22 rfl ?_
  refine g_icmp_lt (tgt := 36) k_Tab_mayGoOn_23 (by decide) (fun c => ?_) (fun c => ?_)
  · rw [if_pos c] at e
    exact (t_Tab_mayGoOn_36 s F  m hq e hd)
  · rw [if_neg c] at e
    refine g_aload_n k_Tab_mayGoOn_26 rfl rfl ?_
    refine g_iconst (v := 3) k_Tab_mayGoOn_27 rfl ?_
    obtain ⟨y1, e_y1, e⟩ := o_b_ex e
    refine g_cv k_Tab_mayGoOn_28 lv_Tab_53 (by decide +kernel) (T := F_Tab) (N := 11) (ci := 7) rfl (sk_Tab (sy_Tab s)) (s_Tab_manyOf (bc := 0) (bs := 0) s F 3 m e_y1) rfl rfl (Nat.le_of_ble_eq_true rfl) (by simp [Value.category]) (by omega) (by omega) (by omega) ?_
    refine g_if_le (tgt := 36) k_Tab_mayGoOn_31 (by decide) (fun c => ?_) (fun c => ?_)
    · rw [if_pos c] at e
      exact (t_Tab_mayGoOn_36 s F  m hq e hd)
    · rw [if_neg c] at e
      refine g_iconst (v := 0) k_Tab_mayGoOn_34 rfl ?_
      refine g_zret k_Tab_mayGoOn_35 rfl (by decide) ?_
      exact (by cases e; exact hq)
def f_Tab_mayGoOn (F : Nat)  (m : aM) : Option (Int32 × aM) :=
  (if (m 37 6) < 2 then
  b_Tab_mayGoOn_18 F  m
  else
  o_b (f_Tab_manyOf F 0 m) fun y1 =>
  (if y1 ≤ 0 then
  b_Tab_mayGoOn_18 F  m
  else
  some (0, m)
  )
  )
theorem s_Tab_mayGoOn {K : aK} {d bc bs : Nat} {g : aG} (s : Sys g) (F : Nat)  (m : aM) {r : Int32} {m' : aM} (e : f_Tab_mayGoOn F  m = some (r, m')) (hd : 5 ≤ d) : Sp K M_Tab_mayGoOn d bc bs [.ref 37] (g, m) (some (.int r)) (g, m') := by
  refine sp_of ok_Tab_mayGoOn rfl (Nat.le_of_ble_eq_true rfl) (by simp [Value.category]) (fun Q hq => ?_)
  unfold f_Tab_mayGoOn at e
  refine g_aload_n k_Tab_mayGoOn_0 rfl rfl ?_
  refine p_geti k_Tab_mayGoOn_1 fl_Tab_43 rfl (sk_Tab (sy_Tab s)) (by decide) ?_
  refine g_iconst (v := 2) k_Tab_mayGoOn_4 rfl ?_
  refine g_icmp_lt (tgt := 18) k_Tab_mayGoOn_5 (by decide) (fun c => ?_) (fun c => ?_)
  · rw [if_pos c] at e
    exact (t_Tab_mayGoOn_18 s F  m hq e hd)
  · rw [if_neg c] at e
    refine g_aload_n k_Tab_mayGoOn_8 rfl rfl ?_
    refine g_iconst (v := 0) k_Tab_mayGoOn_9 rfl ?_
    obtain ⟨y1, e_y1, e⟩ := o_b_ex e
    refine g_cv k_Tab_mayGoOn_10 lv_Tab_53 (by decide +kernel) (T := F_Tab) (N := 11) (ci := 7) rfl (sk_Tab (sy_Tab s)) (s_Tab_manyOf (bc := 0) (bs := 0) s F 0 m e_y1) rfl rfl (Nat.le_of_ble_eq_true rfl) (by simp [Value.category]) (by omega) (by omega) (by omega) ?_
    refine g_if_le (tgt := 18) k_Tab_mayGoOn_13 (by decide) (fun c => ?_) (fun c => ?_)
    · rw [if_pos c] at e
      exact (t_Tab_mayGoOn_18 s F  m hq e hd)
    · rw [if_neg c] at e
      refine g_iconst (v := 0) k_Tab_mayGoOn_16 rfl ?_
      refine g_zret k_Tab_mayGoOn_17 rfl (by decide) ?_
      exact (by cases e; exact hq)
def b_Tab_dropOldForm_28 (F : Nat) (rec_2 : Int32 → aM → Option (Int32 × aM)) (x1 : Int32) (m : aM) : Option (Int32 × aM) :=
  rec_2 (x1 + 1) m
theorem t_Tab_dropOldForm_28 {K : aK} {d bc bs : Nat} {g : aG} (s : Sys g) {Q : aQ} {r : Int32} {m' : aM} (F : Nat) (rec_2 : Int32 → aM → Option (Int32 × aM)) (hr_2 : ∀ (x1 : Int32) (m : aM), rec_2 x1 m = some (r, m') → G K M_Tab_dropOldForm d bc bs 2 [.ref 37, .int x1, .double 0] [] (g, m) Q) (x1 : Int32) (m : aM) (hq : Q (.inl none) (g, m')) (e : b_Tab_dropOldForm_28 F rec_2 x1 m = some (r, m')) : G K M_Tab_dropOldForm d bc bs 28 [.ref 37, .int x1, .double 0] [] (g, m) Q := by
  unfold b_Tab_dropOldForm_28 at e
  refine g_iinc (v := _ + 1) k_Tab_dropOldForm_28 rfl rfl (by decide) ?_
  refine g_goto (tgt := 2) k_Tab_dropOldForm_31 (by decide) ?_
  exact (hr_2 (x1 + 1) m e)
def lb_Tab_dropOldForm_2 (F : Nat) (rec_2 : Int32 → aM → Option (Int32 × aM)) (x1 : Int32) (m : aM) : Option (Int32 × aM) :=
  (if 40 ≤ x1 then
  some (0, m)
  else
  o_gd (inb x1 40) <|
  (if (m (rwp x1) 3) = 1 then
  o_let (a_st m (rwp x1) 3 2) fun m2 =>
  b_Tab_dropOldForm_28 F rec_2 x1 m2
  else
  b_Tab_dropOldForm_28 F rec_2 x1 m
  )
  )
theorem tb_Tab_dropOldForm_2 {K : aK} {d bc bs : Nat} {g : aG} (s : Sys g) {Q : aQ} {r : Int32} {m' : aM} (F : Nat) (rec_2 : Int32 → aM → Option (Int32 × aM)) (hr_2 : ∀ (x1 : Int32) (m : aM), rec_2 x1 m = some (r, m') → G K M_Tab_dropOldForm d bc bs 2 [.ref 37, .int x1, .double 0] [] (g, m) Q) (x1 : Int32) (m : aM) (hq : Q (.inl none) (g, m')) (e : lb_Tab_dropOldForm_2 F rec_2 x1 m = some (r, m')) : G K M_Tab_dropOldForm d bc bs 2 [.ref 37, .int x1, .double 0] [] (g, m) Q := by
  unfold lb_Tab_dropOldForm_2 at e
  refine g_iload_n k_Tab_dropOldForm_2 rfl rfl ?_
  refine g_bipush (v := 40) k_Tab_dropOldForm_3 rfl ?_
  refine g_icmp_ge (tgt := 34) k_Tab_dropOldForm_5 (by decide) (fun c => ?_) (fun c => ?_)
  · rw [if_pos c] at e
    refine g_vret k_Tab_dropOldForm_34 rfl ?_
    exact (by cases e; exact hq)
  · rw [if_neg c] at e
    refine g_aload_n k_Tab_dropOldForm_8 rfl rfl ?_
    refine p_getr k_Tab_dropOldForm_9 fl_Tab_11 rfl (sk_Tab (sy_Tab s)) (by decide) (sr_Tab_2 (sy_Tab s)) ?_
    refine g_iload_n k_Tab_dropOldForm_12 rfl rfl ?_
    obtain ⟨q1, e⟩ := o_gd_ex e
    refine p_aald k_Tab_dropOldForm_13 (sa_Tab_2 (sy_Tab s)) (by decide) (by decide) (inb_in q1) (j := x1.toNatClampNeg) rfl (sy_rowr s (inb_in q1)) ?_
    refine g_astore_n k_Tab_dropOldForm_14 rfl (by decide) ?_
    refine g_aload_n k_Tab_dropOldForm_15 rfl rfl ?_
    refine p_geti k_Tab_dropOldForm_16 fl_Tab_40 rfl (sk_Row (sy_row s (inb_in q1))) (by decide) ?_
    refine g_iconst (v := 1) k_Tab_dropOldForm_19 rfl ?_
    refine g_icmp_ne (tgt := 28) k_Tab_dropOldForm_20 (by decide) (fun c => ?_) (fun c => ?_)
    · rw [if_pos c] at e
      refine g_aload_n k_Tab_dropOldForm_23 rfl rfl ?_
      refine g_iconst (v := 2) k_Tab_dropOldForm_24 rfl ?_
      refine p_puti k_Tab_dropOldForm_25 fl_Tab_40 rfl ⟨R_Row, F_Row, 8, rfl, Or.inl rfl⟩ (sk_Row (sy_row s (inb_in q1))) (by decide) ?_
      obtain ⟨m2, u_m2, e⟩ := o_let_ex e
      refine G.hm u_m2 ?_
      exact G.wl (wls (wls (wld wl0))) (t_Tab_dropOldForm_28 s F rec_2 hr_2 x1 m2 hq e)
    · rw [if_neg c] at e
      exact G.wl (wls (wls (wld wl0))) (t_Tab_dropOldForm_28 s F rec_2 hr_2 x1 m hq e)
def ll_Tab_dropOldForm_2 (F : Nat) : Nat → Int32 → aM → Option (Int32 × aM)
  | 0, _, _ => none
  | N + 1, x1, m => lb_Tab_dropOldForm_2 F (ll_Tab_dropOldForm_2 F N) x1 m
theorem t_Tab_dropOldForm_2 {K : aK} {d bc bs : Nat} {g : aG} (s : Sys g) {Q : aQ} {r : Int32} {m' : aM} (F : Nat) : ∀ (N : Nat) (x1 : Int32) (m : aM), Q (.inl none) (g, m') → ll_Tab_dropOldForm_2 F N x1 m = some (r, m') → G K M_Tab_dropOldForm d bc bs 2 [.ref 37, .int x1, .double 0] [] (g, m) Q
  | 0, _, _ => fun _ e => nomatch e
  | N + 1, x1, m => fun hq e => tb_Tab_dropOldForm_2 s F (ll_Tab_dropOldForm_2 F N) (fun x1 m e => t_Tab_dropOldForm_2 s F N x1 m hq e) x1 m hq e
def f_Tab_dropOldForm (F : Nat)  (m : aM) : Option (Int32 × aM) :=
  ll_Tab_dropOldForm_2 F F 0 m
theorem s_Tab_dropOldForm {K : aK} {d bc bs : Nat} {g : aG} (s : Sys g) (F : Nat)  (m : aM) {r : Int32} {m' : aM} (e : f_Tab_dropOldForm F  m = some (r, m')) : Sp K M_Tab_dropOldForm d bc bs [.ref 37] (g, m) none (g, m') := by
  refine sp_of ok_Tab_dropOldForm rfl (Nat.le_of_ble_eq_true rfl) (by simp [Value.category]) (fun Q hq => ?_)
  unfold f_Tab_dropOldForm at e
  refine g_iconst (v := 0) k_Tab_dropOldForm_0 rfl ?_
  refine g_istore_n k_Tab_dropOldForm_1 rfl (by decide) ?_
  exact (t_Tab_dropOldForm_2 s F F 0 m hq e)
def f_Tab_goOn (F : Nat)  (m : aM) : Option (Int32 × aM) :=
  (if (m 37 6) < 5 then
  o_b2 (f_Tab_mayGoOn F  m) fun y1 m2 =>
  (if y1 = 0 then
  some (0, m2)
  else
  o_let (a_st m2 37 6 ((m2 37 6) + 1)) fun m3 =>
  (if (m3 37 6) = 5 then
  o_b2 (f_Tab_dropOldForm F  m3) fun y4 m5 =>
  some (1, m5)
  else
  some (1, m3)
  )
  )
  else
  some ((-1), m)
  )
theorem s_Tab_goOn {K : aK} {d bc bs : Nat} {g : aG} (s : Sys g) (F : Nat)  (m : aM) {r : Int32} {m' : aM} (e : f_Tab_goOn F  m = some (r, m')) (hd : 6 ≤ d) : Sp K M_Tab_goOn d bc bs [.ref 37] (g, m) (some (.int r)) (g, m') := by
  refine sp_of ok_Tab_goOn rfl (Nat.le_of_ble_eq_true rfl) (by simp [Value.category]) (fun Q hq => ?_)
  unfold f_Tab_goOn at e
  refine g_aload_n k_Tab_goOn_0 rfl rfl ?_
  refine p_geti k_Tab_goOn_1 fl_Tab_43 rfl (sk_Tab (sy_Tab s)) (by decide) ?_
  refine g_iconst (v := 5) k_Tab_goOn_4 rfl ?_
  refine g_icmp_lt (tgt := 10) k_Tab_goOn_5 (by decide) (fun c => ?_) (fun c => ?_)
  · rw [if_pos c] at e
    refine g_aload_n k_Tab_goOn_10 rfl rfl ?_
    obtain ⟨y1, m2, e_y1, e⟩ := o_b2_ex e
    refine g_cv k_Tab_goOn_11 lv_Tab_46 (by decide +kernel) (T := F_Tab) (N := 11) (ci := 7) rfl (sk_Tab (sy_Tab s)) (s_Tab_mayGoOn (bc := 0) (bs := 0) s F  m e_y1 (by omega)) rfl rfl (Nat.le_of_ble_eq_true rfl) (by simp [Value.category]) (by omega) (by omega) (by omega) ?_
    refine g_if_ne (tgt := 19) k_Tab_goOn_14 (by decide) (fun c => ?_) (fun c => ?_)
    · rw [if_pos c] at e
      refine g_iconst (v := 0) k_Tab_goOn_17 rfl ?_
      refine g_iret k_Tab_goOn_18 rfl ?_
      exact (by cases e; exact hq)
    · rw [if_neg c] at e
      refine g_aload_n k_Tab_goOn_19 rfl rfl ?_
      refine g_dup k_Tab_goOn_20 rfl ?_
      refine p_geti k_Tab_goOn_21 fl_Tab_43 rfl (sk_Tab (sy_Tab s)) (by decide) ?_
      refine g_iconst (v := 1) k_Tab_goOn_24 rfl ?_
      refine g_iadd k_Tab_goOn_25 ?_
      refine p_puti k_Tab_goOn_26 fl_Tab_43 rfl ⟨R_Tab, F_Tab, 11, rfl, Or.inl rfl⟩ (sk_Tab (sy_Tab s)) (by decide) ?_
      obtain ⟨m3, u_m3, e⟩ := o_let_ex e
      refine G.hm u_m3 ?_
      refine g_aload_n k_Tab_goOn_29 rfl rfl ?_
      refine p_geti k_Tab_goOn_30 fl_Tab_43 rfl (sk_Tab (sy_Tab s)) (by decide) ?_
      refine g_iconst (v := 5) k_Tab_goOn_33 rfl ?_
      refine g_icmp_ne (tgt := 41) k_Tab_goOn_34 (by decide) (fun c => ?_) (fun c => ?_)
      · rw [if_pos c] at e
        refine g_aload_n k_Tab_goOn_37 rfl rfl ?_
        obtain ⟨y4, m5, e_y4, e⟩ := o_b2_ex e
        refine g_cv k_Tab_goOn_38 lv_Tab_50 (by decide +kernel) (T := F_Tab) (N := 11) (ci := 7) rfl (sk_Tab (sy_Tab s)) (s_Tab_dropOldForm (bc := 0) (bs := 0) s F  m3 e_y4) rfl rfl (Nat.le_of_ble_eq_true rfl) (by simp [Value.category]) (by omega) (by omega) (by omega) ?_
        refine g_iconst (v := 1) k_Tab_goOn_41 rfl ?_
        refine g_iret k_Tab_goOn_42 rfl ?_
        exact (by cases e; exact hq)
      · rw [if_neg c] at e
        refine g_iconst (v := 1) k_Tab_goOn_41 rfl ?_
        refine g_iret k_Tab_goOn_42 rfl ?_
        exact (by cases e; exact hq)
  · rw [if_neg c] at e
    refine g_iconst (v := (-1)) k_Tab_goOn_8 rfl ?_
    refine g_iret k_Tab_goOn_9 rfl ?_
    exact (by cases e; exact hq)
def b_Tab_dropNewForm_32 (F : Nat) (rec_2 : Int32 → aM → Option (Int32 × aM)) (x1 : Int32) (m : aM) : Option (Int32 × aM) :=
  rec_2 (x1 + 1) m
theorem t_Tab_dropNewForm_32 {K : aK} {d bc bs : Nat} {g : aG} (s : Sys g) {Q : aQ} {r : Int32} {m' : aM} (F : Nat) (rec_2 : Int32 → aM → Option (Int32 × aM)) (hr_2 : ∀ (x1 : Int32) (m : aM), rec_2 x1 m = some (r, m') → G K M_Tab_dropNewForm d bc bs 2 [.ref 37, .int x1, .double 0] [] (g, m) Q) (x1 : Int32) (m : aM) (hq : Q (.inl none) (g, m')) (e : b_Tab_dropNewForm_32 F rec_2 x1 m = some (r, m')) (hd : 1 ≤ d) : G K M_Tab_dropNewForm d bc bs 32 [.ref 37, .int x1, .double 0] [] (g, m) Q := by
  unfold b_Tab_dropNewForm_32 at e
  refine g_iinc (v := _ + 1) k_Tab_dropNewForm_32 rfl rfl (by decide) ?_
  refine g_goto (tgt := 2) k_Tab_dropNewForm_35 (by decide) ?_
  exact (hr_2 (x1 + 1) m e)
def lb_Tab_dropNewForm_2 (F : Nat) (rec_2 : Int32 → aM → Option (Int32 × aM)) (x1 : Int32) (m : aM) : Option (Int32 × aM) :=
  (if 40 ≤ x1 then
  some (0, m)
  else
  o_gd (inb x1 40) <|
  (if (m (rwp x1) 3) = (-1) then
  b_Tab_dropNewForm_32 F rec_2 x1 m
  else
  o_let (a_st m (rwp x1) 3 0) fun m2 =>
  o_b2 (f_Row_heal (rwp x1) m2) fun y3 m4 =>
  b_Tab_dropNewForm_32 F rec_2 x1 m4
  )
  )
theorem tb_Tab_dropNewForm_2 {K : aK} {d bc bs : Nat} {g : aG} (s : Sys g) {Q : aQ} {r : Int32} {m' : aM} (F : Nat) (rec_2 : Int32 → aM → Option (Int32 × aM)) (hr_2 : ∀ (x1 : Int32) (m : aM), rec_2 x1 m = some (r, m') → G K M_Tab_dropNewForm d bc bs 2 [.ref 37, .int x1, .double 0] [] (g, m) Q) (x1 : Int32) (m : aM) (hq : Q (.inl none) (g, m')) (e : lb_Tab_dropNewForm_2 F rec_2 x1 m = some (r, m')) (hd : 1 ≤ d) : G K M_Tab_dropNewForm d bc bs 2 [.ref 37, .int x1, .double 0] [] (g, m) Q := by
  unfold lb_Tab_dropNewForm_2 at e
  refine g_iload_n k_Tab_dropNewForm_2 rfl rfl ?_
  refine g_bipush (v := 40) k_Tab_dropNewForm_3 rfl ?_
  refine g_icmp_ge (tgt := 38) k_Tab_dropNewForm_5 (by decide) (fun c => ?_) (fun c => ?_)
  · rw [if_pos c] at e
    refine g_vret k_Tab_dropNewForm_38 rfl ?_
    exact (by cases e; exact hq)
  · rw [if_neg c] at e
    refine g_aload_n k_Tab_dropNewForm_8 rfl rfl ?_
    refine p_getr k_Tab_dropNewForm_9 fl_Tab_11 rfl (sk_Tab (sy_Tab s)) (by decide) (sr_Tab_2 (sy_Tab s)) ?_
    refine g_iload_n k_Tab_dropNewForm_12 rfl rfl ?_
    obtain ⟨q1, e⟩ := o_gd_ex e
    refine p_aald k_Tab_dropNewForm_13 (sa_Tab_2 (sy_Tab s)) (by decide) (by decide) (inb_in q1) (j := x1.toNatClampNeg) rfl (sy_rowr s (inb_in q1)) ?_
    refine g_astore_n k_Tab_dropNewForm_14 rfl (by decide) ?_
    refine g_aload_n k_Tab_dropNewForm_15 rfl rfl ?_
    refine p_geti k_Tab_dropNewForm_16 fl_Tab_40 rfl (sk_Row (sy_row s (inb_in q1))) (by decide) ?_
    refine g_iconst (v := (-1)) k_Tab_dropNewForm_19 rfl ?_
    refine g_icmp_eq (tgt := 32) k_Tab_dropNewForm_20 (by decide) (fun c => ?_) (fun c => ?_)
    · rw [if_pos c] at e
      exact G.wl (wls (wls (wld wl0))) (t_Tab_dropNewForm_32 s F rec_2 hr_2 x1 m hq e hd)
    · rw [if_neg c] at e
      refine g_aload_n k_Tab_dropNewForm_23 rfl rfl ?_
      refine g_iconst (v := 0) k_Tab_dropNewForm_24 rfl ?_
      refine p_puti k_Tab_dropNewForm_25 fl_Tab_40 rfl ⟨R_Row, F_Row, 8, rfl, Or.inl rfl⟩ (sk_Row (sy_row s (inb_in q1))) (by decide) ?_
      obtain ⟨m2, u_m2, e⟩ := o_let_ex e
      refine G.hm u_m2 ?_
      refine g_aload_n k_Tab_dropNewForm_28 rfl rfl ?_
      obtain ⟨y3, m4, e_y3, e⟩ := o_b2_ex e
      refine g_cv k_Tab_dropNewForm_29 lv_Tab_76 (by decide +kernel) (T := F_Row) (N := 8) (ci := 6) rfl (sk_Row (sy_row s (inb_in q1))) (s_Row_heal (bc := 0) (bs := 0) s (rwp x1) (sy_row s (inb_in q1)) m2 e_y3) rfl rfl (Nat.le_of_ble_eq_true rfl) (by simp [Value.category]) (by omega) (by omega) (by omega) ?_
      exact G.wl (wls (wls (wld wl0))) (t_Tab_dropNewForm_32 s F rec_2 hr_2 x1 m4 hq e hd)
def ll_Tab_dropNewForm_2 (F : Nat) : Nat → Int32 → aM → Option (Int32 × aM)
  | 0, _, _ => none
  | N + 1, x1, m => lb_Tab_dropNewForm_2 F (ll_Tab_dropNewForm_2 F N) x1 m
theorem t_Tab_dropNewForm_2 {K : aK} {d bc bs : Nat} {g : aG} (s : Sys g) {Q : aQ} {r : Int32} {m' : aM} (F : Nat) : ∀ (N : Nat) (x1 : Int32) (m : aM), Q (.inl none) (g, m') → ll_Tab_dropNewForm_2 F N x1 m = some (r, m') → 1 ≤ d → G K M_Tab_dropNewForm d bc bs 2 [.ref 37, .int x1, .double 0] [] (g, m) Q
  | 0, _, _ => fun _ e => nomatch e
  | N + 1, x1, m => fun hq e hd => tb_Tab_dropNewForm_2 s F (ll_Tab_dropNewForm_2 F N) (fun x1 m e => t_Tab_dropNewForm_2 s F N x1 m hq e hd) x1 m hq e hd
def f_Tab_dropNewForm (F : Nat)  (m : aM) : Option (Int32 × aM) :=
  ll_Tab_dropNewForm_2 F F 0 m
theorem s_Tab_dropNewForm {K : aK} {d bc bs : Nat} {g : aG} (s : Sys g) (F : Nat)  (m : aM) {r : Int32} {m' : aM} (e : f_Tab_dropNewForm F  m = some (r, m')) (hd : 1 ≤ d) : Sp K M_Tab_dropNewForm d bc bs [.ref 37] (g, m) none (g, m') := by
  refine sp_of ok_Tab_dropNewForm rfl (Nat.le_of_ble_eq_true rfl) (by simp [Value.category]) (fun Q hq => ?_)
  unfold f_Tab_dropNewForm at e
  refine g_iconst (v := 0) k_Tab_dropNewForm_0 rfl ?_
  refine g_istore_n k_Tab_dropNewForm_1 rfl (by decide) ?_
  exact (t_Tab_dropNewForm_2 s F F 0 m hq e hd)
def f_Tab_goBack (F : Nat)  (m : aM) : Option (Int32 × aM) :=
  (if (m 37 6) < 1 then
  some (0, m)
  else
  (if (m 37 6) < 5 then
  o_let (a_st m 37 6 ((m 37 6) - 1)) fun m1 =>
  (if (m1 37 6) = 1 then
  o_b2 (f_Tab_dropNewForm F  m1) fun y2 m3 =>
  some (1, m3)
  else
  some (1, m1)
  )
  else
  some (0, m)
  )
  )
theorem s_Tab_goBack {K : aK} {d bc bs : Nat} {g : aG} (s : Sys g) (F : Nat)  (m : aM) {r : Int32} {m' : aM} (e : f_Tab_goBack F  m = some (r, m')) (hd : 2 ≤ d) : Sp K M_Tab_goBack d bc bs [.ref 37] (g, m) (some (.int r)) (g, m') := by
  refine sp_of ok_Tab_goBack rfl (Nat.le_of_ble_eq_true rfl) (by simp [Value.category]) (fun Q hq => ?_)
  unfold f_Tab_goBack at e
  refine g_aload_n k_Tab_goBack_0 rfl rfl ?_
  refine p_geti k_Tab_goBack_1 fl_Tab_43 rfl (sk_Tab (sy_Tab s)) (by decide) ?_
  refine g_iconst (v := 1) k_Tab_goBack_4 rfl ?_
  refine g_icmp_lt (tgt := 16) k_Tab_goBack_5 (by decide) (fun c => ?_) (fun c => ?_)
  · rw [if_pos c] at e
    refine g_iconst (v := 0) k_Tab_goBack_16 rfl ?_
    refine g_iret k_Tab_goBack_17 rfl ?_
    exact (by cases e; exact hq)
  · rw [if_neg c] at e
    refine g_aload_n k_Tab_goBack_8 rfl rfl ?_
    refine p_geti k_Tab_goBack_9 fl_Tab_43 rfl (sk_Tab (sy_Tab s)) (by decide) ?_
    refine g_iconst (v := 5) k_Tab_goBack_12 rfl ?_
    refine g_icmp_lt (tgt := 18) k_Tab_goBack_13 (by decide) (fun c => ?_) (fun c => ?_)
    · rw [if_pos c] at e
      refine g_aload_n k_Tab_goBack_18 rfl rfl ?_
      refine g_dup k_Tab_goBack_19 rfl ?_
      refine p_geti k_Tab_goBack_20 fl_Tab_43 rfl (sk_Tab (sy_Tab s)) (by decide) ?_
      refine g_iconst (v := 1) k_Tab_goBack_23 rfl ?_
      refine g_isub k_Tab_goBack_24 ?_
      refine p_puti k_Tab_goBack_25 fl_Tab_43 rfl ⟨R_Tab, F_Tab, 11, rfl, Or.inl rfl⟩ (sk_Tab (sy_Tab s)) (by decide) ?_
      obtain ⟨m1, u_m1, e⟩ := o_let_ex e
      refine G.hm u_m1 ?_
      refine g_aload_n k_Tab_goBack_28 rfl rfl ?_
      refine p_geti k_Tab_goBack_29 fl_Tab_43 rfl (sk_Tab (sy_Tab s)) (by decide) ?_
      refine g_iconst (v := 1) k_Tab_goBack_32 rfl ?_
      refine g_icmp_ne (tgt := 40) k_Tab_goBack_33 (by decide) (fun c => ?_) (fun c => ?_)
      · rw [if_pos c] at e
        refine g_aload_n k_Tab_goBack_36 rfl rfl ?_
        obtain ⟨y2, m3, e_y2, e⟩ := o_b2_ex e
        refine g_cv k_Tab_goBack_37 lv_Tab_73 (by decide +kernel) (T := F_Tab) (N := 11) (ci := 7) rfl (sk_Tab (sy_Tab s)) (s_Tab_dropNewForm (bc := 0) (bs := 0) s F  m1 e_y2 (by omega)) rfl rfl (Nat.le_of_ble_eq_true rfl) (by simp [Value.category]) (by omega) (by omega) (by omega) ?_
        refine g_iconst (v := 1) k_Tab_goBack_40 rfl ?_
        refine g_iret k_Tab_goBack_41 rfl ?_
        exact (by cases e; exact hq)
      · rw [if_neg c] at e
        refine g_iconst (v := 1) k_Tab_goBack_40 rfl ?_
        refine g_iret k_Tab_goBack_41 rfl ?_
        exact (by cases e; exact hq)
    · rw [if_neg c] at e
      refine g_iconst (v := 0) k_Tab_goBack_16 rfl ?_
      refine g_iret k_Tab_goBack_17 rfl ?_
      exact (by cases e; exact hq)
def b_Tab_manyRows_29 (F : Nat) (rec_4 : Int32 → Int32 → aM → Option Int32) (x2 : Int32) (xt0 : Int32) (xt1 : Int32) (m : aM) : Option Int32 :=
  rec_4 (xt1 + xt0) (x2 + 1) m
theorem t_Tab_manyRows_29 {K : aK} {d bc bs : Nat} {g : aG} (s : Sys g) {Q : aQ} {r : Int32} (F : Nat) (m : aM) (rec_4 : Int32 → Int32 → aM → Option Int32) (hr_4 : ∀ (x1 : Int32) (x2 : Int32), rec_4 x1 x2 m = some r → G K M_Tab_manyRows d bc bs 4 [.ref 37, .int x1, .int x2] [] (g, m) Q) (x2 : Int32) (xt0 : Int32) (xt1 : Int32) (hq : Q (.inl (some (.int r))) (g, m)) (e : b_Tab_manyRows_29 F rec_4 x2 xt0 xt1 m = some r) : G K M_Tab_manyRows d bc bs 29 [.ref 37, .double 0, .int x2] [.int xt0, .int xt1] (g, m) Q := by
  unfold b_Tab_manyRows_29 at e
  refine g_iadd k_Tab_manyRows_29 ?_
  refine g_istore_n k_Tab_manyRows_30 rfl (by decide) ?_
  refine g_iinc (v := _ + 1) k_Tab_manyRows_31 rfl rfl (by decide) ?_
  refine g_goto (tgt := 4) k_Tab_manyRows_34 (by decide) ?_
  exact (hr_4 (xt1 + xt0) (x2 + 1)  e)
def lb_Tab_manyRows_4 (F : Nat) (rec_4 : Int32 → Int32 → aM → Option Int32) (x1 : Int32) (x2 : Int32) (m : aM) : Option Int32 :=
  (if 40 ≤ x2 then
  some x1
  else
  o_gd (inb x2 40) <|
  (if (m (rwp x2) 3) = (-1) then
  b_Tab_manyRows_29 F rec_4 x2 0 x1 m
  else
  b_Tab_manyRows_29 F rec_4 x2 1 x1 m
  )
  )
theorem tb_Tab_manyRows_4 {K : aK} {d bc bs : Nat} {g : aG} (s : Sys g) {Q : aQ} {r : Int32} (F : Nat) (m : aM) (rec_4 : Int32 → Int32 → aM → Option Int32) (hr_4 : ∀ (x1 : Int32) (x2 : Int32), rec_4 x1 x2 m = some r → G K M_Tab_manyRows d bc bs 4 [.ref 37, .int x1, .int x2] [] (g, m) Q) (x1 : Int32) (x2 : Int32) (hq : Q (.inl (some (.int r))) (g, m)) (e : lb_Tab_manyRows_4 F rec_4 x1 x2 m = some r) : G K M_Tab_manyRows d bc bs 4 [.ref 37, .int x1, .int x2] [] (g, m) Q := by
  unfold lb_Tab_manyRows_4 at e
  refine g_iload_n k_Tab_manyRows_4 rfl rfl ?_
  refine g_bipush (v := 40) k_Tab_manyRows_5 rfl ?_
  refine g_icmp_ge (tgt := 37) k_Tab_manyRows_7 (by decide) (fun c => ?_) (fun c => ?_)
  · rw [if_pos c] at e
    refine g_iload_n k_Tab_manyRows_37 rfl rfl ?_
    refine g_iret k_Tab_manyRows_38 rfl ?_
    exact (by cases e; exact hq)
  · rw [if_neg c] at e
    refine g_iload_n k_Tab_manyRows_10 rfl rfl ?_
    refine g_aload_n k_Tab_manyRows_11 rfl rfl ?_
    refine p_getr k_Tab_manyRows_12 fl_Tab_11 rfl (sk_Tab (sy_Tab s)) (by decide) (sr_Tab_2 (sy_Tab s)) ?_
    refine g_iload_n k_Tab_manyRows_15 rfl rfl ?_
    obtain ⟨q1, e⟩ := o_gd_ex e
    refine p_aald k_Tab_manyRows_16 (sa_Tab_2 (sy_Tab s)) (by decide) (by decide) (inb_in q1) (j := x2.toNatClampNeg) rfl (sy_rowr s (inb_in q1)) ?_
    refine p_geti k_Tab_manyRows_17 fl_Tab_40 rfl (sk_Row (sy_row s (inb_in q1))) (by decide) ?_
    refine g_iconst (v := (-1)) k_Tab_manyRows_20 rfl ?_
    refine g_icmp_eq (tgt := 28) k_Tab_manyRows_21 (by decide) (fun c => ?_) (fun c => ?_)
    · rw [if_pos c] at e
      refine g_iconst (v := 0) k_Tab_manyRows_28 rfl ?_
      exact G.wl (wls (wld (wls wl0))) (t_Tab_manyRows_29 s F m rec_4 hr_4 x2 0 x1  hq e)
    · rw [if_neg c] at e
      refine g_iconst (v := 1) k_Tab_manyRows_24 rfl ?_
      refine g_goto (tgt := 29) k_Tab_manyRows_25 (by decide) ?_
      exact G.wl (wls (wld (wls wl0))) (t_Tab_manyRows_29 s F m rec_4 hr_4 x2 1 x1  hq e)
def ll_Tab_manyRows_4 (F : Nat) : Nat → Int32 → Int32 → aM → Option Int32
  | 0, _, _, _ => none
  | N + 1, x1, x2, m => lb_Tab_manyRows_4 F (ll_Tab_manyRows_4 F N) x1 x2 m
theorem t_Tab_manyRows_4 {K : aK} {d bc bs : Nat} {g : aG} (s : Sys g) {Q : aQ} {r : Int32} (F : Nat) (m : aM) : ∀ (N : Nat) (x1 : Int32) (x2 : Int32), Q (.inl (some (.int r))) (g, m) → ll_Tab_manyRows_4 F N x1 x2 m = some r → G K M_Tab_manyRows d bc bs 4 [.ref 37, .int x1, .int x2] [] (g, m) Q
  | 0, _, _ => fun _ e => nomatch e
  | N + 1, x1, x2 => fun hq e => tb_Tab_manyRows_4 s F m (ll_Tab_manyRows_4 F N) (fun x1 x2 e => t_Tab_manyRows_4 s F m N x1 x2 hq e) x1 x2 hq e
def f_Tab_manyRows (F : Nat)  (m : aM) : Option Int32 :=
  ll_Tab_manyRows_4 F F 0 0 m
theorem s_Tab_manyRows {K : aK} {d bc bs : Nat} {g : aG} (s : Sys g) (F : Nat)  (m : aM) {r : Int32} (e : f_Tab_manyRows F  m = some r) : Sp K M_Tab_manyRows d bc bs [.ref 37] (g, m) (some (.int r)) (g, m) := by
  refine sp_of ok_Tab_manyRows rfl (Nat.le_of_ble_eq_true rfl) (by simp [Value.category]) (fun Q hq => ?_)
  unfold f_Tab_manyRows at e
  refine g_iconst (v := 0) k_Tab_manyRows_0 rfl ?_
  refine g_istore_n k_Tab_manyRows_1 rfl (by decide) ?_
  refine g_iconst (v := 0) k_Tab_manyRows_2 rfl ?_
  refine g_istore_n k_Tab_manyRows_3 rfl (by decide) ?_
  exact (t_Tab_manyRows_4 s F m F 0 0  hq e)
def f_Tab_isThere (x1 : Int32) (m : aM) : Option Int32 :=
  (if x1 < 0 then
  some 0
  else
  (if 40 ≤ x1 then
  some 0
  else
  o_gd (inb x1 40) <|
  (if (m (rwp x1) 3) = (-1) then
  some 0
  else
  some 1
  )
  )
  )
theorem s_Tab_isThere {K : aK} {d bc bs : Nat} {g : aG} (s : Sys g) (x1 : Int32) (m : aM) {r : Int32} (e : f_Tab_isThere x1 m = some r) : Sp K M_Tab_isThere d bc bs [.ref 37, .int x1] (g, m) (some (.int r)) (g, m) := by
  refine sp_of ok_Tab_isThere rfl (Nat.le_of_ble_eq_true rfl) (by simp [Value.category]) (fun Q hq => ?_)
  unfold f_Tab_isThere at e
  refine g_iload_n k_Tab_isThere_0 rfl rfl ?_
  refine g_if_lt (tgt := 27) k_Tab_isThere_1 (by decide) (fun c => ?_) (fun c => ?_)
  · rw [if_pos c] at e
    refine g_iconst (v := 0) k_Tab_isThere_27 rfl ?_
    refine g_zret k_Tab_isThere_28 rfl (by decide) ?_
    exact (by cases e; exact hq)
  · rw [if_neg c] at e
    refine g_iload_n k_Tab_isThere_4 rfl rfl ?_
    refine g_bipush (v := 40) k_Tab_isThere_5 rfl ?_
    refine g_icmp_ge (tgt := 27) k_Tab_isThere_7 (by decide) (fun c => ?_) (fun c => ?_)
    · rw [if_pos c] at e
      refine g_iconst (v := 0) k_Tab_isThere_27 rfl ?_
      refine g_zret k_Tab_isThere_28 rfl (by decide) ?_
      exact (by cases e; exact hq)
    · rw [if_neg c] at e
      refine g_aload_n k_Tab_isThere_10 rfl rfl ?_
      refine p_getr k_Tab_isThere_11 fl_Tab_11 rfl (sk_Tab (sy_Tab s)) (by decide) (sr_Tab_2 (sy_Tab s)) ?_
      refine g_iload_n k_Tab_isThere_14 rfl rfl ?_
      obtain ⟨q1, e⟩ := o_gd_ex e
      refine p_aald k_Tab_isThere_15 (sa_Tab_2 (sy_Tab s)) (by decide) (by decide) (inb_in q1) (j := x1.toNatClampNeg) rfl (sy_rowr s (inb_in q1)) ?_
      refine p_geti k_Tab_isThere_16 fl_Tab_40 rfl (sk_Row (sy_row s (inb_in q1))) (by decide) ?_
      refine g_iconst (v := (-1)) k_Tab_isThere_19 rfl ?_
      refine g_icmp_eq (tgt := 27) k_Tab_isThere_20 (by decide) (fun c => ?_) (fun c => ?_)
      · rw [if_pos c] at e
        refine g_iconst (v := 0) k_Tab_isThere_27 rfl ?_
        refine g_zret k_Tab_isThere_28 rfl (by decide) ?_
        exact (by cases e; exact hq)
      · rw [if_neg c] at e
        refine g_iconst (v := 1) k_Tab_isThere_23 rfl ?_
        refine g_goto (tgt := 28) k_Tab_isThere_24 (by decide) ?_
        refine g_zret k_Tab_isThere_28 rfl (by decide) ?_
        exact (by cases e; exact hq)
def f_Tab_seeAnew (F : Nat) (a1 : Nat) (m : aM) : Option (Int32 × aM) :=
  o_b2 (f_Len_toNew F 2 (a1 + 1) (a1 + 2) m) fun y1 m2 =>
  o_b2 (f_Len_toBeside F 2 (a1 + 1) (a1 + 3) m2) fun y3 m4 =>
  some (0, m4)
theorem s_Tab_seeAnew {K : aK} {d bc bs : Nat} {g : aG} (s : Sys g) (F : Nat) (a1 : Nat) (s1 : ShRow g a1) (m : aM) {r : Int32} {m' : aM} (e : f_Tab_seeAnew F a1 m = some (r, m')) (hd : 3 ≤ d) : Sp K M_Tab_seeAnew d bc bs [.ref 37, .ref a1] (g, m) none (g, m') := by
  refine sp_of ok_Tab_seeAnew rfl (Nat.le_of_ble_eq_true rfl) (by simp [Value.category]) (fun Q hq => ?_)
  unfold f_Tab_seeAnew at e
  refine g_aload_n k_Tab_seeAnew_0 rfl rfl ?_
  refine p_getr k_Tab_seeAnew_1 fl_Tab_27 rfl (sk_Tab (sy_Tab s)) (by decide) (sr_Tab_0 s) ?_
  refine g_aload_n k_Tab_seeAnew_4 rfl rfl ?_
  refine p_getr k_Tab_seeAnew_5 fl_Tab_92 rfl (sk_Row s1) (by decide) (sr_Row_0 s1) ?_
  refine g_aload_n k_Tab_seeAnew_8 rfl rfl ?_
  refine p_getr k_Tab_seeAnew_9 fl_Tab_95 rfl (sk_Row s1) (by decide) (sr_Row_1 s1) ?_
  obtain ⟨y1, m2, e_y1, e⟩ := o_b2_ex e
  refine g_cv k_Tab_seeAnew_12 lv_Tab_98 (by decide +kernel) (T := F_Len) (N := 11) (ci := 2) rfl (sk_Len (sy_len s)) (s_Len_toNew (bc := 0) (bs := 0) s F 2 (sy_len s) (a1 + 1) (sa_Row_0 s1) (a1 + 2) (sa_Row_1 s1) m e_y1 (by omega)) rfl rfl (Nat.le_of_ble_eq_true rfl) (by simp [Value.category]) (by omega) (by omega) (by omega) ?_
  refine g_aload_n k_Tab_seeAnew_15 rfl rfl ?_
  refine p_getr k_Tab_seeAnew_16 fl_Tab_27 rfl (sk_Tab (sy_Tab s)) (by decide) (sr_Tab_0 s) ?_
  refine g_aload_n k_Tab_seeAnew_19 rfl rfl ?_
  refine p_getr k_Tab_seeAnew_20 fl_Tab_92 rfl (sk_Row s1) (by decide) (sr_Row_0 s1) ?_
  refine g_aload_n k_Tab_seeAnew_23 rfl rfl ?_
  refine p_getr k_Tab_seeAnew_24 fl_Tab_104 rfl (sk_Row s1) (by decide) (sr_Row_2 s1) ?_
  obtain ⟨y3, m4, e_y3, e⟩ := o_b2_ex e
  refine g_cv k_Tab_seeAnew_27 lv_Tab_107 (by decide +kernel) (T := F_Len) (N := 11) (ci := 2) rfl (sk_Len (sy_len s)) (s_Len_toBeside (bc := 0) (bs := 0) s F 2 (sy_len s) (a1 + 1) (sa_Row_0 s1) (a1 + 3) (sa_Row_2 s1) m2 e_y3) rfl rfl (Nat.le_of_ble_eq_true rfl) (by simp [Value.category]) (by omega) (by omega) (by omega) ?_
  refine g_vret k_Tab_seeAnew_30 rfl ?_
  exact (by cases e; exact hq)
def f_Tab_lead (F : Nat) (a1 : Nat) (m : aM) : Option (Int32 × aM) :=
  o_b2 (f_Tab_seeAnew F a1 m) fun y1 m2 =>
  o_b2 (f_Len_isRight F 2 (a1 + 2) (a1 + 3) m2) fun y3 m4 =>
  (if y3 = 0 then
  o_let (a_st m4 a1 3 3) fun m5 =>
  some (0, m5)
  else
  o_let (a_st m4 a1 3 1) fun m6 =>
  some (0, m6)
  )
theorem s_Tab_lead {K : aK} {d bc bs : Nat} {g : aG} (s : Sys g) (F : Nat) (a1 : Nat) (s1 : ShRow g a1) (m : aM) {r : Int32} {m' : aM} (e : f_Tab_lead F a1 m = some (r, m')) (hd : 4 ≤ d) : Sp K M_Tab_lead d bc bs [.ref 37, .ref a1] (g, m) none (g, m') := by
  refine sp_of ok_Tab_lead rfl (Nat.le_of_ble_eq_true rfl) (by simp [Value.category]) (fun Q hq => ?_)
  unfold f_Tab_lead at e
  refine g_aload_n k_Tab_lead_0 rfl rfl ?_
  refine g_aload_n k_Tab_lead_1 rfl rfl ?_
  obtain ⟨y1, m2, e_y1, e⟩ := o_b2_ex e
  refine g_cv k_Tab_lead_2 lv_Tab_85 (by decide +kernel) (T := F_Tab) (N := 11) (ci := 7) rfl (sk_Tab (sy_Tab s)) (s_Tab_seeAnew (bc := 0) (bs := 0) s F a1 s1 m e_y1 (by omega)) rfl rfl (Nat.le_of_ble_eq_true rfl) (by simp [Value.category]) (by omega) (by omega) (by omega) ?_
  refine g_aload_n k_Tab_lead_5 rfl rfl ?_
  refine g_aload_n k_Tab_lead_6 rfl rfl ?_
  refine p_getr k_Tab_lead_7 fl_Tab_27 rfl (sk_Tab (sy_Tab s)) (by decide) (sr_Tab_0 s) ?_
  refine g_aload_n k_Tab_lead_10 rfl rfl ?_
  refine p_getr k_Tab_lead_11 fl_Tab_95 rfl (sk_Row s1) (by decide) (sr_Row_1 s1) ?_
  refine g_aload_n k_Tab_lead_14 rfl rfl ?_
  refine p_getr k_Tab_lead_15 fl_Tab_104 rfl (sk_Row s1) (by decide) (sr_Row_2 s1) ?_
  obtain ⟨y3, m4, e_y3, e⟩ := o_b2_ex e
  refine g_cv k_Tab_lead_18 lv_Tab_110 (by decide +kernel) (T := F_Len) (N := 11) (ci := 2) rfl (sk_Len (sy_len s)) (s_Len_isRight (bc := 0) (bs := 0) s F 2 (sy_len s) (a1 + 2) (sa_Row_1 s1) (a1 + 3) (sa_Row_2 s1) m2 e_y3 (by omega)) rfl rfl (Nat.le_of_ble_eq_true rfl) (by simp [Value.category]) (by omega) (by omega) (by omega) ?_
  refine g_if_eq (tgt := 28) k_Tab_lead_21 (by decide) (fun c => ?_) (fun c => ?_)
  · rw [if_pos c] at e
    refine g_iconst (v := 3) k_Tab_lead_28 rfl ?_
    refine p_puti k_Tab_lead_29 fl_Tab_40 rfl ⟨R_Row, F_Row, 8, rfl, Or.inl rfl⟩ (sk_Row s1) (by decide) ?_
    obtain ⟨m5, u_m5, e⟩ := o_let_ex e
    refine G.hm u_m5 ?_
    refine g_vret k_Tab_lead_32 rfl ?_
    exact (by cases e; exact hq)
  · rw [if_neg c] at e
    refine g_iconst (v := 1) k_Tab_lead_24 rfl ?_
    refine g_goto (tgt := 29) k_Tab_lead_25 (by decide) ?_
    refine p_puti k_Tab_lead_29 fl_Tab_40 rfl ⟨R_Row, F_Row, 8, rfl, Or.inl rfl⟩ (sk_Row s1) (by decide) ?_
    obtain ⟨m6, u_m6, e⟩ := o_let_ex e
    refine G.hm u_m6 ?_
    refine g_vret k_Tab_lead_32 rfl ?_
    exact (by cases e; exact hq)
def f_Tab_addRow (F : Nat) (x1 : Int32) (m : aM) : Option (Int32 × aM) :=
  (if x1 < 0 then
  some ((-1), m)
  else
  (if 40 ≤ x1 then
  some ((-1), m)
  else
  o_b (f_Tab_isThere x1 m) fun y1 =>
  (if y1 = 0 then
  o_gd (inb x1 40) <|
  o_b2 (f_Row_begin F (rwp x1) m) fun y3 m4 =>
  (if (m4 37 6) = 5 then
  o_b2 (f_Tab_seeAnew F (rwp x1) m4) fun y5 m6 =>
  o_let (a_st m6 (rwp x1) 3 2) fun m7 =>
  some ((m7 (rwp x1) 3), m7)
  else
  (if (m4 37 6) < 3 then
  some ((m4 (rwp x1) 3), m4)
  else
  o_b2 (f_Tab_lead F (rwp x1) m4) fun y8 m9 =>
  some ((m9 (rwp x1) 3), m9)
  )
  )
  else
  some ((-1), m)
  )
  )
  )
theorem s_Tab_addRow {K : aK} {d bc bs : Nat} {g : aG} (s : Sys g) (F : Nat) (x1 : Int32) (m : aM) {r : Int32} {m' : aM} (e : f_Tab_addRow F x1 m = some (r, m')) (hd : 5 ≤ d) : Sp K M_Tab_addRow d bc bs [.ref 37, .int x1] (g, m) (some (.int r)) (g, m') := by
  refine sp_of ok_Tab_addRow rfl (Nat.le_of_ble_eq_true rfl) (by simp [Value.category]) (fun Q hq => ?_)
  unfold f_Tab_addRow at e
  refine g_iload_n k_Tab_addRow_0 rfl rfl ?_
  refine g_if_lt (tgt := 18) k_Tab_addRow_1 (by decide) (fun c => ?_) (fun c => ?_)
  · rw [if_pos c] at e
    refine g_iconst (v := (-1)) k_Tab_addRow_18 rfl ?_
    refine g_iret k_Tab_addRow_19 rfl ?_
    exact (by cases e; exact hq)
  · rw [if_neg c] at e
    refine g_iload_n k_Tab_addRow_4 rfl rfl ?_
    refine g_bipush (v := 40) k_Tab_addRow_5 rfl ?_
    refine g_icmp_ge (tgt := 18) k_Tab_addRow_7 (by decide) (fun c => ?_) (fun c => ?_)
    · rw [if_pos c] at e
      refine g_iconst (v := (-1)) k_Tab_addRow_18 rfl ?_
      refine g_iret k_Tab_addRow_19 rfl ?_
      exact (by cases e; exact hq)
    · rw [if_neg c] at e
      refine g_aload_n k_Tab_addRow_10 rfl rfl ?_
      refine g_iload_n k_Tab_addRow_11 rfl rfl ?_
      obtain ⟨y1, e_y1, e⟩ := o_b_ex e
      refine g_cv k_Tab_addRow_12 lv_Tab_79 (by decide +kernel) (T := F_Tab) (N := 11) (ci := 7) rfl (sk_Tab (sy_Tab s)) (s_Tab_isThere (bc := 0) (bs := 0) s x1 m e_y1) rfl rfl (Nat.le_of_ble_eq_true rfl) (by simp [Value.category]) (by omega) (by omega) (by omega) ?_
      refine g_if_eq (tgt := 20) k_Tab_addRow_15 (by decide) (fun c => ?_) (fun c => ?_)
      · rw [if_pos c] at e
        refine g_aload_n k_Tab_addRow_20 rfl rfl ?_
        refine p_getr k_Tab_addRow_21 fl_Tab_11 rfl (sk_Tab (sy_Tab s)) (by decide) (sr_Tab_2 (sy_Tab s)) ?_
        refine g_iload_n k_Tab_addRow_24 rfl rfl ?_
        obtain ⟨q2, e⟩ := o_gd_ex e
        refine p_aald k_Tab_addRow_25 (sa_Tab_2 (sy_Tab s)) (by decide) (by decide) (inb_in q2) (j := x1.toNatClampNeg) rfl (sy_rowr s (inb_in q2)) ?_
        refine g_astore_n k_Tab_addRow_26 rfl (by decide) ?_
        refine g_aload_n k_Tab_addRow_27 rfl rfl ?_
        obtain ⟨y3, m4, e_y3, e⟩ := o_b2_ex e
        refine g_cv k_Tab_addRow_28 lv_Tab_82 (by decide +kernel) (T := F_Row) (N := 8) (ci := 6) rfl (sk_Row (sy_row s (inb_in q2))) (s_Row_begin (bc := 0) (bs := 0) s F (rwp x1) (sy_row s (inb_in q2)) m e_y3 (by omega)) rfl rfl (Nat.le_of_ble_eq_true rfl) (by simp [Value.category]) (by omega) (by omega) (by omega) ?_
        refine g_aload_n k_Tab_addRow_31 rfl rfl ?_
        refine p_geti k_Tab_addRow_32 fl_Tab_43 rfl (sk_Tab (sy_Tab s)) (by decide) ?_
        refine g_iconst (v := 5) k_Tab_addRow_35 rfl ?_
        refine g_icmp_ne (tgt := 52) k_Tab_addRow_36 (by decide) (fun c => ?_) (fun c => ?_)
        · rw [if_pos c] at e
          refine g_aload_n k_Tab_addRow_39 rfl rfl ?_
          refine g_aload_n k_Tab_addRow_40 rfl rfl ?_
          obtain ⟨y5, m6, e_y5, e⟩ := o_b2_ex e
          refine g_cv k_Tab_addRow_41 lv_Tab_85 (by decide +kernel) (T := F_Tab) (N := 11) (ci := 7) rfl (sk_Tab (sy_Tab s)) (s_Tab_seeAnew (bc := 0) (bs := 0) s F (rwp x1) (sy_row s (inb_in q2)) m4 e_y5 (by omega)) rfl rfl (Nat.le_of_ble_eq_true rfl) (by simp [Value.category]) (by omega) (by omega) (by omega) ?_
          refine g_aload_n k_Tab_addRow_44 rfl rfl ?_
          refine g_iconst (v := 2) k_Tab_addRow_45 rfl ?_
          refine p_puti k_Tab_addRow_46 fl_Tab_40 rfl ⟨R_Row, F_Row, 8, rfl, Or.inl rfl⟩ (sk_Row (sy_row s (inb_in q2))) (by decide) ?_
          obtain ⟨m7, u_m7, e⟩ := o_let_ex e
          refine G.hm u_m7 ?_
          refine g_goto (tgt := 65) k_Tab_addRow_49 (by decide) ?_
          refine g_aload_n k_Tab_addRow_65 rfl rfl ?_
          refine p_geti k_Tab_addRow_66 fl_Tab_40 rfl (sk_Row (sy_row s (inb_in q2))) (by decide) ?_
          refine g_iret k_Tab_addRow_69 rfl ?_
          exact (by cases e; exact hq)
        · rw [if_neg c] at e
          refine g_aload_n k_Tab_addRow_52 rfl rfl ?_
          refine p_geti k_Tab_addRow_53 fl_Tab_43 rfl (sk_Tab (sy_Tab s)) (by decide) ?_
          refine g_iconst (v := 3) k_Tab_addRow_56 rfl ?_
          refine g_icmp_lt (tgt := 65) k_Tab_addRow_57 (by decide) (fun c => ?_) (fun c => ?_)
          · rw [if_pos c] at e
            refine g_aload_n k_Tab_addRow_65 rfl rfl ?_
            refine p_geti k_Tab_addRow_66 fl_Tab_40 rfl (sk_Row (sy_row s (inb_in q2))) (by decide) ?_
            refine g_iret k_Tab_addRow_69 rfl ?_
            exact (by cases e; exact hq)
          · rw [if_neg c] at e
            refine g_aload_n k_Tab_addRow_60 rfl rfl ?_
            refine g_aload_n k_Tab_addRow_61 rfl rfl ?_
            obtain ⟨y8, m9, e_y8, e⟩ := o_b2_ex e
            refine g_cv k_Tab_addRow_62 lv_Tab_89 (by decide +kernel) (T := F_Tab) (N := 11) (ci := 7) rfl (sk_Tab (sy_Tab s)) (s_Tab_lead (bc := 0) (bs := 0) s F (rwp x1) (sy_row s (inb_in q2)) m4 e_y8 (by omega)) rfl rfl (Nat.le_of_ble_eq_true rfl) (by simp [Value.category]) (by omega) (by omega) (by omega) ?_
            refine g_aload_n k_Tab_addRow_65 rfl rfl ?_
            refine p_geti k_Tab_addRow_66 fl_Tab_40 rfl (sk_Row (sy_row s (inb_in q2))) (by decide) ?_
            refine g_iret k_Tab_addRow_69 rfl ?_
            exact (by cases e; exact hq)
      · rw [if_neg c] at e
        refine g_iconst (v := (-1)) k_Tab_addRow_18 rfl ?_
        refine g_iret k_Tab_addRow_19 rfl ?_
        exact (by cases e; exact hq)
def f_Tab_dropRow (x1 : Int32) (m : aM) : Option (Int32 × aM) :=
  o_b (f_Tab_isThere x1 m) fun y1 =>
  (if y1 = 0 then
  some (0, m)
  else
  o_gd (inb x1 40) <|
  o_let (a_st m (rwp x1) 3 (-1)) fun m3 =>
  some (1, m3)
  )
theorem s_Tab_dropRow {K : aK} {d bc bs : Nat} {g : aG} (s : Sys g) (x1 : Int32) (m : aM) {r : Int32} {m' : aM} (e : f_Tab_dropRow x1 m = some (r, m')) (hd : 1 ≤ d) : Sp K M_Tab_dropRow d bc bs [.ref 37, .int x1] (g, m) (some (.int r)) (g, m') := by
  refine sp_of ok_Tab_dropRow rfl (Nat.le_of_ble_eq_true rfl) (by simp [Value.category]) (fun Q hq => ?_)
  unfold f_Tab_dropRow at e
  refine g_aload_n k_Tab_dropRow_0 rfl rfl ?_
  refine g_iload_n k_Tab_dropRow_1 rfl rfl ?_
  obtain ⟨y1, e_y1, e⟩ := o_b_ex e
  refine g_cv k_Tab_dropRow_2 lv_Tab_79 (by decide +kernel) (T := F_Tab) (N := 11) (ci := 7) rfl (sk_Tab (sy_Tab s)) (s_Tab_isThere (bc := 0) (bs := 0) s x1 m e_y1) rfl rfl (Nat.le_of_ble_eq_true rfl) (by simp [Value.category]) (by omega) (by omega) (by omega) ?_
  refine g_if_ne (tgt := 10) k_Tab_dropRow_5 (by decide) (fun c => ?_) (fun c => ?_)
  · rw [if_pos c] at e
    refine g_iconst (v := 0) k_Tab_dropRow_8 rfl ?_
    refine g_zret k_Tab_dropRow_9 rfl (by decide) ?_
    exact (by cases e; exact hq)
  · rw [if_neg c] at e
    refine g_aload_n k_Tab_dropRow_10 rfl rfl ?_
    refine p_getr k_Tab_dropRow_11 fl_Tab_11 rfl (sk_Tab (sy_Tab s)) (by decide) (sr_Tab_2 (sy_Tab s)) ?_
    refine g_iload_n k_Tab_dropRow_14 rfl rfl ?_
    obtain ⟨q2, e⟩ := o_gd_ex e
    refine p_aald k_Tab_dropRow_15 (sa_Tab_2 (sy_Tab s)) (by decide) (by decide) (inb_in q2) (j := x1.toNatClampNeg) rfl (sy_rowr s (inb_in q2)) ?_
    refine g_iconst (v := (-1)) k_Tab_dropRow_16 rfl ?_
    refine p_puti k_Tab_dropRow_17 fl_Tab_40 rfl ⟨R_Row, F_Row, 8, rfl, Or.inl rfl⟩ (sk_Row (sy_row s (inb_in q2))) (by decide) ?_
    obtain ⟨m3, u_m3, e⟩ := o_let_ex e
    refine G.hm u_m3 ?_
    refine g_iconst (v := 1) k_Tab_dropRow_20 rfl ?_
    refine g_zret k_Tab_dropRow_21 rfl (by decide) ?_
    exact (by cases e; exact hq)
def f_Tab_copyLetters (a0 : Nat) (a1 : Nat) (m : aM) : Option (Int32 × aM) :=
  (if (4 : Int32) < 4 then
  some (0, m)
  else
  (if (4 : Int32) < 4 then
  some (0, m)
  else
  o_gd (cpg 0 0 4 4 4) <|
  o_let (a_sf m a1 (va_cpy (m a0) (m a1) (0 : Int32).toNatClampNeg (0 : Int32).toNatClampNeg (4 : Int32).toNatClampNeg)) fun m2 =>
  some (0, m2)
  )
  )
theorem s_Tab_copyLetters {K : aK} {d bc bs : Nat} {g : aG} (s : Sys g) (a0 : Nat) (h0 : g.2.1 a0 = (0, 4)) (a1 : Nat) (h1 : g.2.1 a1 = (0, 4)) (m : aM) {r : Int32} {m' : aM} (e : f_Tab_copyLetters a0 a1 m = some (r, m')) (hd : 1 ≤ d) : Sp K M_Tab_copyLetters d bc bs [.ref a0, .ref a1] (g, m) none (g, m') := by
  refine sp_of ok_Tab_copyLetters rfl (Nat.le_of_ble_eq_true rfl) (by simp [Value.category]) (fun Q hq => ?_)
  unfold f_Tab_copyLetters at e
  refine g_aload_n k_Tab_copyLetters_0 rfl rfl ?_
  refine p_alen (v := 4) k_Tab_copyLetters_1 h0 (by decide) rfl ?_
  refine g_iconst (v := 4) k_Tab_copyLetters_2 rfl ?_
  refine g_icmp_lt (tgt := 20) k_Tab_copyLetters_3 (by decide) (fun c => ?_) (fun c => ?_)
  · rw [if_pos c] at e
    refine g_vret k_Tab_copyLetters_20 rfl ?_
    exact (by cases e; exact hq)
  · rw [if_neg c] at e
    refine g_aload_n k_Tab_copyLetters_6 rfl rfl ?_
    refine p_alen (v := 4) k_Tab_copyLetters_7 h1 (by decide) rfl ?_
    refine g_iconst (v := 4) k_Tab_copyLetters_8 rfl ?_
    refine g_icmp_lt (tgt := 20) k_Tab_copyLetters_9 (by decide) (fun c => ?_) (fun c => ?_)
    · rw [if_pos c] at e
      refine g_vret k_Tab_copyLetters_20 rfl ?_
      exact (by cases e; exact hq)
    · rw [if_neg c] at e
      refine g_aload_n k_Tab_copyLetters_12 rfl rfl ?_
      refine g_iconst (v := 0) k_Tab_copyLetters_13 rfl ?_
      refine g_aload_n k_Tab_copyLetters_14 rfl rfl ?_
      refine g_iconst (v := 0) k_Tab_copyLetters_15 rfl ?_
      refine g_iconst (v := 4) k_Tab_copyLetters_16 rfl ?_
      obtain ⟨q1, e⟩ := o_gd_ex e
      refine p_cp k_Tab_copyLetters_17 yw_Tab_127 h0 h1 (cpg_of q1).1 (cpg_of q1).2.1 (cpg_of q1).2.2.1 (cpg_of q1).2.2.2.1 (cpg_of q1).2.2.2.2 (Nat.le_of_ble_eq_true rfl) (by omega) ?_
      obtain ⟨m2, u_m2, e⟩ := o_let_ex e
      refine G.hm u_m2 ?_
      refine g_vret k_Tab_copyLetters_20 rfl ?_
      exact (by cases e; exact hq)
def f_Tab_oldAsIf (F : Nat) (a1 : Nat) (a2 : Nat) (m : aM) : Option (Int32 × aM) :=
  o_b (f_Row_hasOld a1 m) fun y1 =>
  (if y1 = 0 then
  o_b2 (f_Len_toOld F 2 (a1 + 2) (a1 + 3) a2 m) fun y2 m3 =>
  some (0, m3)
  else
  o_b2 (f_Tab_copyLetters (a1 + 1) a2 m) fun y4 m5 =>
  some (0, m5)
  )
theorem s_Tab_oldAsIf {K : aK} {d bc bs : Nat} {g : aG} (s : Sys g) (F : Nat) (a1 : Nat) (s1 : ShRow g a1) (a2 : Nat) (h2 : g.2.1 a2 = (0, 4)) (m : aM) {r : Int32} {m' : aM} (e : f_Tab_oldAsIf F a1 a2 m = some (r, m')) (hd : 3 ≤ d) : Sp K M_Tab_oldAsIf d bc bs [.ref 37, .ref a1, .ref a2] (g, m) none (g, m') := by
  refine sp_of ok_Tab_oldAsIf rfl (Nat.le_of_ble_eq_true rfl) (by simp [Value.category]) (fun Q hq => ?_)
  unfold f_Tab_oldAsIf at e
  refine g_aload_n k_Tab_oldAsIf_0 rfl rfl ?_
  obtain ⟨y1, e_y1, e⟩ := o_b_ex e
  refine g_cv k_Tab_oldAsIf_1 lv_Tab_114 (by decide +kernel) (T := F_Row) (N := 8) (ci := 6) rfl (sk_Row s1) (s_Row_hasOld (bc := 0) (bs := 0) s a1 s1 m e_y1) rfl rfl (Nat.le_of_ble_eq_true rfl) (by simp [Value.category]) (by omega) (by omega) (by omega) ?_
  refine g_if_eq (tgt := 18) k_Tab_oldAsIf_4 (by decide) (fun c => ?_) (fun c => ?_)
  · rw [if_pos c] at e
    refine g_aload_n k_Tab_oldAsIf_18 rfl rfl ?_
    refine p_getr k_Tab_oldAsIf_19 fl_Tab_27 rfl (sk_Tab (sy_Tab s)) (by decide) (sr_Tab_0 s) ?_
    refine g_aload_n k_Tab_oldAsIf_22 rfl rfl ?_
    refine p_getr k_Tab_oldAsIf_23 fl_Tab_95 rfl (sk_Row s1) (by decide) (sr_Row_1 s1) ?_
    refine g_aload_n k_Tab_oldAsIf_26 rfl rfl ?_
    refine p_getr k_Tab_oldAsIf_27 fl_Tab_104 rfl (sk_Row s1) (by decide) (sr_Row_2 s1) ?_
    refine g_aload_n k_Tab_oldAsIf_30 rfl rfl ?_
    obtain ⟨y2, m3, e_y2, e⟩ := o_b2_ex e
    refine g_cv k_Tab_oldAsIf_31 lv_Tab_120 (by decide +kernel) (T := F_Len) (N := 11) (ci := 2) rfl (sk_Len (sy_len s)) (s_Len_toOld (bc := 0) (bs := 0) s F 2 (sy_len s) (a1 + 2) (sa_Row_1 s1) (a1 + 3) (sa_Row_2 s1) a2 h2 m e_y2 (by omega)) rfl rfl (Nat.le_of_ble_eq_true rfl) (by simp [Value.category]) (by omega) (by omega) (by omega) ?_
    refine g_vret k_Tab_oldAsIf_34 rfl ?_
    exact (by cases e; exact hq)
  · rw [if_neg c] at e
    refine g_aload_n k_Tab_oldAsIf_7 rfl rfl ?_
    refine p_getr k_Tab_oldAsIf_8 fl_Tab_92 rfl (sk_Row s1) (by decide) (sr_Row_0 s1) ?_
    refine g_aload_n k_Tab_oldAsIf_11 rfl rfl ?_
    obtain ⟨y4, m5, e_y4, e⟩ := o_b2_ex e
    refine g_cs k_Tab_oldAsIf_12 ls_Tab_117 (by decide +kernel) (s_Tab_copyLetters (bc := 0) (bs := 0) s (a1 + 1) (sa_Row_0 s1) a2 h2 m e_y4 (by omega)) rfl rfl (Nat.le_of_ble_eq_true rfl) (by simp [Value.category]) (by omega) (by omega) (by omega) ?_
    refine g_goto (tgt := 34) k_Tab_oldAsIf_15 (by decide) ?_
    refine g_vret k_Tab_oldAsIf_34 rfl ?_
    exact (by cases e; exact hq)
def f_Tab_newAsIf (F : Nat) (a1 : Nat) (a2 : Nat) (m : aM) : Option (Int32 × aM) :=
  o_b (f_Row_hasNew a1 m) fun y1 =>
  (if y1 = 0 then
  o_b2 (f_Len_toNew F 2 (a1 + 1) a2 m) fun y2 m3 =>
  some (0, m3)
  else
  o_b2 (f_Tab_copyLetters (a1 + 2) a2 m) fun y4 m5 =>
  some (0, m5)
  )
theorem s_Tab_newAsIf {K : aK} {d bc bs : Nat} {g : aG} (s : Sys g) (F : Nat) (a1 : Nat) (s1 : ShRow g a1) (a2 : Nat) (h2 : g.2.1 a2 = (0, 4)) (m : aM) {r : Int32} {m' : aM} (e : f_Tab_newAsIf F a1 a2 m = some (r, m')) (hd : 3 ≤ d) : Sp K M_Tab_newAsIf d bc bs [.ref 37, .ref a1, .ref a2] (g, m) none (g, m') := by
  refine sp_of ok_Tab_newAsIf rfl (Nat.le_of_ble_eq_true rfl) (by simp [Value.category]) (fun Q hq => ?_)
  unfold f_Tab_newAsIf at e
  refine g_aload_n k_Tab_newAsIf_0 rfl rfl ?_
  obtain ⟨y1, e_y1, e⟩ := o_b_ex e
  refine g_cv k_Tab_newAsIf_1 lv_Tab_124 (by decide +kernel) (T := F_Row) (N := 8) (ci := 6) rfl (sk_Row s1) (s_Row_hasNew (bc := 0) (bs := 0) s a1 s1 m e_y1) rfl rfl (Nat.le_of_ble_eq_true rfl) (by simp [Value.category]) (by omega) (by omega) (by omega) ?_
  refine g_if_eq (tgt := 18) k_Tab_newAsIf_4 (by decide) (fun c => ?_) (fun c => ?_)
  · rw [if_pos c] at e
    refine g_aload_n k_Tab_newAsIf_18 rfl rfl ?_
    refine p_getr k_Tab_newAsIf_19 fl_Tab_27 rfl (sk_Tab (sy_Tab s)) (by decide) (sr_Tab_0 s) ?_
    refine g_aload_n k_Tab_newAsIf_22 rfl rfl ?_
    refine p_getr k_Tab_newAsIf_23 fl_Tab_92 rfl (sk_Row s1) (by decide) (sr_Row_0 s1) ?_
    refine g_aload_n k_Tab_newAsIf_26 rfl rfl ?_
    obtain ⟨y2, m3, e_y2, e⟩ := o_b2_ex e
    refine g_cv k_Tab_newAsIf_27 lv_Tab_98 (by decide +kernel) (T := F_Len) (N := 11) (ci := 2) rfl (sk_Len (sy_len s)) (s_Len_toNew (bc := 0) (bs := 0) s F 2 (sy_len s) (a1 + 1) (sa_Row_0 s1) a2 h2 m e_y2 (by omega)) rfl rfl (Nat.le_of_ble_eq_true rfl) (by simp [Value.category]) (by omega) (by omega) (by omega) ?_
    refine g_vret k_Tab_newAsIf_30 rfl ?_
    exact (by cases e; exact hq)
  · rw [if_neg c] at e
    refine g_aload_n k_Tab_newAsIf_7 rfl rfl ?_
    refine p_getr k_Tab_newAsIf_8 fl_Tab_95 rfl (sk_Row s1) (by decide) (sr_Row_1 s1) ?_
    refine g_aload_n k_Tab_newAsIf_11 rfl rfl ?_
    obtain ⟨y4, m5, e_y4, e⟩ := o_b2_ex e
    refine g_cs k_Tab_newAsIf_12 ls_Tab_117 (by decide +kernel) (s_Tab_copyLetters (bc := 0) (bs := 0) s (a1 + 2) (sa_Row_1 s1) a2 h2 m e_y4 (by omega)) rfl rfl (Nat.le_of_ble_eq_true rfl) (by simp [Value.category]) (by omega) (by omega) (by omega) ?_
    refine g_goto (tgt := 30) k_Tab_newAsIf_15 (by decide) ?_
    refine g_vret k_Tab_newAsIf_30 rfl ?_
    exact (by cases e; exact hq)
def f_Tab_readLetter (F : Nat) (x1 : Int32) (x2 : Int32) (x3 : Int32) (x4 : Int32) (m : aM) : Option (Int32 × aM) :=
  o_b (f_Tab_isThere x2 m) fun y1 =>
  (if y1 = 0 then
  some ((-1), m)
  else
  (if x4 < 0 then
  some ((-1), m)
  else
  (if x4 < 4 then
  o_b2 (f_Ask_note x1 x3 x4 0 (m 37 7) m) fun y2 m3 =>
  (if x3 = 0 then
  o_gd (inb x2 40) <|
  o_b2 (f_Tab_oldAsIf F (rwp x2) 39 m3) fun y5 m6 =>
  o_gd (inb x4 4) <|
  some ((m6 39 x4.toNatClampNeg), m6)
  else
  o_gd (inb x2 40) <|
  o_b2 (f_Tab_newAsIf F (rwp x2) 40 m3) fun y9 m10 =>
  o_gd (inb x4 4) <|
  some ((m10 40 x4.toNatClampNeg), m10)
  )
  else
  some ((-1), m)
  )
  )
  )
theorem s_Tab_readLetter {K : aK} {d bc bs : Nat} {g : aG} (s : Sys g) (F : Nat) (x1 : Int32) (x2 : Int32) (x3 : Int32) (x4 : Int32) (m : aM) {r : Int32} {m' : aM} (e : f_Tab_readLetter F x1 x2 x3 x4 m = some (r, m')) (hd : 4 ≤ d) : Sp K M_Tab_readLetter d bc bs [.ref 37, .int x1, .int x2, .int x3, .int x4] (g, m) (some (.int r)) (g, m') := by
  refine sp_of ok_Tab_readLetter rfl (Nat.le_of_ble_eq_true rfl) (by simp [Value.category]) (fun Q hq => ?_)
  unfold f_Tab_readLetter at e
  refine g_aload_n k_Tab_readLetter_0 rfl rfl ?_
  refine g_iload_n k_Tab_readLetter_1 rfl rfl ?_
  obtain ⟨y1, e_y1, e⟩ := o_b_ex e
  refine g_cv k_Tab_readLetter_2 lv_Tab_79 (by decide +kernel) (T := F_Tab) (N := 11) (ci := 7) rfl (sk_Tab (sy_Tab s)) (s_Tab_isThere (bc := 0) (bs := 0) s x2 m e_y1) rfl rfl (Nat.le_of_ble_eq_true rfl) (by simp [Value.category]) (by omega) (by omega) (by omega) ?_
  refine g_if_eq (tgt := 19) k_Tab_readLetter_5 (by decide) (fun c => ?_) (fun c => ?_)
  · rw [if_pos c] at e
    refine g_iconst (v := (-1)) k_Tab_readLetter_19 rfl ?_
    refine g_iret k_Tab_readLetter_20 rfl ?_
    exact (by cases e; exact hq)
  · rw [if_neg c] at e
    refine g_iload k_Tab_readLetter_8 rfl ?_
    refine g_if_lt (tgt := 19) k_Tab_readLetter_10 (by decide) (fun c => ?_) (fun c => ?_)
    · rw [if_pos c] at e
      refine g_iconst (v := (-1)) k_Tab_readLetter_19 rfl ?_
      refine g_iret k_Tab_readLetter_20 rfl ?_
      exact (by cases e; exact hq)
    · rw [if_neg c] at e
      refine g_iload k_Tab_readLetter_13 rfl ?_
      refine g_iconst (v := 4) k_Tab_readLetter_15 rfl ?_
      refine g_icmp_lt (tgt := 21) k_Tab_readLetter_16 (by decide) (fun c => ?_) (fun c => ?_)
      · rw [if_pos c] at e
        refine g_aload_n k_Tab_readLetter_21 rfl rfl ?_
        refine p_getr k_Tab_readLetter_22 fl_Tab_31 rfl (sk_Tab (sy_Tab s)) (by decide) (sr_Tab_1 s) ?_
        refine g_iload_n k_Tab_readLetter_25 rfl rfl ?_
        refine g_iload_n k_Tab_readLetter_26 rfl rfl ?_
        refine g_iload k_Tab_readLetter_27 rfl ?_
        refine g_iconst (v := 0) k_Tab_readLetter_29 rfl ?_
        refine g_aload_n k_Tab_readLetter_30 rfl rfl ?_
        refine p_geti k_Tab_readLetter_31 fl_Tab_64 rfl (sk_Tab (sy_Tab s)) (by decide) ?_
        obtain ⟨y2, m3, e_y2, e⟩ := o_b2_ex e
        refine g_cv k_Tab_readLetter_34 lv_Tab_133 (by decide +kernel) (T := F_Ask) (N := 1) (ci := 0) rfl (sk_Ask (sy_Ask s)) (s_Ask_note (bc := 0) (bs := 0) s x1 x3 x4 0 (m 37 7) m e_y2 (by omega)) rfl rfl (Nat.le_of_ble_eq_true rfl) (by simp [Value.category]) (by omega) (by omega) (by omega) ?_
        refine g_iload_n k_Tab_readLetter_37 rfl rfl ?_
        refine g_if_ne (tgt := 63) k_Tab_readLetter_38 (by decide) (fun c => ?_) (fun c => ?_)
        · rw [if_pos c] at e
          refine g_aload_n k_Tab_readLetter_41 rfl rfl ?_
          refine g_aload_n k_Tab_readLetter_42 rfl rfl ?_
          refine p_getr k_Tab_readLetter_43 fl_Tab_11 rfl (sk_Tab (sy_Tab s)) (by decide) (sr_Tab_2 (sy_Tab s)) ?_
          refine g_iload_n k_Tab_readLetter_46 rfl rfl ?_
          obtain ⟨q4, e⟩ := o_gd_ex e
          refine p_aald k_Tab_readLetter_47 (sa_Tab_2 (sy_Tab s)) (by decide) (by decide) (inb_in q4) (j := x2.toNatClampNeg) rfl (sy_rowr s (inb_in q4)) ?_
          refine g_aload_n k_Tab_readLetter_48 rfl rfl ?_
          refine p_getr k_Tab_readLetter_49 fl_Tab_17 rfl (sk_Tab (sy_Tab s)) (by decide) (sr_Tab_3 (sy_Tab s)) ?_
          obtain ⟨y5, m6, e_y5, e⟩ := o_b2_ex e
          refine g_cv k_Tab_readLetter_52 lv_Tab_137 (by decide +kernel) (T := F_Tab) (N := 11) (ci := 7) rfl (sk_Tab (sy_Tab s)) (s_Tab_oldAsIf (bc := 0) (bs := 0) s F (rwp x2) (sy_row s (inb_in q4)) 39 (sa_Tab_3 (sy_Tab s)) m3 e_y5 (by omega)) rfl rfl (Nat.le_of_ble_eq_true rfl) (by simp [Value.category]) (by omega) (by omega) (by omega) ?_
          refine g_aload_n k_Tab_readLetter_55 rfl rfl ?_
          refine p_getr k_Tab_readLetter_56 fl_Tab_17 rfl (sk_Tab (sy_Tab s)) (by decide) (sr_Tab_3 (sy_Tab s)) ?_
          refine g_iload k_Tab_readLetter_59 rfl ?_
          obtain ⟨q7, e⟩ := o_gd_ex e
          refine p_iald k_Tab_readLetter_61 (sa_Tab_3 (sy_Tab s)) (inb_in q7) (j := x4.toNatClampNeg) rfl ?_
          refine g_iret k_Tab_readLetter_62 rfl ?_
          exact (by cases e; exact hq)
        · rw [if_neg c] at e
          refine g_aload_n k_Tab_readLetter_63 rfl rfl ?_
          refine g_aload_n k_Tab_readLetter_64 rfl rfl ?_
          refine p_getr k_Tab_readLetter_65 fl_Tab_11 rfl (sk_Tab (sy_Tab s)) (by decide) (sr_Tab_2 (sy_Tab s)) ?_
          refine g_iload_n k_Tab_readLetter_68 rfl rfl ?_
          obtain ⟨q8, e⟩ := o_gd_ex e
          refine p_aald k_Tab_readLetter_69 (sa_Tab_2 (sy_Tab s)) (by decide) (by decide) (inb_in q8) (j := x2.toNatClampNeg) rfl (sy_rowr s (inb_in q8)) ?_
          refine g_aload_n k_Tab_readLetter_70 rfl rfl ?_
          refine p_getr k_Tab_readLetter_71 fl_Tab_21 rfl (sk_Tab (sy_Tab s)) (by decide) (sr_Tab_4 (sy_Tab s)) ?_
          obtain ⟨y9, m10, e_y9, e⟩ := o_b2_ex e
          refine g_cv k_Tab_readLetter_74 lv_Tab_141 (by decide +kernel) (T := F_Tab) (N := 11) (ci := 7) rfl (sk_Tab (sy_Tab s)) (s_Tab_newAsIf (bc := 0) (bs := 0) s F (rwp x2) (sy_row s (inb_in q8)) 40 (sa_Tab_4 (sy_Tab s)) m3 e_y9 (by omega)) rfl rfl (Nat.le_of_ble_eq_true rfl) (by simp [Value.category]) (by omega) (by omega) (by omega) ?_
          refine g_aload_n k_Tab_readLetter_77 rfl rfl ?_
          refine p_getr k_Tab_readLetter_78 fl_Tab_21 rfl (sk_Tab (sy_Tab s)) (by decide) (sr_Tab_4 (sy_Tab s)) ?_
          refine g_iload k_Tab_readLetter_81 rfl ?_
          obtain ⟨q11, e⟩ := o_gd_ex e
          refine p_iald k_Tab_readLetter_83 (sa_Tab_4 (sy_Tab s)) (inb_in q11) (j := x4.toNatClampNeg) rfl ?_
          refine g_iret k_Tab_readLetter_84 rfl ?_
          exact (by cases e; exact hq)
      · rw [if_neg c] at e
        refine g_iconst (v := (-1)) k_Tab_readLetter_19 rfl ?_
        refine g_iret k_Tab_readLetter_20 rfl ?_
        exact (by cases e; exact hq)
def b_Tab_writeOld_25 (F : Nat) (a1 : Nat) (m : aM) : Option (Int32 × aM) :=
  o_b2 (f_Tab_copyLetters 39 (a1 + 1) m) fun y1 m2 =>
  o_b (f_Row_hasNew a1 m2) fun y3 =>
  (if y3 = 0 then
  some (0, m2)
  else
  o_b2 (f_Tab_seeAnew F a1 m2) fun y4 m5 =>
  some (0, m5)
  )
theorem t_Tab_writeOld_25 {K : aK} {d bc bs : Nat} {g : aG} (s : Sys g) {Q : aQ} {r : Int32} {m' : aM} (F : Nat) (a1 : Nat) (s1 : ShRow g a1) (m : aM) (hq : Q (.inl none) (g, m')) (e : b_Tab_writeOld_25 F a1 m = some (r, m')) (hd : 4 ≤ d) : G K M_Tab_writeOld d bc bs 25 [.ref 37, .ref a1, .double 0, .double 0] [] (g, m) Q := by
  unfold b_Tab_writeOld_25 at e
  refine g_aload_n k_Tab_writeOld_25 rfl rfl ?_
  refine p_getr k_Tab_writeOld_26 fl_Tab_17 rfl (sk_Tab (sy_Tab s)) (by decide) (sr_Tab_3 (sy_Tab s)) ?_
  refine g_aload_n k_Tab_writeOld_29 rfl rfl ?_
  refine p_getr k_Tab_writeOld_30 fl_Tab_92 rfl (sk_Row s1) (by decide) (sr_Row_0 s1) ?_
  obtain ⟨y1, m2, e_y1, e⟩ := o_b2_ex e
  refine g_cs k_Tab_writeOld_33 ls_Tab_117 (by decide +kernel) (s_Tab_copyLetters (bc := 0) (bs := 0) s 39 (sa_Tab_3 (sy_Tab s)) (a1 + 1) (sa_Row_0 s1) m e_y1 (by omega)) rfl rfl (Nat.le_of_ble_eq_true rfl) (by simp [Value.category]) (by omega) (by omega) (by omega) ?_
  refine g_aload_n k_Tab_writeOld_36 rfl rfl ?_
  obtain ⟨y3, e_y3, e⟩ := o_b_ex e
  refine g_cv k_Tab_writeOld_37 lv_Tab_124 (by decide +kernel) (T := F_Row) (N := 8) (ci := 6) rfl (sk_Row s1) (s_Row_hasNew (bc := 0) (bs := 0) s a1 s1 m2 e_y3) rfl rfl (Nat.le_of_ble_eq_true rfl) (by simp [Value.category]) (by omega) (by omega) (by omega) ?_
  refine g_if_eq (tgt := 48) k_Tab_writeOld_40 (by decide) (fun c => ?_) (fun c => ?_)
  · rw [if_pos c] at e
    refine g_vret k_Tab_writeOld_48 rfl ?_
    exact (by cases e; exact hq)
  · rw [if_neg c] at e
    refine g_aload_n k_Tab_writeOld_43 rfl rfl ?_
    refine g_aload_n k_Tab_writeOld_44 rfl rfl ?_
    obtain ⟨y4, m5, e_y4, e⟩ := o_b2_ex e
    refine g_cv k_Tab_writeOld_45 lv_Tab_85 (by decide +kernel) (T := F_Tab) (N := 11) (ci := 7) rfl (sk_Tab (sy_Tab s)) (s_Tab_seeAnew (bc := 0) (bs := 0) s F a1 s1 m2 e_y4 (by omega)) rfl rfl (Nat.le_of_ble_eq_true rfl) (by simp [Value.category]) (by omega) (by omega) (by omega) ?_
    refine g_vret k_Tab_writeOld_48 rfl ?_
    exact (by cases e; exact hq)
def f_Tab_writeOld (F : Nat) (a1 : Nat) (x2 : Int32) (x3 : Int32) (m : aM) : Option (Int32 × aM) :=
  o_b2 (f_Tab_oldAsIf F a1 39 m) fun y1 m2 =>
  (if x2 < 0 then
  b_Tab_writeOld_25 F a1 m2
  else
  (if 4 ≤ x2 then
  b_Tab_writeOld_25 F a1 m2
  else
  o_gd (inb x2 4) <|
  o_let (a_st m2 39 x2.toNatClampNeg x3) fun m4 =>
  b_Tab_writeOld_25 F a1 m4
  )
  )
theorem s_Tab_writeOld {K : aK} {d bc bs : Nat} {g : aG} (s : Sys g) (F : Nat) (a1 : Nat) (s1 : ShRow g a1) (x2 : Int32) (x3 : Int32) (m : aM) {r : Int32} {m' : aM} (e : f_Tab_writeOld F a1 x2 x3 m = some (r, m')) (hd : 4 ≤ d) : Sp K M_Tab_writeOld d bc bs [.ref 37, .ref a1, .int x2, .int x3] (g, m) none (g, m') := by
  refine sp_of ok_Tab_writeOld rfl (Nat.le_of_ble_eq_true rfl) (by simp [Value.category]) (fun Q hq => ?_)
  unfold f_Tab_writeOld at e
  refine g_aload_n k_Tab_writeOld_0 rfl rfl ?_
  refine g_aload_n k_Tab_writeOld_1 rfl rfl ?_
  refine g_aload_n k_Tab_writeOld_2 rfl rfl ?_
  refine p_getr k_Tab_writeOld_3 fl_Tab_17 rfl (sk_Tab (sy_Tab s)) (by decide) (sr_Tab_3 (sy_Tab s)) ?_
  obtain ⟨y1, m2, e_y1, e⟩ := o_b2_ex e
  refine g_cv k_Tab_writeOld_6 lv_Tab_137 (by decide +kernel) (T := F_Tab) (N := 11) (ci := 7) rfl (sk_Tab (sy_Tab s)) (s_Tab_oldAsIf (bc := 0) (bs := 0) s F a1 s1 39 (sa_Tab_3 (sy_Tab s)) m e_y1 (by omega)) rfl rfl (Nat.le_of_ble_eq_true rfl) (by simp [Value.category]) (by omega) (by omega) (by omega) ?_
  refine g_iload_n k_Tab_writeOld_9 rfl rfl ?_
  refine g_if_lt (tgt := 25) k_Tab_writeOld_10 (by decide) (fun c => ?_) (fun c => ?_)
  · rw [if_pos c] at e
    exact G.wl (wls (wls (wld (wld wl0)))) (t_Tab_writeOld_25 s F a1 s1 m2 hq e hd)
  · rw [if_neg c] at e
    refine g_iload_n k_Tab_writeOld_13 rfl rfl ?_
    refine g_iconst (v := 4) k_Tab_writeOld_14 rfl ?_
    refine g_icmp_ge (tgt := 25) k_Tab_writeOld_15 (by decide) (fun c => ?_) (fun c => ?_)
    · rw [if_pos c] at e
      exact G.wl (wls (wls (wld (wld wl0)))) (t_Tab_writeOld_25 s F a1 s1 m2 hq e hd)
    · rw [if_neg c] at e
      refine g_aload_n k_Tab_writeOld_18 rfl rfl ?_
      refine p_getr k_Tab_writeOld_19 fl_Tab_17 rfl (sk_Tab (sy_Tab s)) (by decide) (sr_Tab_3 (sy_Tab s)) ?_
      refine g_iload_n k_Tab_writeOld_22 rfl rfl ?_
      refine g_iload_n k_Tab_writeOld_23 rfl rfl ?_
      obtain ⟨q3, e⟩ := o_gd_ex e
      refine p_iast k_Tab_writeOld_24 (sa_Tab_3 (sy_Tab s)) (inb_in q3) (j := x2.toNatClampNeg) rfl ?_
      obtain ⟨m4, u_m4, e⟩ := o_let_ex e
      refine G.hm u_m4 ?_
      exact G.wl (wls (wls (wld (wld wl0)))) (t_Tab_writeOld_25 s F a1 s1 m4 hq e hd)
def f_Tab_besideAsIf (F : Nat) (a1 : Nat) (a2 : Nat) (m : aM) : Option (Int32 × aM) :=
  o_b (f_Row_hasNew a1 m) fun y1 =>
  (if y1 = 0 then
  o_b2 (f_Len_toBeside F 2 (a1 + 1) a2 m) fun y2 m3 =>
  some (0, m3)
  else
  o_b2 (f_Tab_copyLetters (a1 + 3) a2 m) fun y4 m5 =>
  some (0, m5)
  )
theorem s_Tab_besideAsIf {K : aK} {d bc bs : Nat} {g : aG} (s : Sys g) (F : Nat) (a1 : Nat) (s1 : ShRow g a1) (a2 : Nat) (h2 : g.2.1 a2 = (0, 4)) (m : aM) {r : Int32} {m' : aM} (e : f_Tab_besideAsIf F a1 a2 m = some (r, m')) (hd : 2 ≤ d) : Sp K M_Tab_besideAsIf d bc bs [.ref 37, .ref a1, .ref a2] (g, m) none (g, m') := by
  refine sp_of ok_Tab_besideAsIf rfl (Nat.le_of_ble_eq_true rfl) (by simp [Value.category]) (fun Q hq => ?_)
  unfold f_Tab_besideAsIf at e
  refine g_aload_n k_Tab_besideAsIf_0 rfl rfl ?_
  obtain ⟨y1, e_y1, e⟩ := o_b_ex e
  refine g_cv k_Tab_besideAsIf_1 lv_Tab_124 (by decide +kernel) (T := F_Row) (N := 8) (ci := 6) rfl (sk_Row s1) (s_Row_hasNew (bc := 0) (bs := 0) s a1 s1 m e_y1) rfl rfl (Nat.le_of_ble_eq_true rfl) (by simp [Value.category]) (by omega) (by omega) (by omega) ?_
  refine g_if_eq (tgt := 18) k_Tab_besideAsIf_4 (by decide) (fun c => ?_) (fun c => ?_)
  · rw [if_pos c] at e
    refine g_aload_n k_Tab_besideAsIf_18 rfl rfl ?_
    refine p_getr k_Tab_besideAsIf_19 fl_Tab_27 rfl (sk_Tab (sy_Tab s)) (by decide) (sr_Tab_0 s) ?_
    refine g_aload_n k_Tab_besideAsIf_22 rfl rfl ?_
    refine p_getr k_Tab_besideAsIf_23 fl_Tab_92 rfl (sk_Row s1) (by decide) (sr_Row_0 s1) ?_
    refine g_aload_n k_Tab_besideAsIf_26 rfl rfl ?_
    obtain ⟨y2, m3, e_y2, e⟩ := o_b2_ex e
    refine g_cv k_Tab_besideAsIf_27 lv_Tab_107 (by decide +kernel) (T := F_Len) (N := 11) (ci := 2) rfl (sk_Len (sy_len s)) (s_Len_toBeside (bc := 0) (bs := 0) s F 2 (sy_len s) (a1 + 1) (sa_Row_0 s1) a2 h2 m e_y2) rfl rfl (Nat.le_of_ble_eq_true rfl) (by simp [Value.category]) (by omega) (by omega) (by omega) ?_
    refine g_vret k_Tab_besideAsIf_30 rfl ?_
    exact (by cases e; exact hq)
  · rw [if_neg c] at e
    refine g_aload_n k_Tab_besideAsIf_7 rfl rfl ?_
    refine p_getr k_Tab_besideAsIf_8 fl_Tab_104 rfl (sk_Row s1) (by decide) (sr_Row_2 s1) ?_
    refine g_aload_n k_Tab_besideAsIf_11 rfl rfl ?_
    obtain ⟨y4, m5, e_y4, e⟩ := o_b2_ex e
    refine g_cs k_Tab_besideAsIf_12 ls_Tab_117 (by decide +kernel) (s_Tab_copyLetters (bc := 0) (bs := 0) s (a1 + 3) (sa_Row_2 s1) a2 h2 m e_y4 (by omega)) rfl rfl (Nat.le_of_ble_eq_true rfl) (by simp [Value.category]) (by omega) (by omega) (by omega) ?_
    refine g_goto (tgt := 30) k_Tab_besideAsIf_15 (by decide) ?_
    refine g_vret k_Tab_besideAsIf_30 rfl ?_
    exact (by cases e; exact hq)
def b_Tab_writeNew_52 (F : Nat) (a1 : Nat) (m : aM) : Option (Int32 × aM) :=
  o_b (f_Row_hasOld a1 m) fun y1 =>
  (if y1 = 0 then
  some (0, m)
  else
  o_b2 (f_Len_toOld F 2 40 41 (a1 + 1) m) fun y2 m3 =>
  some (0, m3)
  )
theorem t_Tab_writeNew_52 {K : aK} {d bc bs : Nat} {g : aG} (s : Sys g) {Q : aQ} {r : Int32} {m' : aM} (F : Nat) (a1 : Nat) (s1 : ShRow g a1) (m : aM) (hq : Q (.inl none) (g, m')) (e : b_Tab_writeNew_52 F a1 m = some (r, m')) (hd : 4 ≤ d) : G K M_Tab_writeNew d bc bs 52 [.ref 37, .ref a1, .double 0, .double 0] [] (g, m) Q := by
  unfold b_Tab_writeNew_52 at e
  refine g_aload_n k_Tab_writeNew_52 rfl rfl ?_
  obtain ⟨y1, e_y1, e⟩ := o_b_ex e
  refine g_cv k_Tab_writeNew_53 lv_Tab_114 (by decide +kernel) (T := F_Row) (N := 8) (ci := 6) rfl (sk_Row s1) (s_Row_hasOld (bc := 0) (bs := 0) s a1 s1 m e_y1) rfl rfl (Nat.le_of_ble_eq_true rfl) (by simp [Value.category]) (by omega) (by omega) (by omega) ?_
  refine g_if_eq (tgt := 78) k_Tab_writeNew_56 (by decide) (fun c => ?_) (fun c => ?_)
  · rw [if_pos c] at e
    refine g_vret k_Tab_writeNew_78 rfl ?_
    exact (by cases e; exact hq)
  · rw [if_neg c] at e
    refine g_aload_n k_Tab_writeNew_59 rfl rfl ?_
    refine p_getr k_Tab_writeNew_60 fl_Tab_27 rfl (sk_Tab (sy_Tab s)) (by decide) (sr_Tab_0 s) ?_
    refine g_aload_n k_Tab_writeNew_63 rfl rfl ?_
    refine p_getr k_Tab_writeNew_64 fl_Tab_21 rfl (sk_Tab (sy_Tab s)) (by decide) (sr_Tab_4 (sy_Tab s)) ?_
    refine g_aload_n k_Tab_writeNew_67 rfl rfl ?_
    refine p_getr k_Tab_writeNew_68 fl_Tab_24 rfl (sk_Tab (sy_Tab s)) (by decide) (sr_Tab_5 (sy_Tab s)) ?_
    refine g_aload_n k_Tab_writeNew_71 rfl rfl ?_
    refine p_getr k_Tab_writeNew_72 fl_Tab_92 rfl (sk_Row s1) (by decide) (sr_Row_0 s1) ?_
    obtain ⟨y2, m3, e_y2, e⟩ := o_b2_ex e
    refine g_cv k_Tab_writeNew_75 lv_Tab_120 (by decide +kernel) (T := F_Len) (N := 11) (ci := 2) rfl (sk_Len (sy_len s)) (s_Len_toOld (bc := 0) (bs := 0) s F 2 (sy_len s) 40 (sa_Tab_4 (sy_Tab s)) 41 (sa_Tab_5 (sy_Tab s)) (a1 + 1) (sa_Row_0 s1) m e_y2 (by omega)) rfl rfl (Nat.le_of_ble_eq_true rfl) (by simp [Value.category]) (by omega) (by omega) (by omega) ?_
    refine g_vret k_Tab_writeNew_78 rfl ?_
    exact (by cases e; exact hq)
def b_Tab_writeNew_34 (F : Nat) (a1 : Nat) (m : aM) : Option (Int32 × aM) :=
  o_b (f_Row_hasNew a1 m) fun y1 =>
  (if y1 = 0 then
  b_Tab_writeNew_52 F a1 m
  else
  o_b2 (f_Tab_copyLetters 40 (a1 + 2) m) fun y2 m3 =>
  b_Tab_writeNew_52 F a1 m3
  )
theorem t_Tab_writeNew_34 {K : aK} {d bc bs : Nat} {g : aG} (s : Sys g) {Q : aQ} {r : Int32} {m' : aM} (F : Nat) (a1 : Nat) (s1 : ShRow g a1) (m : aM) (hq : Q (.inl none) (g, m')) (e : b_Tab_writeNew_34 F a1 m = some (r, m')) (hd : 4 ≤ d) : G K M_Tab_writeNew d bc bs 34 [.ref 37, .ref a1, .double 0, .double 0] [] (g, m) Q := by
  unfold b_Tab_writeNew_34 at e
  refine g_aload_n k_Tab_writeNew_34 rfl rfl ?_
  obtain ⟨y1, e_y1, e⟩ := o_b_ex e
  refine g_cv k_Tab_writeNew_35 lv_Tab_124 (by decide +kernel) (T := F_Row) (N := 8) (ci := 6) rfl (sk_Row s1) (s_Row_hasNew (bc := 0) (bs := 0) s a1 s1 m e_y1) rfl rfl (Nat.le_of_ble_eq_true rfl) (by simp [Value.category]) (by omega) (by omega) (by omega) ?_
  refine g_if_eq (tgt := 52) k_Tab_writeNew_38 (by decide) (fun c => ?_) (fun c => ?_)
  · rw [if_pos c] at e
    exact (t_Tab_writeNew_52 s F a1 s1 m hq e hd)
  · rw [if_neg c] at e
    refine g_aload_n k_Tab_writeNew_41 rfl rfl ?_
    refine p_getr k_Tab_writeNew_42 fl_Tab_21 rfl (sk_Tab (sy_Tab s)) (by decide) (sr_Tab_4 (sy_Tab s)) ?_
    refine g_aload_n k_Tab_writeNew_45 rfl rfl ?_
    refine p_getr k_Tab_writeNew_46 fl_Tab_95 rfl (sk_Row s1) (by decide) (sr_Row_1 s1) ?_
    obtain ⟨y2, m3, e_y2, e⟩ := o_b2_ex e
    refine g_cs k_Tab_writeNew_49 ls_Tab_117 (by decide +kernel) (s_Tab_copyLetters (bc := 0) (bs := 0) s 40 (sa_Tab_4 (sy_Tab s)) (a1 + 2) (sa_Row_1 s1) m e_y2 (by omega)) rfl rfl (Nat.le_of_ble_eq_true rfl) (by simp [Value.category]) (by omega) (by omega) (by omega) ?_
    exact (t_Tab_writeNew_52 s F a1 s1 m3 hq e hd)
def f_Tab_writeNew (F : Nat) (a1 : Nat) (x2 : Int32) (x3 : Int32) (m : aM) : Option (Int32 × aM) :=
  o_b2 (f_Tab_newAsIf F a1 40 m) fun y1 m2 =>
  o_b2 (f_Tab_besideAsIf F a1 41 m2) fun y3 m4 =>
  (if x2 < 0 then
  b_Tab_writeNew_34 F a1 m4
  else
  (if 4 ≤ x2 then
  b_Tab_writeNew_34 F a1 m4
  else
  o_gd (inb x2 4) <|
  o_let (a_st m4 40 x2.toNatClampNeg x3) fun m6 =>
  b_Tab_writeNew_34 F a1 m6
  )
  )
theorem s_Tab_writeNew {K : aK} {d bc bs : Nat} {g : aG} (s : Sys g) (F : Nat) (a1 : Nat) (s1 : ShRow g a1) (x2 : Int32) (x3 : Int32) (m : aM) {r : Int32} {m' : aM} (e : f_Tab_writeNew F a1 x2 x3 m = some (r, m')) (hd : 4 ≤ d) : Sp K M_Tab_writeNew d bc bs [.ref 37, .ref a1, .int x2, .int x3] (g, m) none (g, m') := by
  refine sp_of ok_Tab_writeNew rfl (Nat.le_of_ble_eq_true rfl) (by simp [Value.category]) (fun Q hq => ?_)
  unfold f_Tab_writeNew at e
  refine g_aload_n k_Tab_writeNew_0 rfl rfl ?_
  refine g_aload_n k_Tab_writeNew_1 rfl rfl ?_
  refine g_aload_n k_Tab_writeNew_2 rfl rfl ?_
  refine p_getr k_Tab_writeNew_3 fl_Tab_21 rfl (sk_Tab (sy_Tab s)) (by decide) (sr_Tab_4 (sy_Tab s)) ?_
  obtain ⟨y1, m2, e_y1, e⟩ := o_b2_ex e
  refine g_cv k_Tab_writeNew_6 lv_Tab_141 (by decide +kernel) (T := F_Tab) (N := 11) (ci := 7) rfl (sk_Tab (sy_Tab s)) (s_Tab_newAsIf (bc := 0) (bs := 0) s F a1 s1 40 (sa_Tab_4 (sy_Tab s)) m e_y1 (by omega)) rfl rfl (Nat.le_of_ble_eq_true rfl) (by simp [Value.category]) (by omega) (by omega) (by omega) ?_
  refine g_aload_n k_Tab_writeNew_9 rfl rfl ?_
  refine g_aload_n k_Tab_writeNew_10 rfl rfl ?_
  refine g_aload_n k_Tab_writeNew_11 rfl rfl ?_
  refine p_getr k_Tab_writeNew_12 fl_Tab_24 rfl (sk_Tab (sy_Tab s)) (by decide) (sr_Tab_5 (sy_Tab s)) ?_
  obtain ⟨y3, m4, e_y3, e⟩ := o_b2_ex e
  refine g_cv k_Tab_writeNew_15 lv_Tab_165 (by decide +kernel) (T := F_Tab) (N := 11) (ci := 7) rfl (sk_Tab (sy_Tab s)) (s_Tab_besideAsIf (bc := 0) (bs := 0) s F a1 s1 41 (sa_Tab_5 (sy_Tab s)) m2 e_y3 (by omega)) rfl rfl (Nat.le_of_ble_eq_true rfl) (by simp [Value.category]) (by omega) (by omega) (by omega) ?_
  refine g_iload_n k_Tab_writeNew_18 rfl rfl ?_
  refine g_if_lt (tgt := 34) k_Tab_writeNew_19 (by decide) (fun c => ?_) (fun c => ?_)
  · rw [if_pos c] at e
    exact G.wl (wls (wls (wld (wld wl0)))) (t_Tab_writeNew_34 s F a1 s1 m4 hq e hd)
  · rw [if_neg c] at e
    refine g_iload_n k_Tab_writeNew_22 rfl rfl ?_
    refine g_iconst (v := 4) k_Tab_writeNew_23 rfl ?_
    refine g_icmp_ge (tgt := 34) k_Tab_writeNew_24 (by decide) (fun c => ?_) (fun c => ?_)
    · rw [if_pos c] at e
      exact G.wl (wls (wls (wld (wld wl0)))) (t_Tab_writeNew_34 s F a1 s1 m4 hq e hd)
    · rw [if_neg c] at e
      refine g_aload_n k_Tab_writeNew_27 rfl rfl ?_
      refine p_getr k_Tab_writeNew_28 fl_Tab_21 rfl (sk_Tab (sy_Tab s)) (by decide) (sr_Tab_4 (sy_Tab s)) ?_
      refine g_iload_n k_Tab_writeNew_31 rfl rfl ?_
      refine g_iload_n k_Tab_writeNew_32 rfl rfl ?_
      obtain ⟨q5, e⟩ := o_gd_ex e
      refine p_iast k_Tab_writeNew_33 (sa_Tab_4 (sy_Tab s)) (inb_in q5) (j := x2.toNatClampNeg) rfl ?_
      obtain ⟨m6, u_m6, e⟩ := o_let_ex e
      refine G.hm u_m6 ?_
      exact G.wl (wls (wls (wld (wld wl0)))) (t_Tab_writeNew_34 s F a1 s1 m6 hq e hd)
def b_Tab_writeLetter_163 (F : Nat) (a6 : Nat) (m : aM) : Option (Int32 × aM) :=
  o_b2 (f_Row_heal a6 m) fun y1 m2 =>
  some (1, m2)
theorem t_Tab_writeLetter_163 {K : aK} {d bc bs : Nat} {g : aG} (s : Sys g) {Q : aQ} {r : Int32} {m' : aM} (F : Nat) (a6 : Nat) (s6 : ShRow g a6) (m : aM) (hq : Q (.inl (some (.int r))) (g, m')) (e : b_Tab_writeLetter_163 F a6 m = some (r, m')) (hd : 5 ≤ d) : G K M_Tab_writeLetter d bc bs 163 [.double 0, .double 0, .double 0, .double 0, .double 0, .double 0, .ref a6] [] (g, m) Q := by
  unfold b_Tab_writeLetter_163 at e
  refine g_aload k_Tab_writeLetter_163 rfl ?_
  obtain ⟨y1, m2, e_y1, e⟩ := o_b2_ex e
  refine g_cv k_Tab_writeLetter_165 lv_Tab_76 (by decide +kernel) (T := F_Row) (N := 8) (ci := 6) rfl (sk_Row s6) (s_Row_heal (bc := 0) (bs := 0) s a6 s6 m e_y1) rfl rfl (Nat.le_of_ble_eq_true rfl) (by simp [Value.category]) (by omega) (by omega) (by omega) ?_
  refine g_iconst (v := 1) k_Tab_writeLetter_168 rfl ?_
  refine g_zret k_Tab_writeLetter_169 rfl (by decide) ?_
  exact (by cases e; exact hq)
def b_Tab_writeLetter_122 (F : Nat) (x1 : Int32) (a6 : Nat) (m : aM) : Option (Int32 × aM) :=
  o_b (f_Row_hasNew a6 m) fun y1 =>
  (if y1 = 0 then
  b_Tab_writeLetter_163 F a6 m
  else
  o_b2 (f_Len_isRight F 2 (a6 + 2) (a6 + 3) m) fun y2 m3 =>
  (if y2 = 0 then
  o_b2 (f_Row_breakBy a6 x1 (m3 37 7) m3) fun y4 m5 =>
  some (1, m5)
  else
  b_Tab_writeLetter_163 F a6 m3
  )
  )
theorem t_Tab_writeLetter_122 {K : aK} {d bc bs : Nat} {g : aG} (s : Sys g) {Q : aQ} {r : Int32} {m' : aM} (F : Nat) (x1 : Int32) (a6 : Nat) (s6 : ShRow g a6) (m : aM) (hq : Q (.inl (some (.int r))) (g, m')) (e : b_Tab_writeLetter_122 F x1 a6 m = some (r, m')) (hd : 5 ≤ d) : G K M_Tab_writeLetter d bc bs 122 [.ref 37, .int x1, .double 0, .double 0, .double 0, .double 0, .ref a6] [] (g, m) Q := by
  unfold b_Tab_writeLetter_122 at e
  refine g_aload k_Tab_writeLetter_122 rfl ?_
  obtain ⟨y1, e_y1, e⟩ := o_b_ex e
  refine g_cv k_Tab_writeLetter_124 lv_Tab_124 (by decide +kernel) (T := F_Row) (N := 8) (ci := 6) rfl (sk_Row s6) (s_Row_hasNew (bc := 0) (bs := 0) s a6 s6 m e_y1) rfl rfl (Nat.le_of_ble_eq_true rfl) (by simp [Value.category]) (by omega) (by omega) (by omega) ?_
  refine g_if_eq (tgt := 163) k_Tab_writeLetter_127 (by decide) (fun c => ?_) (fun c => ?_)
  · rw [if_pos c] at e
    exact G.wl (wld (wld (wls (wls (wls (wls (wls wl0))))))) (t_Tab_writeLetter_163 s F a6 s6 m hq e hd)
  · rw [if_neg c] at e
    refine g_aload_n k_Tab_writeLetter_130 rfl rfl ?_
    refine p_getr k_Tab_writeLetter_131 fl_Tab_27 rfl (sk_Tab (sy_Tab s)) (by decide) (sr_Tab_0 s) ?_
    refine g_aload k_Tab_writeLetter_134 rfl ?_
    refine p_getr k_Tab_writeLetter_136 fl_Tab_95 rfl (sk_Row s6) (by decide) (sr_Row_1 s6) ?_
    refine g_aload k_Tab_writeLetter_139 rfl ?_
    refine p_getr k_Tab_writeLetter_141 fl_Tab_104 rfl (sk_Row s6) (by decide) (sr_Row_2 s6) ?_
    obtain ⟨y2, m3, e_y2, e⟩ := o_b2_ex e
    refine g_cv k_Tab_writeLetter_144 lv_Tab_110 (by decide +kernel) (T := F_Len) (N := 11) (ci := 2) rfl (sk_Len (sy_len s)) (s_Len_isRight (bc := 0) (bs := 0) s F 2 (sy_len s) (a6 + 2) (sa_Row_1 s6) (a6 + 3) (sa_Row_2 s6) m e_y2 (by omega)) rfl rfl (Nat.le_of_ble_eq_true rfl) (by simp [Value.category]) (by omega) (by omega) (by omega) ?_
    refine g_if_ne (tgt := 163) k_Tab_writeLetter_147 (by decide) (fun c => ?_) (fun c => ?_)
    · rw [if_pos c] at e
      refine g_aload k_Tab_writeLetter_150 rfl ?_
      refine g_iload_n k_Tab_writeLetter_152 rfl rfl ?_
      refine g_aload_n k_Tab_writeLetter_153 rfl rfl ?_
      refine p_geti k_Tab_writeLetter_154 fl_Tab_64 rfl (sk_Tab (sy_Tab s)) (by decide) ?_
      obtain ⟨y4, m5, e_y4, e⟩ := o_b2_ex e
      refine g_cv k_Tab_writeLetter_157 lv_Tab_162 (by decide +kernel) (T := F_Row) (N := 8) (ci := 6) rfl (sk_Row s6) (s_Row_breakBy (bc := 0) (bs := 0) s a6 s6 x1 (m3 37 7) m3 e_y4 (by omega)) rfl rfl (Nat.le_of_ble_eq_true rfl) (by simp [Value.category]) (by omega) (by omega) (by omega) ?_
      refine g_goto (tgt := 168) k_Tab_writeLetter_160 (by decide) ?_
      refine g_iconst (v := 1) k_Tab_writeLetter_168 rfl ?_
      refine g_zret k_Tab_writeLetter_169 rfl (by decide) ?_
      exact (by cases e; exact hq)
    · rw [if_neg c] at e
      exact G.wl (wld (wld (wls (wls (wls (wls (wls wl0))))))) (t_Tab_writeLetter_163 s F a6 s6 m3 hq e hd)
def b_Tab_writeLetter_107 (F : Nat) (x1 : Int32) (a6 : Nat) (m : aM) : Option (Int32 × aM) :=
  (if (m a6 3) = 3 then
  o_let (a_st m a6 3 0) fun m1 =>
  b_Tab_writeLetter_122 F x1 a6 m1
  else
  b_Tab_writeLetter_122 F x1 a6 m
  )
theorem t_Tab_writeLetter_107 {K : aK} {d bc bs : Nat} {g : aG} (s : Sys g) {Q : aQ} {r : Int32} {m' : aM} (F : Nat) (x1 : Int32) (a6 : Nat) (s6 : ShRow g a6) (m : aM) (hq : Q (.inl (some (.int r))) (g, m')) (e : b_Tab_writeLetter_107 F x1 a6 m = some (r, m')) (hd : 5 ≤ d) : G K M_Tab_writeLetter d bc bs 107 [.ref 37, .int x1, .double 0, .double 0, .double 0, .double 0, .ref a6] [] (g, m) Q := by
  unfold b_Tab_writeLetter_107 at e
  refine g_aload k_Tab_writeLetter_107 rfl ?_
  refine p_geti k_Tab_writeLetter_109 fl_Tab_40 rfl (sk_Row s6) (by decide) ?_
  refine g_iconst (v := 3) k_Tab_writeLetter_112 rfl ?_
  refine g_icmp_ne (tgt := 122) k_Tab_writeLetter_113 (by decide) (fun c => ?_) (fun c => ?_)
  · rw [if_pos c] at e
    refine g_aload k_Tab_writeLetter_116 rfl ?_
    refine g_iconst (v := 0) k_Tab_writeLetter_118 rfl ?_
    refine p_puti k_Tab_writeLetter_119 fl_Tab_40 rfl ⟨R_Row, F_Row, 8, rfl, Or.inl rfl⟩ (sk_Row s6) (by decide) ?_
    obtain ⟨m1, u_m1, e⟩ := o_let_ex e
    refine G.hm u_m1 ?_
    exact (t_Tab_writeLetter_122 s F x1 a6 s6 m1 hq e hd)
  · rw [if_neg c] at e
    exact (t_Tab_writeLetter_122 s F x1 a6 s6 m hq e hd)
def b_Tab_writeLetter_54 (F : Nat) (x1 : Int32) (x3 : Int32) (x4 : Int32) (x5 : Int32) (a6 : Nat) (m : aM) : Option (Int32 × aM) :=
  o_b2 (f_Row_noteWritten a6 x3 (m 37 7) m) fun y1 m2 =>
  o_b2 (f_Ask_note x1 x3 x4 1 (m2 37 7) m2) fun y3 m4 =>
  (if x3 = 0 then
  o_b2 (f_Tab_writeOld F a6 x4 x5 m4) fun y5 m6 =>
  b_Tab_writeLetter_107 F x1 a6 m6
  else
  o_b2 (f_Tab_writeNew F a6 x4 x5 m4) fun y7 m8 =>
  b_Tab_writeLetter_107 F x1 a6 m8
  )
theorem t_Tab_writeLetter_54 {K : aK} {d bc bs : Nat} {g : aG} (s : Sys g) {Q : aQ} {r : Int32} {m' : aM} (F : Nat) (x1 : Int32) (x3 : Int32) (x4 : Int32) (x5 : Int32) (a6 : Nat) (s6 : ShRow g a6) (m : aM) (hq : Q (.inl (some (.int r))) (g, m')) (e : b_Tab_writeLetter_54 F x1 x3 x4 x5 a6 m = some (r, m')) (hd : 5 ≤ d) : G K M_Tab_writeLetter d bc bs 54 [.ref 37, .int x1, .double 0, .int x3, .int x4, .int x5, .ref a6] [] (g, m) Q := by
  unfold b_Tab_writeLetter_54 at e
  refine g_aload k_Tab_writeLetter_54 rfl ?_
  refine g_iload_n k_Tab_writeLetter_56 rfl rfl ?_
  refine g_aload_n k_Tab_writeLetter_57 rfl rfl ?_
  refine p_geti k_Tab_writeLetter_58 fl_Tab_64 rfl (sk_Tab (sy_Tab s)) (by decide) ?_
  obtain ⟨y1, m2, e_y1, e⟩ := o_b2_ex e
  refine g_cv k_Tab_writeLetter_61 lv_Tab_151 (by decide +kernel) (T := F_Row) (N := 8) (ci := 6) rfl (sk_Row s6) (s_Row_noteWritten (bc := 0) (bs := 0) s a6 s6 x3 (m 37 7) m e_y1) rfl rfl (Nat.le_of_ble_eq_true rfl) (by simp [Value.category]) (by omega) (by omega) (by omega) ?_
  refine g_aload_n k_Tab_writeLetter_64 rfl rfl ?_
  refine p_getr k_Tab_writeLetter_65 fl_Tab_31 rfl (sk_Tab (sy_Tab s)) (by decide) (sr_Tab_1 s) ?_
  refine g_iload_n k_Tab_writeLetter_68 rfl rfl ?_
  refine g_iload_n k_Tab_writeLetter_69 rfl rfl ?_
  refine g_iload k_Tab_writeLetter_70 rfl ?_
  refine g_iconst (v := 1) k_Tab_writeLetter_72 rfl ?_
  refine g_aload_n k_Tab_writeLetter_73 rfl rfl ?_
  refine p_geti k_Tab_writeLetter_74 fl_Tab_64 rfl (sk_Tab (sy_Tab s)) (by decide) ?_
  obtain ⟨y3, m4, e_y3, e⟩ := o_b2_ex e
  refine g_cv k_Tab_writeLetter_77 lv_Tab_133 (by decide +kernel) (T := F_Ask) (N := 1) (ci := 0) rfl (sk_Ask (sy_Ask s)) (s_Ask_note (bc := 0) (bs := 0) s x1 x3 x4 1 (m2 37 7) m2 e_y3 (by omega)) rfl rfl (Nat.le_of_ble_eq_true rfl) (by simp [Value.category]) (by omega) (by omega) (by omega) ?_
  refine g_iload_n k_Tab_writeLetter_80 rfl rfl ?_
  refine g_if_ne (tgt := 97) k_Tab_writeLetter_81 (by decide) (fun c => ?_) (fun c => ?_)
  · rw [if_pos c] at e
    refine g_aload_n k_Tab_writeLetter_84 rfl rfl ?_
    refine g_aload k_Tab_writeLetter_85 rfl ?_
    refine g_iload k_Tab_writeLetter_87 rfl ?_
    refine g_iload k_Tab_writeLetter_89 rfl ?_
    obtain ⟨y5, m6, e_y5, e⟩ := o_b2_ex e
    refine g_cv k_Tab_writeLetter_91 lv_Tab_155 (by decide +kernel) (T := F_Tab) (N := 11) (ci := 7) rfl (sk_Tab (sy_Tab s)) (s_Tab_writeOld (bc := 0) (bs := 0) s F a6 s6 x4 x5 m4 e_y5 (by omega)) rfl rfl (Nat.le_of_ble_eq_true rfl) (by simp [Value.category]) (by omega) (by omega) (by omega) ?_
    refine g_goto (tgt := 107) k_Tab_writeLetter_94 (by decide) ?_
    exact G.wl (wls (wls (wls (wld (wld (wld (wls wl0))))))) (t_Tab_writeLetter_107 s F x1 a6 s6 m6 hq e hd)
  · rw [if_neg c] at e
    refine g_aload_n k_Tab_writeLetter_97 rfl rfl ?_
    refine g_aload k_Tab_writeLetter_98 rfl ?_
    refine g_iload k_Tab_writeLetter_100 rfl ?_
    refine g_iload k_Tab_writeLetter_102 rfl ?_
    obtain ⟨y7, m8, e_y7, e⟩ := o_b2_ex e
    refine g_cv k_Tab_writeLetter_104 lv_Tab_159 (by decide +kernel) (T := F_Tab) (N := 11) (ci := 7) rfl (sk_Tab (sy_Tab s)) (s_Tab_writeNew (bc := 0) (bs := 0) s F a6 s6 x4 x5 m4 e_y7 (by omega)) rfl rfl (Nat.le_of_ble_eq_true rfl) (by simp [Value.category]) (by omega) (by omega) (by omega) ?_
    exact G.wl (wls (wls (wls (wld (wld (wld (wls wl0))))))) (t_Tab_writeLetter_107 s F x1 a6 s6 m8 hq e hd)
def f_Tab_writeLetter (F : Nat) (x1 : Int32) (x2 : Int32) (x3 : Int32) (x4 : Int32) (x5 : Int32) (m : aM) : Option (Int32 × aM) :=
  o_b (f_Tab_isThere x2 m) fun y1 =>
  (if y1 = 0 then
  some (0, m)
  else
  (if x4 < 0 then
  some (0, m)
  else
  (if x4 < 4 then
  o_gd (inb x2 40) <|
  (if x3 = (m 37 8) then
  b_Tab_writeLetter_54 F x1 x3 x4 x5 (rwp x2) m
  else
  o_b (f_Row_isWritten (rwp x2) (1 - x3) (m 37 7) m) fun y3 =>
  (if y3 = 0 then
  b_Tab_writeLetter_54 F x1 x3 x4 x5 (rwp x2) m
  else
  some (0, m)
  )
  )
  else
  some (0, m)
  )
  )
  )
theorem s_Tab_writeLetter {K : aK} {d bc bs : Nat} {g : aG} (s : Sys g) (F : Nat) (x1 : Int32) (x2 : Int32) (x3 : Int32) (x4 : Int32) (x5 : Int32) (m : aM) {r : Int32} {m' : aM} (e : f_Tab_writeLetter F x1 x2 x3 x4 x5 m = some (r, m')) (hd : 5 ≤ d) : Sp K M_Tab_writeLetter d bc bs [.ref 37, .int x1, .int x2, .int x3, .int x4, .int x5] (g, m) (some (.int r)) (g, m') := by
  refine sp_of ok_Tab_writeLetter rfl (Nat.le_of_ble_eq_true rfl) (by simp [Value.category]) (fun Q hq => ?_)
  unfold f_Tab_writeLetter at e
  refine g_aload_n k_Tab_writeLetter_0 rfl rfl ?_
  refine g_iload_n k_Tab_writeLetter_1 rfl rfl ?_
  obtain ⟨y1, e_y1, e⟩ := o_b_ex e
  refine g_cv k_Tab_writeLetter_2 lv_Tab_79 (by decide +kernel) (T := F_Tab) (N := 11) (ci := 7) rfl (sk_Tab (sy_Tab s)) (s_Tab_isThere (bc := 0) (bs := 0) s x2 m e_y1) rfl rfl (Nat.le_of_ble_eq_true rfl) (by simp [Value.category]) (by omega) (by omega) (by omega) ?_
  refine g_if_eq (tgt := 19) k_Tab_writeLetter_5 (by decide) (fun c => ?_) (fun c => ?_)
  · rw [if_pos c] at e
    refine g_iconst (v := 0) k_Tab_writeLetter_19 rfl ?_
    refine g_zret k_Tab_writeLetter_20 rfl (by decide) ?_
    exact (by cases e; exact hq)
  · rw [if_neg c] at e
    refine g_iload k_Tab_writeLetter_8 rfl ?_
    refine g_if_lt (tgt := 19) k_Tab_writeLetter_10 (by decide) (fun c => ?_) (fun c => ?_)
    · rw [if_pos c] at e
      refine g_iconst (v := 0) k_Tab_writeLetter_19 rfl ?_
      refine g_zret k_Tab_writeLetter_20 rfl (by decide) ?_
      exact (by cases e; exact hq)
    · rw [if_neg c] at e
      refine g_iload k_Tab_writeLetter_13 rfl ?_
      refine g_iconst (v := 4) k_Tab_writeLetter_15 rfl ?_
      refine g_icmp_lt (tgt := 21) k_Tab_writeLetter_16 (by decide) (fun c => ?_) (fun c => ?_)
      · rw [if_pos c] at e
        refine g_aload_n k_Tab_writeLetter_21 rfl rfl ?_
        refine p_getr k_Tab_writeLetter_22 fl_Tab_11 rfl (sk_Tab (sy_Tab s)) (by decide) (sr_Tab_2 (sy_Tab s)) ?_
        refine g_iload_n k_Tab_writeLetter_25 rfl rfl ?_
        obtain ⟨q2, e⟩ := o_gd_ex e
        refine p_aald k_Tab_writeLetter_26 (sa_Tab_2 (sy_Tab s)) (by decide) (by decide) (inb_in q2) (j := x2.toNatClampNeg) rfl (sy_rowr s (inb_in q2)) ?_
        refine g_astore k_Tab_writeLetter_27 (by decide) ?_
        refine g_iload_n k_Tab_writeLetter_29 rfl rfl ?_
        refine g_aload_n k_Tab_writeLetter_30 rfl rfl ?_
        refine p_geti k_Tab_writeLetter_31 fl_Tab_144 rfl (sk_Tab (sy_Tab s)) (by decide) ?_
        refine g_icmp_eq (tgt := 54) k_Tab_writeLetter_34 (by decide) (fun c => ?_) (fun c => ?_)
        · rw [if_pos c] at e
          exact G.wl (wls (wls (wld (wls (wls (wls (wls wl0))))))) (t_Tab_writeLetter_54 s F x1 x3 x4 x5 (rwp x2) (sy_row s (inb_in q2)) m hq e hd)
        · rw [if_neg c] at e
          refine g_aload k_Tab_writeLetter_37 rfl ?_
          refine g_iconst (v := 1) k_Tab_writeLetter_39 rfl ?_
          refine g_iload_n k_Tab_writeLetter_40 rfl rfl ?_
          refine g_isub k_Tab_writeLetter_41 ?_
          refine g_aload_n k_Tab_writeLetter_42 rfl rfl ?_
          refine p_geti k_Tab_writeLetter_43 fl_Tab_64 rfl (sk_Tab (sy_Tab s)) (by decide) ?_
          obtain ⟨y3, e_y3, e⟩ := o_b_ex e
          refine g_cv k_Tab_writeLetter_46 lv_Tab_147 (by decide +kernel) (T := F_Row) (N := 8) (ci := 6) rfl (sk_Row (sy_row s (inb_in q2))) (s_Row_isWritten (bc := 0) (bs := 0) s (rwp x2) (sy_row s (inb_in q2)) (1 - x3) (m 37 7) m e_y3) rfl rfl (Nat.le_of_ble_eq_true rfl) (by simp [Value.category]) (by omega) (by omega) (by omega) ?_
          refine g_if_eq (tgt := 54) k_Tab_writeLetter_49 (by decide) (fun c => ?_) (fun c => ?_)
          · rw [if_pos c] at e
            exact G.wl (wls (wls (wld (wls (wls (wls (wls wl0))))))) (t_Tab_writeLetter_54 s F x1 x3 x4 x5 (rwp x2) (sy_row s (inb_in q2)) m hq e hd)
          · rw [if_neg c] at e
            refine g_iconst (v := 0) k_Tab_writeLetter_52 rfl ?_
            refine g_zret k_Tab_writeLetter_53 rfl (by decide) ?_
            exact (by cases e; exact hq)
      · rw [if_neg c] at e
        refine g_iconst (v := 0) k_Tab_writeLetter_19 rfl ?_
        refine g_zret k_Tab_writeLetter_20 rfl (by decide) ?_
        exact (by cases e; exact hq)
def b_Tab_leadRows_88 (F : Nat) (rec_49 : Int32 → Int32 → Int32 → aM → Option (Int32 × aM)) (x2 : Int32) (x4 : Int32) (x5 : Int32) (m : aM) : Option (Int32 × aM) :=
  rec_49 x2 x4 (x5 + 1) m
theorem t_Tab_leadRows_88 {K : aK} {d bc bs : Nat} {g : aG} (s : Sys g) {Q : aQ} {r : Int32} {m' : aM} (F : Nat) (rec_49 : Int32 → Int32 → Int32 → aM → Option (Int32 × aM)) (hr_49 : ∀ (x2 : Int32) (x4 : Int32) (x5 : Int32) (m : aM), rec_49 x2 x4 x5 m = some (r, m') → G K M_Tab_leadRows d bc bs 49 [.ref 37, .double 0, .int x2, .double 0, .int x4, .int x5] [] (g, m) Q) (x2 : Int32) (x4 : Int32) (x5 : Int32) (m : aM) (hq : Q (.inl (some (.int r))) (g, m')) (e : b_Tab_leadRows_88 F rec_49 x2 x4 x5 m = some (r, m')) (hd : 5 ≤ d) : G K M_Tab_leadRows d bc bs 88 [.ref 37, .double 0, .int x2, .double 0, .int x4, .int x5] [] (g, m) Q := by
  unfold b_Tab_leadRows_88 at e
  refine g_iinc (v := _ + 1) k_Tab_leadRows_88 rfl rfl (by decide) ?_
  refine g_goto (tgt := 49) k_Tab_leadRows_91 (by decide) ?_
  exact (hr_49 x2 x4 (x5 + 1) m e)
def lb_Tab_leadRows_49 (F : Nat) (rec_49 : Int32 → Int32 → Int32 → aM → Option (Int32 × aM)) (x2 : Int32) (x4 : Int32) (x5 : Int32) (m : aM) : Option (Int32 × aM) :=
  (if 40 ≤ x5 then
  some (x2, m)
  else
  (if x4 ≤ 0 then
  some (x2, m)
  else
  o_gd (inb x5 40) <|
  (if (m (rwp x5) 3) = 0 then
  o_gd (inb x5 40) <|
  o_b2 (f_Tab_lead F (rwp x5) m) fun y3 m4 =>
  b_Tab_leadRows_88 F rec_49 x2 (x4 - 1) x5 m4
  else
  b_Tab_leadRows_88 F rec_49 x2 x4 x5 m
  )
  )
  )
theorem tb_Tab_leadRows_49 {K : aK} {d bc bs : Nat} {g : aG} (s : Sys g) {Q : aQ} {r : Int32} {m' : aM} (F : Nat) (rec_49 : Int32 → Int32 → Int32 → aM → Option (Int32 × aM)) (hr_49 : ∀ (x2 : Int32) (x4 : Int32) (x5 : Int32) (m : aM), rec_49 x2 x4 x5 m = some (r, m') → G K M_Tab_leadRows d bc bs 49 [.ref 37, .double 0, .int x2, .double 0, .int x4, .int x5] [] (g, m) Q) (x2 : Int32) (x4 : Int32) (x5 : Int32) (m : aM) (hq : Q (.inl (some (.int r))) (g, m')) (e : lb_Tab_leadRows_49 F rec_49 x2 x4 x5 m = some (r, m')) (hd : 5 ≤ d) : G K M_Tab_leadRows d bc bs 49 [.ref 37, .double 0, .int x2, .double 0, .int x4, .int x5] [] (g, m) Q := by
  unfold lb_Tab_leadRows_49 at e
  refine g_iload k_Tab_leadRows_49 rfl ?_
  refine g_bipush (v := 40) k_Tab_leadRows_51 rfl ?_
  refine g_icmp_ge (tgt := 94) k_Tab_leadRows_53 (by decide) (fun c => ?_) (fun c => ?_)
  · rw [if_pos c] at e
    refine g_iload_n k_Tab_leadRows_94 rfl rfl ?_
    refine g_iret k_Tab_leadRows_95 rfl ?_
    exact (by cases e; exact hq)
  · rw [if_neg c] at e
    refine g_iload k_Tab_leadRows_56 rfl ?_
    refine g_if_le (tgt := 94) k_Tab_leadRows_58 (by decide) (fun c => ?_) (fun c => ?_)
    · rw [if_pos c] at e
      refine g_iload_n k_Tab_leadRows_94 rfl rfl ?_
      refine g_iret k_Tab_leadRows_95 rfl ?_
      exact (by cases e; exact hq)
    · rw [if_neg c] at e
      refine g_aload_n k_Tab_leadRows_61 rfl rfl ?_
      refine p_getr k_Tab_leadRows_62 fl_Tab_11 rfl (sk_Tab (sy_Tab s)) (by decide) (sr_Tab_2 (sy_Tab s)) ?_
      refine g_iload k_Tab_leadRows_65 rfl ?_
      obtain ⟨q1, e⟩ := o_gd_ex e
      refine p_aald k_Tab_leadRows_67 (sa_Tab_2 (sy_Tab s)) (by decide) (by decide) (inb_in q1) (j := x5.toNatClampNeg) rfl (sy_rowr s (inb_in q1)) ?_
      refine p_geti k_Tab_leadRows_68 fl_Tab_40 rfl (sk_Row (sy_row s (inb_in q1))) (by decide) ?_
      refine g_if_ne (tgt := 88) k_Tab_leadRows_71 (by decide) (fun c => ?_) (fun c => ?_)
      · rw [if_pos c] at e
        refine g_aload_n k_Tab_leadRows_74 rfl rfl ?_
        refine g_aload_n k_Tab_leadRows_75 rfl rfl ?_
        refine p_getr k_Tab_leadRows_76 fl_Tab_11 rfl (sk_Tab (sy_Tab s)) (by decide) (sr_Tab_2 (sy_Tab s)) ?_
        refine g_iload k_Tab_leadRows_79 rfl ?_
        obtain ⟨q2, e⟩ := o_gd_ex e
        refine p_aald k_Tab_leadRows_81 (sa_Tab_2 (sy_Tab s)) (by decide) (by decide) (inb_in q2) (j := x5.toNatClampNeg) rfl (sy_rowr s (inb_in q2)) ?_
        obtain ⟨y3, m4, e_y3, e⟩ := o_b2_ex e
        refine g_cv k_Tab_leadRows_82 lv_Tab_89 (by decide +kernel) (T := F_Tab) (N := 11) (ci := 7) rfl (sk_Tab (sy_Tab s)) (s_Tab_lead (bc := 0) (bs := 0) s F (rwp x5) (sy_row s (inb_in q2)) m e_y3 (by omega)) rfl rfl (Nat.le_of_ble_eq_true rfl) (by simp [Value.category]) (by omega) (by omega) (by omega) ?_
        refine g_iinc k_Tab_leadRows_85 rfl (i_m1 _) (by decide) ?_
        exact (t_Tab_leadRows_88 s F rec_49 hr_49 x2 (x4 - 1) x5 m4 hq e hd)
      · rw [if_neg c] at e
        exact (t_Tab_leadRows_88 s F rec_49 hr_49 x2 x4 x5 m hq e hd)
def ll_Tab_leadRows_49 (F : Nat) : Nat → Int32 → Int32 → Int32 → aM → Option (Int32 × aM)
  | 0, _, _, _, _ => none
  | N + 1, x2, x4, x5, m => lb_Tab_leadRows_49 F (ll_Tab_leadRows_49 F N) x2 x4 x5 m
theorem t_Tab_leadRows_49 {K : aK} {d bc bs : Nat} {g : aG} (s : Sys g) {Q : aQ} {r : Int32} {m' : aM} (F : Nat) : ∀ (N : Nat) (x2 : Int32) (x4 : Int32) (x5 : Int32) (m : aM), Q (.inl (some (.int r))) (g, m') → ll_Tab_leadRows_49 F N x2 x4 x5 m = some (r, m') → 5 ≤ d → G K M_Tab_leadRows d bc bs 49 [.ref 37, .double 0, .int x2, .double 0, .int x4, .int x5] [] (g, m) Q
  | 0, _, _, _, _ => fun _ e => nomatch e
  | N + 1, x2, x4, x5, m => fun hq e hd => tb_Tab_leadRows_49 s F (ll_Tab_leadRows_49 F N) (fun x2 x4 x5 m e => t_Tab_leadRows_49 s F N x2 x4 x5 m hq e hd) x2 x4 x5 m hq e hd
def b_Tab_leadRows_31 (F : Nat) (x2 : Int32) (xt0 : Int32) (m : aM) : Option (Int32 × aM) :=
  o_let (a_st m 37 9 0) fun m1 =>
  (if xt0 = 0 then
  ll_Tab_leadRows_49 F F x2 x2 0 m1
  else
  some ((-1), m1)
  )
theorem t_Tab_leadRows_31 {K : aK} {d bc bs : Nat} {g : aG} (s : Sys g) {Q : aQ} {r : Int32} {m' : aM} (F : Nat) (x2 : Int32) (xt0 : Int32) (m : aM) (hq : Q (.inl (some (.int r))) (g, m')) (e : b_Tab_leadRows_31 F x2 xt0 m = some (r, m')) (hd : 5 ≤ d) : G K M_Tab_leadRows d bc bs 31 [.ref 37, .double 0, .int x2, .double 0, .double 0, .double 0] [.int xt0] (g, m) Q := by
  unfold b_Tab_leadRows_31 at e
  refine g_istore_n k_Tab_leadRows_31 rfl (by decide) ?_
  refine g_aload_n k_Tab_leadRows_32 rfl rfl ?_
  refine g_iconst (v := 0) k_Tab_leadRows_33 rfl ?_
  refine p_puti k_Tab_leadRows_34 fl_Tab_174 rfl ⟨R_Tab, F_Tab, 11, rfl, Or.inl rfl⟩ (sk_Tab (sy_Tab s)) (by decide) ?_
  obtain ⟨m1, u_m1, e⟩ := o_let_ex e
  refine G.hm u_m1 ?_
  refine g_iload_n k_Tab_leadRows_37 rfl rfl ?_
  refine g_if_eq (tgt := 43) k_Tab_leadRows_38 (by decide) (fun c => ?_) (fun c => ?_)
  · rw [if_pos c] at e
    refine g_iload_n k_Tab_leadRows_43 rfl rfl ?_
    refine g_istore k_Tab_leadRows_44 (by decide) ?_
    refine g_iconst (v := 0) k_Tab_leadRows_46 rfl ?_
    refine g_istore k_Tab_leadRows_47 (by decide) ?_
    exact G.wl (wls (wls (wls (wld (wls (wls wl0)))))) (t_Tab_leadRows_49 s F F x2 x2 0 m1 hq e hd)
  · rw [if_neg c] at e
    refine g_iconst (v := (-1)) k_Tab_leadRows_41 rfl ?_
    refine g_iret k_Tab_leadRows_42 rfl ?_
    exact (by cases e; exact hq)
def b_Tab_leadRows_30 (F : Nat) (x2 : Int32) (m : aM) : Option (Int32 × aM) :=
  b_Tab_leadRows_31 F x2 0 m
theorem t_Tab_leadRows_30 {K : aK} {d bc bs : Nat} {g : aG} (s : Sys g) {Q : aQ} {r : Int32} {m' : aM} (F : Nat) (x2 : Int32) (m : aM) (hq : Q (.inl (some (.int r))) (g, m')) (e : b_Tab_leadRows_30 F x2 m = some (r, m')) (hd : 5 ≤ d) : G K M_Tab_leadRows d bc bs 30 [.ref 37, .double 0, .int x2, .double 0, .double 0, .double 0] [] (g, m) Q := by
  unfold b_Tab_leadRows_30 at e
  refine g_iconst (v := 0) k_Tab_leadRows_30 rfl ?_
  exact (t_Tab_leadRows_31 s F x2 0 m hq e hd)
def f_Tab_leadRows (F : Nat) (x1 : Int32) (m : aM) : Option (Int32 × aM) :=
  o_b (f_Tab_manyOf F 0 m) fun y1 =>
  (if (m 37 9) < 1 then
  b_Tab_leadRows_30 F (if y1 < x1 then y1 else x1) m
  else
  (if (if y1 < x1 then y1 else x1) < (m 37 9) then
  b_Tab_leadRows_30 F (if y1 < x1 then y1 else x1) m
  else
  b_Tab_leadRows_31 F (if y1 < x1 then y1 else x1) 1 m
  )
  )
theorem s_Tab_leadRows {K : aK} {d bc bs : Nat} {g : aG} (s : Sys g) (F : Nat) (x1 : Int32) (m : aM) {r : Int32} {m' : aM} (e : f_Tab_leadRows F x1 m = some (r, m')) (hd : 5 ≤ d) : Sp K M_Tab_leadRows d bc bs [.ref 37, .int x1] (g, m) (some (.int r)) (g, m') := by
  refine sp_of ok_Tab_leadRows rfl (Nat.le_of_ble_eq_true rfl) (by simp [Value.category]) (fun Q hq => ?_)
  unfold f_Tab_leadRows at e
  refine g_iload_n k_Tab_leadRows_0 rfl rfl ?_
  refine g_aload_n k_Tab_leadRows_1 rfl rfl ?_
  refine g_iconst (v := 0) k_Tab_leadRows_2 rfl ?_
  obtain ⟨y1, e_y1, e⟩ := o_b_ex e
  refine g_cv k_Tab_leadRows_3 lv_Tab_53 (by decide +kernel) (T := F_Tab) (N := 11) (ci := 7) rfl (sk_Tab (sy_Tab s)) (s_Tab_manyOf (bc := 0) (bs := 0) s F 0 m e_y1) rfl rfl (Nat.le_of_ble_eq_true rfl) (by simp [Value.category]) (by omega) (by omega) (by omega) ?_
  refine g_mn k_Tab_leadRows_6 mw_Tab_168 (Nat.le_of_ble_eq_true rfl) (by omega) ?_
  refine g_istore_n k_Tab_leadRows_9 rfl (by decide) ?_
  refine g_aload_n k_Tab_leadRows_10 rfl rfl ?_
  refine p_geti k_Tab_leadRows_11 fl_Tab_174 rfl (sk_Tab (sy_Tab s)) (by decide) ?_
  refine g_iconst (v := 1) k_Tab_leadRows_14 rfl ?_
  refine g_icmp_lt (tgt := 30) k_Tab_leadRows_15 (by decide) (fun c => ?_) (fun c => ?_)
  · rw [if_pos c] at e
    exact G.wl (wls (wld (wls (wls (wls (wls wl0)))))) (t_Tab_leadRows_30 s F (if y1 < x1 then y1 else x1) m hq e hd)
  · rw [if_neg c] at e
    refine g_aload_n k_Tab_leadRows_18 rfl rfl ?_
    refine p_geti k_Tab_leadRows_19 fl_Tab_174 rfl (sk_Tab (sy_Tab s)) (by decide) ?_
    refine g_iload_n k_Tab_leadRows_22 rfl rfl ?_
    refine g_icmp_gt (tgt := 30) k_Tab_leadRows_23 (by decide) (fun c => ?_) (fun c => ?_)
    · rw [if_pos c] at e
      exact G.wl (wls (wld (wls (wls (wls (wls wl0)))))) (t_Tab_leadRows_30 s F (if y1 < x1 then y1 else x1) m hq e hd)
    · rw [if_neg c] at e
      refine g_iconst (v := 1) k_Tab_leadRows_26 rfl ?_
      refine g_goto (tgt := 31) k_Tab_leadRows_27 (by decide) ?_
      exact G.wl (wls (wld (wls (wls (wls (wls wl0)))))) (t_Tab_leadRows_31 s F (if y1 < x1 then y1 else x1) 1 m hq e hd)
def f_Tab_tellBeside (F : Nat) (a1 : Nat) (x2 : Int32) (m : aM) : Option (Int32 × aM) :=
  o_b2 (f_Tab_besideAsIf F a1 41 m) fun y1 m2 =>
  (if x2 < 0 then
  some ((-1), m2)
  else
  (if 4 ≤ x2 then
  some ((-1), m2)
  else
  o_gd (inb x2 4) <|
  some ((m2 41 x2.toNatClampNeg), m2)
  )
  )
theorem s_Tab_tellBeside {K : aK} {d bc bs : Nat} {g : aG} (s : Sys g) (F : Nat) (a1 : Nat) (s1 : ShRow g a1) (x2 : Int32) (m : aM) {r : Int32} {m' : aM} (e : f_Tab_tellBeside F a1 x2 m = some (r, m')) (hd : 3 ≤ d) : Sp K M_Tab_tellBeside d bc bs [.ref 37, .ref a1, .int x2] (g, m) (some (.int r)) (g, m') := by
  refine sp_of ok_Tab_tellBeside rfl (Nat.le_of_ble_eq_true rfl) (by simp [Value.category]) (fun Q hq => ?_)
  unfold f_Tab_tellBeside at e
  refine g_aload_n k_Tab_tellBeside_0 rfl rfl ?_
  refine g_aload_n k_Tab_tellBeside_1 rfl rfl ?_
  refine g_aload_n k_Tab_tellBeside_2 rfl rfl ?_
  refine p_getr k_Tab_tellBeside_3 fl_Tab_24 rfl (sk_Tab (sy_Tab s)) (by decide) (sr_Tab_5 (sy_Tab s)) ?_
  obtain ⟨y1, m2, e_y1, e⟩ := o_b2_ex e
  refine g_cv k_Tab_tellBeside_6 lv_Tab_165 (by decide +kernel) (T := F_Tab) (N := 11) (ci := 7) rfl (sk_Tab (sy_Tab s)) (s_Tab_besideAsIf (bc := 0) (bs := 0) s F a1 s1 41 (sa_Tab_5 (sy_Tab s)) m e_y1 (by omega)) rfl rfl (Nat.le_of_ble_eq_true rfl) (by simp [Value.category]) (by omega) (by omega) (by omega) ?_
  refine g_iload_n k_Tab_tellBeside_9 rfl rfl ?_
  refine g_if_lt (tgt := 27) k_Tab_tellBeside_10 (by decide) (fun c => ?_) (fun c => ?_)
  · rw [if_pos c] at e
    refine g_iconst (v := (-1)) k_Tab_tellBeside_27 rfl ?_
    refine g_iret k_Tab_tellBeside_28 rfl ?_
    exact (by cases e; exact hq)
  · rw [if_neg c] at e
    refine g_iload_n k_Tab_tellBeside_13 rfl rfl ?_
    refine g_iconst (v := 4) k_Tab_tellBeside_14 rfl ?_
    refine g_icmp_ge (tgt := 27) k_Tab_tellBeside_15 (by decide) (fun c => ?_) (fun c => ?_)
    · rw [if_pos c] at e
      refine g_iconst (v := (-1)) k_Tab_tellBeside_27 rfl ?_
      refine g_iret k_Tab_tellBeside_28 rfl ?_
      exact (by cases e; exact hq)
    · rw [if_neg c] at e
      refine g_aload_n k_Tab_tellBeside_18 rfl rfl ?_
      refine p_getr k_Tab_tellBeside_19 fl_Tab_24 rfl (sk_Tab (sy_Tab s)) (by decide) (sr_Tab_5 (sy_Tab s)) ?_
      refine g_iload_n k_Tab_tellBeside_22 rfl rfl ?_
      obtain ⟨q3, e⟩ := o_gd_ex e
      refine p_iald k_Tab_tellBeside_23 (sa_Tab_5 (sy_Tab s)) (inb_in q3) (j := x2.toNatClampNeg) rfl ?_
      refine g_goto (tgt := 28) k_Tab_tellBeside_24 (by decide) ?_
      refine g_iret k_Tab_tellBeside_28 rfl ?_
      exact (by cases e; exact hq)
def f_Tab_tellRow (F : Nat) (x1 : Int32) (x2 : Int32) (m : aM) : Option (Int32 × aM) :=
  o_b (f_Tab_isThere x1 m) fun y1 =>
  (if y1 = 0 then
  some ((-1), m)
  else
  o_gd (inb x1 40) <|
  (if x2 = 0 then
  some ((m (rwp x1) 3), m)
  else
  (if x2 = 1 then
  o_b (f_Row_isBroken (rwp x1) m) fun y3 =>
  (if y3 = 0 then
  some (0, m)
  else
  some (1, m)
  )
  else
  (if x2 = 2 then
  o_b (f_Row_brokenSince (rwp x1) m) fun y4 =>
  some (y4, m)
  else
  (if x2 = 3 then
  o_b (f_Row_brokenBy (rwp x1) m) fun y5 =>
  some (y5, m)
  else
  (if x2 = 4 then
  o_b2 (f_Tab_isOdd F (rwp x1) m) fun y6 m7 =>
  (if y6 = 0 then
  some (0, m7)
  else
  some (1, m7)
  )
  else
  o_b2 (f_Tab_tellBeside F (rwp x1) (x2 - 5) m) fun y8 m9 =>
  some (y8, m9)
  )))))
  )
theorem s_Tab_tellRow {K : aK} {d bc bs : Nat} {g : aG} (s : Sys g) (F : Nat) (x1 : Int32) (x2 : Int32) (m : aM) {r : Int32} {m' : aM} (e : f_Tab_tellRow F x1 x2 m = some (r, m')) (hd : 4 ≤ d) : Sp K M_Tab_tellRow d bc bs [.ref 37, .int x1, .int x2] (g, m) (some (.int r)) (g, m') := by
  refine sp_of ok_Tab_tellRow rfl (Nat.le_of_ble_eq_true rfl) (by simp [Value.category]) (fun Q hq => ?_)
  unfold f_Tab_tellRow at e
  refine g_aload_n k_Tab_tellRow_0 rfl rfl ?_
  refine g_iload_n k_Tab_tellRow_1 rfl rfl ?_
  obtain ⟨y1, e_y1, e⟩ := o_b_ex e
  refine g_cv k_Tab_tellRow_2 lv_Tab_79 (by decide +kernel) (T := F_Tab) (N := 11) (ci := 7) rfl (sk_Tab (sy_Tab s)) (s_Tab_isThere (bc := 0) (bs := 0) s x1 m e_y1) rfl rfl (Nat.le_of_ble_eq_true rfl) (by simp [Value.category]) (by omega) (by omega) (by omega) ?_
  refine g_if_ne (tgt := 10) k_Tab_tellRow_5 (by decide) (fun c => ?_) (fun c => ?_)
  · rw [if_pos c] at e
    refine g_iconst (v := (-1)) k_Tab_tellRow_8 rfl ?_
    refine g_iret k_Tab_tellRow_9 rfl ?_
    exact (by cases e; exact hq)
  · rw [if_neg c] at e
    refine g_aload_n k_Tab_tellRow_10 rfl rfl ?_
    refine p_getr k_Tab_tellRow_11 fl_Tab_11 rfl (sk_Tab (sy_Tab s)) (by decide) (sr_Tab_2 (sy_Tab s)) ?_
    refine g_iload_n k_Tab_tellRow_14 rfl rfl ?_
    obtain ⟨q2, e⟩ := o_gd_ex e
    refine p_aald k_Tab_tellRow_15 (sa_Tab_2 (sy_Tab s)) (by decide) (by decide) (inb_in q2) (j := x1.toNatClampNeg) rfl (sy_rowr s (inb_in q2)) ?_
    refine g_astore_n k_Tab_tellRow_16 rfl (by decide) ?_
    refine g_iload_n k_Tab_tellRow_17 rfl rfl ?_
    by_cases s_0 : x2 = 0
    · rw [if_pos s_0] at e
      refine g_tabIn (off := 34) (tgt := 52) k_Tab_tellRow_18 (by rw [s_0]; decide) (by rw [s_0]; decide) (by rw [s_0]; rfl) (by decide) ?_
      refine g_aload_n k_Tab_tellRow_52 rfl rfl ?_
      refine p_geti k_Tab_tellRow_53 fl_Tab_40 rfl (sk_Row (sy_row s (inb_in q2))) (by decide) ?_
      refine g_iret k_Tab_tellRow_56 rfl ?_
      exact (by cases e; exact hq)
    rw [if_neg s_0] at e
    by_cases s_1 : x2 = 1
    · rw [if_pos s_1] at e
      refine g_tabIn (off := 39) (tgt := 57) k_Tab_tellRow_18 (by rw [s_1]; decide) (by rw [s_1]; decide) (by rw [s_1]; rfl) (by decide) ?_
      refine g_aload_n k_Tab_tellRow_57 rfl rfl ?_
      obtain ⟨y3, e_y3, e⟩ := o_b_ex e
      refine g_cv k_Tab_tellRow_58 lv_Tab_177 (by decide +kernel) (T := F_Row) (N := 8) (ci := 6) rfl (sk_Row (sy_row s (inb_in q2))) (s_Row_isBroken (bc := 0) (bs := 0) s (rwp x1) (sy_row s (inb_in q2)) m e_y3) rfl rfl (Nat.le_of_ble_eq_true rfl) (by simp [Value.category]) (by omega) (by omega) (by omega) ?_
      refine g_if_eq (tgt := 68) k_Tab_tellRow_61 (by decide) (fun c => ?_) (fun c => ?_)
      · rw [if_pos c] at e
        refine g_iconst (v := 0) k_Tab_tellRow_68 rfl ?_
        refine g_iret k_Tab_tellRow_69 rfl ?_
        exact (by cases e; exact hq)
      · rw [if_neg c] at e
        refine g_iconst (v := 1) k_Tab_tellRow_64 rfl ?_
        refine g_goto (tgt := 69) k_Tab_tellRow_65 (by decide) ?_
        refine g_iret k_Tab_tellRow_69 rfl ?_
        exact (by cases e; exact hq)
    rw [if_neg s_1] at e
    by_cases s_2 : x2 = 2
    · rw [if_pos s_2] at e
      refine g_tabIn (off := 52) (tgt := 70) k_Tab_tellRow_18 (by rw [s_2]; decide) (by rw [s_2]; decide) (by rw [s_2]; rfl) (by decide) ?_
      refine g_aload_n k_Tab_tellRow_70 rfl rfl ?_
      obtain ⟨y4, e_y4, e⟩ := o_b_ex e
      refine g_cv k_Tab_tellRow_71 lv_Tab_180 (by decide +kernel) (T := F_Row) (N := 8) (ci := 6) rfl (sk_Row (sy_row s (inb_in q2))) (s_Row_brokenSince (bc := 0) (bs := 0) s (rwp x1) (sy_row s (inb_in q2)) m e_y4) rfl rfl (Nat.le_of_ble_eq_true rfl) (by simp [Value.category]) (by omega) (by omega) (by omega) ?_
      refine g_iret k_Tab_tellRow_74 rfl ?_
      exact (by cases e; exact hq)
    rw [if_neg s_2] at e
    by_cases s_3 : x2 = 3
    · rw [if_pos s_3] at e
      refine g_tabIn (off := 57) (tgt := 75) k_Tab_tellRow_18 (by rw [s_3]; decide) (by rw [s_3]; decide) (by rw [s_3]; rfl) (by decide) ?_
      refine g_aload_n k_Tab_tellRow_75 rfl rfl ?_
      obtain ⟨y5, e_y5, e⟩ := o_b_ex e
      refine g_cv k_Tab_tellRow_76 lv_Tab_183 (by decide +kernel) (T := F_Row) (N := 8) (ci := 6) rfl (sk_Row (sy_row s (inb_in q2))) (s_Row_brokenBy (bc := 0) (bs := 0) s (rwp x1) (sy_row s (inb_in q2)) m e_y5) rfl rfl (Nat.le_of_ble_eq_true rfl) (by simp [Value.category]) (by omega) (by omega) (by omega) ?_
      refine g_iret k_Tab_tellRow_79 rfl ?_
      exact (by cases e; exact hq)
    rw [if_neg s_3] at e
    by_cases s_4 : x2 = 4
    · rw [if_pos s_4] at e
      refine g_tabIn (off := 62) (tgt := 80) k_Tab_tellRow_18 (by rw [s_4]; decide) (by rw [s_4]; decide) (by rw [s_4]; rfl) (by decide) ?_
      refine g_aload_n k_Tab_tellRow_80 rfl rfl ?_
      refine g_aload_n k_Tab_tellRow_81 rfl rfl ?_
      obtain ⟨y6, m7, e_y6, e⟩ := o_b2_ex e
      refine g_cv k_Tab_tellRow_82 lv_Tab_186 (by decide +kernel) (T := F_Tab) (N := 11) (ci := 7) rfl (sk_Tab (sy_Tab s)) (s_Tab_isOdd (bc := 0) (bs := 0) s F (rwp x1) (sy_row s (inb_in q2)) m e_y6 (by omega)) rfl rfl (Nat.le_of_ble_eq_true rfl) (by simp [Value.category]) (by omega) (by omega) (by omega) ?_
      refine g_if_eq (tgt := 92) k_Tab_tellRow_85 (by decide) (fun c => ?_) (fun c => ?_)
      · rw [if_pos c] at e
        refine g_iconst (v := 0) k_Tab_tellRow_92 rfl ?_
        refine g_iret k_Tab_tellRow_93 rfl ?_
        exact (by cases e; exact hq)
      · rw [if_neg c] at e
        refine g_iconst (v := 1) k_Tab_tellRow_88 rfl ?_
        refine g_goto (tgt := 93) k_Tab_tellRow_89 (by decide) ?_
        refine g_iret k_Tab_tellRow_93 rfl ?_
        exact (by cases e; exact hq)
    rw [if_neg s_4] at e
    refine g_tabOut (tgt := 94) k_Tab_tellRow_18 (by have t_0 := lv_neT (a := 0) s_0 rfl; have t_1 := lv_neT (a := 1) s_1 rfl; have t_2 := lv_neT (a := 2) s_2 rfl; have t_3 := lv_neT (a := 3) s_3 rfl; have t_4 := lv_neT (a := 4) s_4 rfl; omega) (by decide) ?_
    refine g_aload_n k_Tab_tellRow_94 rfl rfl ?_
    refine g_aload_n k_Tab_tellRow_95 rfl rfl ?_
    refine g_iload_n k_Tab_tellRow_96 rfl rfl ?_
    refine g_iconst (v := 5) k_Tab_tellRow_97 rfl ?_
    refine g_isub k_Tab_tellRow_98 ?_
    obtain ⟨y8, m9, e_y8, e⟩ := o_b2_ex e
    refine g_cv k_Tab_tellRow_99 lv_Tab_190 (by decide +kernel) (T := F_Tab) (N := 11) (ci := 7) rfl (sk_Tab (sy_Tab s)) (s_Tab_tellBeside (bc := 0) (bs := 0) s F (rwp x1) (sy_row s (inb_in q2)) (x2 - 5) m e_y8 (by omega)) rfl rfl (Nat.le_of_ble_eq_true rfl) (by simp [Value.category]) (by omega) (by omega) (by omega) ?_
    refine g_iret k_Tab_tellRow_102 rfl ?_
    exact (by cases e; exact hq)
def f_Tab_weigh (a0 : Nat) (m : aM) : Option Int32 :=
  (if 4 ≤ (4 : Int32) then
  o_let ((((m a0 0) + (3 * (m a0 1))) + (5 * (m a0 2)))) fun y1 =>
  some (y1 + (7 * (m a0 3)))
  else
  some 0
  )
theorem s_Tab_weigh {K : aK} {d bc bs : Nat} {g : aG} (s : Sys g) (a0 : Nat) (h0 : g.2.1 a0 = (0, 4)) (m : aM) {r : Int32} (e : f_Tab_weigh a0 m = some r) : Sp K M_Tab_weigh d bc bs [.ref a0] (g, m) (some (.int r)) (g, m) := by
  refine sp_of ok_Tab_weigh rfl (Nat.le_of_ble_eq_true rfl) (by simp [Value.category]) (fun Q hq => ?_)
  unfold f_Tab_weigh at e
  refine g_aload_n k_Tab_weigh_0 rfl rfl ?_
  refine p_alen (v := 4) k_Tab_weigh_1 h0 (by decide) rfl ?_
  refine g_iconst (v := 4) k_Tab_weigh_2 rfl ?_
  refine g_icmp_ge (tgt := 8) k_Tab_weigh_3 (by decide) (fun c => ?_) (fun c => ?_)
  · rw [if_pos c] at e
    refine g_aload_n k_Tab_weigh_8 rfl rfl ?_
    refine g_iconst (v := 0) k_Tab_weigh_9 rfl ?_
    refine p_iald k_Tab_weigh_10 h0 (vp_in_nI (n := 0) (N := 4) (by decide) (by decide)) (j := 0) rfl ?_
    refine g_iconst (v := 3) k_Tab_weigh_11 rfl ?_
    refine g_aload_n k_Tab_weigh_12 rfl rfl ?_
    refine g_iconst (v := 1) k_Tab_weigh_13 rfl ?_
    refine p_iald k_Tab_weigh_14 h0 (vp_in_nI (n := 1) (N := 4) (by decide) (by decide)) (j := 1) rfl ?_
    refine g_imul k_Tab_weigh_15 ?_
    refine g_iadd k_Tab_weigh_16 ?_
    refine g_iconst (v := 5) k_Tab_weigh_17 rfl ?_
    refine g_aload_n k_Tab_weigh_18 rfl rfl ?_
    refine g_iconst (v := 2) k_Tab_weigh_19 rfl ?_
    refine p_iald k_Tab_weigh_20 h0 (vp_in_nI (n := 2) (N := 4) (by decide) (by decide)) (j := 2) rfl ?_
    refine g_imul k_Tab_weigh_21 ?_
    refine g_iadd k_Tab_weigh_22 ?_
    obtain ⟨y1, u_y1, e⟩ := o_let_ex e
    refine G.vy u_y1 ?_
    refine g_bipush (v := 7) k_Tab_weigh_23 rfl ?_
    refine g_aload_n k_Tab_weigh_25 rfl rfl ?_
    refine g_iconst (v := 3) k_Tab_weigh_26 rfl ?_
    refine p_iald k_Tab_weigh_27 h0 (vp_in_nI (n := 3) (N := 4) (by decide) (by decide)) (j := 3) rfl ?_
    refine g_imul k_Tab_weigh_28 ?_
    refine g_iadd k_Tab_weigh_29 ?_
    refine g_iret k_Tab_weigh_30 rfl ?_
    exact (by cases e; exact hq)
  · rw [if_neg c] at e
    refine g_iconst (v := 0) k_Tab_weigh_6 rfl ?_
    refine g_iret k_Tab_weigh_7 rfl ?_
    exact (by cases e; exact hq)
def b_Tab_sumOf_75 (F : Nat) (rec_9 : Int32 → Int32 → Int32 → aM → Option (Int32 × aM)) (x2 : Int32) (x3 : Int32) (x4 : Int32) (m : aM) : Option (Int32 × aM) :=
  rec_9 x2 x3 (x4 + 1) m
theorem t_Tab_sumOf_75 {K : aK} {d bc bs : Nat} {g : aG} (s : Sys g) {Q : aQ} {r : Int32} {m' : aM} (F : Nat) (rec_9 : Int32 → Int32 → Int32 → aM → Option (Int32 × aM)) (hr_9 : ∀ (x2 : Int32) (x3 : Int32) (x4 : Int32) (m : aM), rec_9 x2 x3 x4 m = some (r, m') → G K M_Tab_sumOf d bc bs 9 [.ref 37, .double 0, .int x2, .int x3, .int x4, .double 0] [] (g, m) Q) (x2 : Int32) (x3 : Int32) (x4 : Int32) (m : aM) (hq : Q (.inl (some (.int r))) (g, m')) (e : b_Tab_sumOf_75 F rec_9 x2 x3 x4 m = some (r, m')) (hd : 3 ≤ d) : G K M_Tab_sumOf d bc bs 75 [.ref 37, .double 0, .int x2, .int x3, .int x4, .double 0] [] (g, m) Q := by
  unfold b_Tab_sumOf_75 at e
  refine g_iinc (v := _ + 1) k_Tab_sumOf_75 rfl rfl (by decide) ?_
  refine g_goto (tgt := 9) k_Tab_sumOf_78 (by decide) ?_
  exact (hr_9 x2 x3 (x4 + 1) m e)
def lb_Tab_sumOf_9 (F : Nat) (rec_9 : Int32 → Int32 → Int32 → aM → Option (Int32 × aM)) (x2 : Int32) (x3 : Int32) (x4 : Int32) (m : aM) : Option (Int32 × aM) :=
  (if x2 < x4 then
  some (x3, m)
  else
  (if 40 ≤ x4 then
  some (x3, m)
  else
  o_gd (inb x4 40) <|
  (if (m (rwp x4) 3) = 1 then
  o_b2 (f_Len_toNew F 2 ((rwp x4) + 1) 40 m) fun y2 m3 =>
  o_b (f_Tab_weigh ((rwp x4) + 2) m3) fun y4 =>
  o_b (f_Tab_weigh 40 m3) fun y5 =>
  b_Tab_sumOf_75 F rec_9 x2 (x3 + (y4 - y5)) x4 m3
  else
  b_Tab_sumOf_75 F rec_9 x2 x3 x4 m
  )
  )
  )
theorem tb_Tab_sumOf_9 {K : aK} {d bc bs : Nat} {g : aG} (s : Sys g) {Q : aQ} {r : Int32} {m' : aM} (F : Nat) (rec_9 : Int32 → Int32 → Int32 → aM → Option (Int32 × aM)) (hr_9 : ∀ (x2 : Int32) (x3 : Int32) (x4 : Int32) (m : aM), rec_9 x2 x3 x4 m = some (r, m') → G K M_Tab_sumOf d bc bs 9 [.ref 37, .double 0, .int x2, .int x3, .int x4, .double 0] [] (g, m) Q) (x2 : Int32) (x3 : Int32) (x4 : Int32) (m : aM) (hq : Q (.inl (some (.int r))) (g, m')) (e : lb_Tab_sumOf_9 F rec_9 x2 x3 x4 m = some (r, m')) (hd : 3 ≤ d) : G K M_Tab_sumOf d bc bs 9 [.ref 37, .double 0, .int x2, .int x3, .int x4, .double 0] [] (g, m) Q := by
  unfold lb_Tab_sumOf_9 at e
  refine g_iload k_Tab_sumOf_9 rfl ?_
  refine g_iload_n k_Tab_sumOf_11 rfl rfl ?_
  refine g_icmp_gt (tgt := 81) k_Tab_sumOf_12 (by decide) (fun c => ?_) (fun c => ?_)
  · rw [if_pos c] at e
    refine g_iload_n k_Tab_sumOf_81 rfl rfl ?_
    refine g_iret k_Tab_sumOf_82 rfl ?_
    exact (by cases e; exact hq)
  · rw [if_neg c] at e
    refine g_iload k_Tab_sumOf_15 rfl ?_
    refine g_bipush (v := 40) k_Tab_sumOf_17 rfl ?_
    refine g_icmp_ge (tgt := 81) k_Tab_sumOf_19 (by decide) (fun c => ?_) (fun c => ?_)
    · rw [if_pos c] at e
      refine g_iload_n k_Tab_sumOf_81 rfl rfl ?_
      refine g_iret k_Tab_sumOf_82 rfl ?_
      exact (by cases e; exact hq)
    · rw [if_neg c] at e
      refine g_aload_n k_Tab_sumOf_22 rfl rfl ?_
      refine p_getr k_Tab_sumOf_23 fl_Tab_11 rfl (sk_Tab (sy_Tab s)) (by decide) (sr_Tab_2 (sy_Tab s)) ?_
      refine g_iload k_Tab_sumOf_26 rfl ?_
      obtain ⟨q1, e⟩ := o_gd_ex e
      refine p_aald k_Tab_sumOf_28 (sa_Tab_2 (sy_Tab s)) (by decide) (by decide) (inb_in q1) (j := x4.toNatClampNeg) rfl (sy_rowr s (inb_in q1)) ?_
      refine g_astore k_Tab_sumOf_29 (by decide) ?_
      refine g_aload k_Tab_sumOf_31 rfl ?_
      refine p_geti k_Tab_sumOf_33 fl_Tab_40 rfl (sk_Row (sy_row s (inb_in q1))) (by decide) ?_
      refine g_iconst (v := 1) k_Tab_sumOf_36 rfl ?_
      refine g_icmp_ne (tgt := 75) k_Tab_sumOf_37 (by decide) (fun c => ?_) (fun c => ?_)
      · rw [if_pos c] at e
        refine g_aload_n k_Tab_sumOf_40 rfl rfl ?_
        refine p_getr k_Tab_sumOf_41 fl_Tab_27 rfl (sk_Tab (sy_Tab s)) (by decide) (sr_Tab_0 s) ?_
        refine g_aload k_Tab_sumOf_44 rfl ?_
        refine p_getr k_Tab_sumOf_46 fl_Tab_92 rfl (sk_Row (sy_row s (inb_in q1))) (by decide) (sr_Row_0 (sy_row s (inb_in q1))) ?_
        refine g_aload_n k_Tab_sumOf_49 rfl rfl ?_
        refine p_getr k_Tab_sumOf_50 fl_Tab_21 rfl (sk_Tab (sy_Tab s)) (by decide) (sr_Tab_4 (sy_Tab s)) ?_
        obtain ⟨y2, m3, e_y2, e⟩ := o_b2_ex e
        refine g_cv k_Tab_sumOf_53 lv_Tab_98 (by decide +kernel) (T := F_Len) (N := 11) (ci := 2) rfl (sk_Len (sy_len s)) (s_Len_toNew (bc := 0) (bs := 0) s F 2 (sy_len s) ((rwp x4) + 1) (sa_Row_0 (sy_row s (inb_in q1))) 40 (sa_Tab_4 (sy_Tab s)) m e_y2 (by omega)) rfl rfl (Nat.le_of_ble_eq_true rfl) (by simp [Value.category]) (by omega) (by omega) (by omega) ?_
        refine g_iload_n k_Tab_sumOf_56 rfl rfl ?_
        refine g_aload k_Tab_sumOf_57 rfl ?_
        refine p_getr k_Tab_sumOf_59 fl_Tab_95 rfl (sk_Row (sy_row s (inb_in q1))) (by decide) (sr_Row_1 (sy_row s (inb_in q1))) ?_
        obtain ⟨y4, e_y4, e⟩ := o_b_ex e
        refine g_cs k_Tab_sumOf_62 ls_Tab_200 (by decide +kernel) (s_Tab_weigh (bc := 0) (bs := 0) s ((rwp x4) + 2) (sa_Row_1 (sy_row s (inb_in q1))) m3 e_y4) rfl rfl (Nat.le_of_ble_eq_true rfl) (by simp [Value.category]) (by omega) (by omega) (by omega) ?_
        refine g_aload_n k_Tab_sumOf_65 rfl rfl ?_
        refine p_getr k_Tab_sumOf_66 fl_Tab_21 rfl (sk_Tab (sy_Tab s)) (by decide) (sr_Tab_4 (sy_Tab s)) ?_
        obtain ⟨y5, e_y5, e⟩ := o_b_ex e
        refine g_cs k_Tab_sumOf_69 ls_Tab_200 (by decide +kernel) (s_Tab_weigh (bc := 0) (bs := 0) s 40 (sa_Tab_4 (sy_Tab s)) m3 e_y5) rfl rfl (Nat.le_of_ble_eq_true rfl) (by simp [Value.category]) (by omega) (by omega) (by omega) ?_
        refine g_isub k_Tab_sumOf_72 ?_
        refine g_iadd k_Tab_sumOf_73 ?_
        refine g_istore_n k_Tab_sumOf_74 rfl (by decide) ?_
        exact G.wl (wls (wls (wls (wls (wls (wld wl0)))))) (t_Tab_sumOf_75 s F rec_9 hr_9 x2 (x3 + (y4 - y5)) x4 m3 hq e hd)
      · rw [if_neg c] at e
        exact G.wl (wls (wls (wls (wls (wls (wld wl0)))))) (t_Tab_sumOf_75 s F rec_9 hr_9 x2 x3 x4 m hq e hd)
def ll_Tab_sumOf_9 (F : Nat) : Nat → Int32 → Int32 → Int32 → aM → Option (Int32 × aM)
  | 0, _, _, _, _ => none
  | N + 1, x2, x3, x4, m => lb_Tab_sumOf_9 F (ll_Tab_sumOf_9 F N) x2 x3 x4 m
theorem t_Tab_sumOf_9 {K : aK} {d bc bs : Nat} {g : aG} (s : Sys g) {Q : aQ} {r : Int32} {m' : aM} (F : Nat) : ∀ (N : Nat) (x2 : Int32) (x3 : Int32) (x4 : Int32) (m : aM), Q (.inl (some (.int r))) (g, m') → ll_Tab_sumOf_9 F N x2 x3 x4 m = some (r, m') → 3 ≤ d → G K M_Tab_sumOf d bc bs 9 [.ref 37, .double 0, .int x2, .int x3, .int x4, .double 0] [] (g, m) Q
  | 0, _, _, _, _ => fun _ e => nomatch e
  | N + 1, x2, x3, x4, m => fun hq e hd => tb_Tab_sumOf_9 s F (ll_Tab_sumOf_9 F N) (fun x2 x3 x4 m e => t_Tab_sumOf_9 s F N x2 x3 x4 m hq e hd) x2 x3 x4 m hq e hd
def f_Tab_sumOf (F : Nat) (x1 : Int32) (x2 : Int32) (m : aM) : Option (Int32 × aM) :=
  ll_Tab_sumOf_9 F F x2 0 (if x1 < 0 then 0 else x1) m
theorem s_Tab_sumOf {K : aK} {d bc bs : Nat} {g : aG} (s : Sys g) (F : Nat) (x1 : Int32) (x2 : Int32) (m : aM) {r : Int32} {m' : aM} (e : f_Tab_sumOf F x1 x2 m = some (r, m')) (hd : 3 ≤ d) : Sp K M_Tab_sumOf d bc bs [.ref 37, .int x1, .int x2] (g, m) (some (.int r)) (g, m') := by
  refine sp_of ok_Tab_sumOf rfl (Nat.le_of_ble_eq_true rfl) (by simp [Value.category]) (fun Q hq => ?_)
  unfold f_Tab_sumOf at e
  refine g_iconst (v := 0) k_Tab_sumOf_0 rfl ?_
  refine g_istore_n k_Tab_sumOf_1 rfl (by decide) ?_
  refine g_iload_n k_Tab_sumOf_2 rfl rfl ?_
  refine g_iconst (v := 0) k_Tab_sumOf_3 rfl ?_
  refine g_mx k_Tab_sumOf_4 mw_Tab_197 (Nat.le_of_ble_eq_true rfl) (by omega) ?_
  refine g_istore k_Tab_sumOf_7 (by decide) ?_
  exact G.wl (wls (wld (wls (wls (wls (wls wl0)))))) (t_Tab_sumOf_9 s F F x2 0 (if x1 < 0 then 0 else x1) m hq e hd)
def b_Tab_halve_62 (F : Nat) (rec_19 : Int32 → Int32 → Int32 → aM → Option (Int32 × aM)) (x3 : Int32) (x4 : Int32) (x5 : Int32) (m : aM) : Option (Int32 × aM) :=
  rec_19 x3 x4 (x5 + 1) m
theorem t_Tab_halve_62 {K : aK} {d bc bs : Nat} {g : aG} (s : Sys g) {Q : aQ} {r : Int32} {m' : aM} (F : Nat) (rec_19 : Int32 → Int32 → Int32 → aM → Option (Int32 × aM)) (hr_19 : ∀ (x3 : Int32) (x4 : Int32) (x5 : Int32) (m : aM), rec_19 x3 x4 x5 m = some (r, m') → G K M_Tab_halve d bc bs 19 [.ref 37, .double 0, .double 0, .int x3, .int x4, .int x5, .double 0] [] (g, m) Q) (x3 : Int32) (x4 : Int32) (x5 : Int32) (m : aM) (hq : Q (.inl (some (.int r))) (g, m')) (e : b_Tab_halve_62 F rec_19 x3 x4 x5 m = some (r, m')) (hd : 4 ≤ d) : G K M_Tab_halve d bc bs 62 [.ref 37, .double 0, .double 0, .int x3, .int x4, .int x5, .double 0] [] (g, m) Q := by
  unfold b_Tab_halve_62 at e
  refine g_iinc (v := _ + 1) k_Tab_halve_62 rfl rfl (by decide) ?_
  refine g_goto (tgt := 19) k_Tab_halve_65 (by decide) ?_
  exact (hr_19 x3 x4 (x5 + 1) m e)
def lb_Tab_halve_19 (F : Nat) (rec_19 : Int32 → Int32 → Int32 → aM → Option (Int32 × aM)) (x3 : Int32) (x4 : Int32) (x5 : Int32) (m : aM) : Option (Int32 × aM) :=
  (if 40 ≤ x5 then
  some (x3, m)
  else
  (if x4 ≤ x3 then
  some (x3, m)
  else
  o_b2 (f_Tab_sumOf F x3 ((x3 + x4) / 2) m) fun y1 m2 =>
  (if y1 = 0 then
  b_Tab_halve_62 F rec_19 (((x3 + x4) / 2) + 1) x4 x5 m2
  else
  b_Tab_halve_62 F rec_19 x3 ((x3 + x4) / 2) x5 m2
  )
  )
  )
theorem tb_Tab_halve_19 {K : aK} {d bc bs : Nat} {g : aG} (s : Sys g) {Q : aQ} {r : Int32} {m' : aM} (F : Nat) (rec_19 : Int32 → Int32 → Int32 → aM → Option (Int32 × aM)) (hr_19 : ∀ (x3 : Int32) (x4 : Int32) (x5 : Int32) (m : aM), rec_19 x3 x4 x5 m = some (r, m') → G K M_Tab_halve d bc bs 19 [.ref 37, .double 0, .double 0, .int x3, .int x4, .int x5, .double 0] [] (g, m) Q) (x3 : Int32) (x4 : Int32) (x5 : Int32) (m : aM) (hq : Q (.inl (some (.int r))) (g, m')) (e : lb_Tab_halve_19 F rec_19 x3 x4 x5 m = some (r, m')) (hd : 4 ≤ d) : G K M_Tab_halve d bc bs 19 [.ref 37, .double 0, .double 0, .int x3, .int x4, .int x5, .double 0] [] (g, m) Q := by
  unfold lb_Tab_halve_19 at e
  refine g_iload k_Tab_halve_19 rfl ?_
  refine g_bipush (v := 40) k_Tab_halve_21 rfl ?_
  refine g_icmp_ge (tgt := 68) k_Tab_halve_23 (by decide) (fun c => ?_) (fun c => ?_)
  · rw [if_pos c] at e
    refine g_iload_n k_Tab_halve_68 rfl rfl ?_
    refine g_iret k_Tab_halve_69 rfl ?_
    exact (by cases e; exact hq)
  · rw [if_neg c] at e
    refine g_iload_n k_Tab_halve_26 rfl rfl ?_
    refine g_iload k_Tab_halve_27 rfl ?_
    refine g_icmp_ge (tgt := 68) k_Tab_halve_29 (by decide) (fun c => ?_) (fun c => ?_)
    · rw [if_pos c] at e
      refine g_iload_n k_Tab_halve_68 rfl rfl ?_
      refine g_iret k_Tab_halve_69 rfl ?_
      exact (by cases e; exact hq)
    · rw [if_neg c] at e
      refine g_iload_n k_Tab_halve_32 rfl rfl ?_
      refine g_iload k_Tab_halve_33 rfl ?_
      refine g_iadd k_Tab_halve_35 ?_
      refine g_iconst (v := 2) k_Tab_halve_36 rfl ?_
      refine g_idiv k_Tab_halve_37 (by decide) ?_
      refine g_istore k_Tab_halve_38 (by decide) ?_
      refine g_aload_n k_Tab_halve_40 rfl rfl ?_
      refine g_iload_n k_Tab_halve_41 rfl rfl ?_
      refine g_iload k_Tab_halve_42 rfl ?_
      obtain ⟨y1, m2, e_y1, e⟩ := o_b2_ex e
      refine g_cv k_Tab_halve_44 lv_Tab_204 (by decide +kernel) (T := F_Tab) (N := 11) (ci := 7) rfl (sk_Tab (sy_Tab s)) (s_Tab_sumOf (bc := 0) (bs := 0) s F x3 ((x3 + x4) / 2) m e_y1 (by omega)) rfl rfl (Nat.le_of_ble_eq_true rfl) (by simp [Value.category]) (by omega) (by omega) (by omega) ?_
      refine g_if_eq (tgt := 57) k_Tab_halve_47 (by decide) (fun c => ?_) (fun c => ?_)
      · rw [if_pos c] at e
        refine g_iload k_Tab_halve_57 rfl ?_
        refine g_iconst (v := 1) k_Tab_halve_59 rfl ?_
        refine g_iadd k_Tab_halve_60 ?_
        refine g_istore_n k_Tab_halve_61 rfl (by decide) ?_
        exact G.wl (wls (wls (wls (wls (wls (wls (wld wl0))))))) (t_Tab_halve_62 s F rec_19 hr_19 (((x3 + x4) / 2) + 1) x4 x5 m2 hq e hd)
      · rw [if_neg c] at e
        refine g_iload k_Tab_halve_50 rfl ?_
        refine g_istore k_Tab_halve_52 (by decide) ?_
        refine g_goto (tgt := 62) k_Tab_halve_54 (by decide) ?_
        exact G.wl (wls (wls (wls (wls (wls (wls (wld wl0))))))) (t_Tab_halve_62 s F rec_19 hr_19 x3 ((x3 + x4) / 2) x5 m2 hq e hd)
def ll_Tab_halve_19 (F : Nat) : Nat → Int32 → Int32 → Int32 → aM → Option (Int32 × aM)
  | 0, _, _, _, _ => none
  | N + 1, x3, x4, x5, m => lb_Tab_halve_19 F (ll_Tab_halve_19 F N) x3 x4 x5 m
theorem t_Tab_halve_19 {K : aK} {d bc bs : Nat} {g : aG} (s : Sys g) {Q : aQ} {r : Int32} {m' : aM} (F : Nat) : ∀ (N : Nat) (x3 : Int32) (x4 : Int32) (x5 : Int32) (m : aM), Q (.inl (some (.int r))) (g, m') → ll_Tab_halve_19 F N x3 x4 x5 m = some (r, m') → 4 ≤ d → G K M_Tab_halve d bc bs 19 [.ref 37, .double 0, .double 0, .int x3, .int x4, .int x5, .double 0] [] (g, m) Q
  | 0, _, _, _, _ => fun _ e => nomatch e
  | N + 1, x3, x4, x5, m => fun hq e hd => tb_Tab_halve_19 s F (ll_Tab_halve_19 F N) (fun x3 x4 x5 m e => t_Tab_halve_19 s F N x3 x4 x5 m hq e hd) x3 x4 x5 m hq e hd
def f_Tab_halve (F : Nat) (x1 : Int32) (x2 : Int32) (m : aM) : Option (Int32 × aM) :=
  o_b2 (f_Tab_sumOf F x1 x2 m) fun y1 m2 =>
  (if y1 = 0 then
  some ((-1), m2)
  else
  ll_Tab_halve_19 F F x1 x2 0 m2
  )
theorem s_Tab_halve {K : aK} {d bc bs : Nat} {g : aG} (s : Sys g) (F : Nat) (x1 : Int32) (x2 : Int32) (m : aM) {r : Int32} {m' : aM} (e : f_Tab_halve F x1 x2 m = some (r, m')) (hd : 4 ≤ d) : Sp K M_Tab_halve d bc bs [.ref 37, .int x1, .int x2] (g, m) (some (.int r)) (g, m') := by
  refine sp_of ok_Tab_halve rfl (Nat.le_of_ble_eq_true rfl) (by simp [Value.category]) (fun Q hq => ?_)
  unfold f_Tab_halve at e
  refine g_aload_n k_Tab_halve_0 rfl rfl ?_
  refine g_iload_n k_Tab_halve_1 rfl rfl ?_
  refine g_iload_n k_Tab_halve_2 rfl rfl ?_
  obtain ⟨y1, m2, e_y1, e⟩ := o_b2_ex e
  refine g_cv k_Tab_halve_3 lv_Tab_204 (by decide +kernel) (T := F_Tab) (N := 11) (ci := 7) rfl (sk_Tab (sy_Tab s)) (s_Tab_sumOf (bc := 0) (bs := 0) s F x1 x2 m e_y1 (by omega)) rfl rfl (Nat.le_of_ble_eq_true rfl) (by simp [Value.category]) (by omega) (by omega) (by omega) ?_
  refine g_if_ne (tgt := 11) k_Tab_halve_6 (by decide) (fun c => ?_) (fun c => ?_)
  · rw [if_pos c] at e
    refine g_iconst (v := (-1)) k_Tab_halve_9 rfl ?_
    refine g_iret k_Tab_halve_10 rfl ?_
    exact (by cases e; exact hq)
  · rw [if_neg c] at e
    refine g_iload_n k_Tab_halve_11 rfl rfl ?_
    refine g_istore_n k_Tab_halve_12 rfl (by decide) ?_
    refine g_iload_n k_Tab_halve_13 rfl rfl ?_
    refine g_istore k_Tab_halve_14 (by decide) ?_
    refine g_iconst (v := 0) k_Tab_halve_16 rfl ?_
    refine g_istore k_Tab_halve_17 (by decide) ?_
    exact G.wl (wls (wld (wld (wls (wls (wls (wls wl0))))))) (t_Tab_halve_19 s F F x1 x2 0 m2 hq e hd)
def f_Tab_mendRow (F : Nat) (x1 : Int32) (m : aM) : Option (Int32 × aM) :=
  o_b (f_Tab_isThere x1 m) fun y1 =>
  (if y1 = 0 then
  some (0, m)
  else
  o_gd (inb x1 40) <|
  o_b2 (f_Tab_isOdd F (rwp x1) m) fun y3 m4 =>
  (if y3 = 0 then
  some (0, m4)
  else
  o_gd (inb x1 40) <|
  o_b2 (f_Tab_seeAnew F (rwp x1) m4) fun y6 m7 =>
  some (1, m7)
  )
  )
theorem s_Tab_mendRow {K : aK} {d bc bs : Nat} {g : aG} (s : Sys g) (F : Nat) (x1 : Int32) (m : aM) {r : Int32} {m' : aM} (e : f_Tab_mendRow F x1 m = some (r, m')) (hd : 4 ≤ d) : Sp K M_Tab_mendRow d bc bs [.ref 37, .int x1] (g, m) (some (.int r)) (g, m') := by
  refine sp_of ok_Tab_mendRow rfl (Nat.le_of_ble_eq_true rfl) (by simp [Value.category]) (fun Q hq => ?_)
  unfold f_Tab_mendRow at e
  refine g_aload_n k_Tab_mendRow_0 rfl rfl ?_
  refine g_iload_n k_Tab_mendRow_1 rfl rfl ?_
  obtain ⟨y1, e_y1, e⟩ := o_b_ex e
  refine g_cv k_Tab_mendRow_2 lv_Tab_79 (by decide +kernel) (T := F_Tab) (N := 11) (ci := 7) rfl (sk_Tab (sy_Tab s)) (s_Tab_isThere (bc := 0) (bs := 0) s x1 m e_y1) rfl rfl (Nat.le_of_ble_eq_true rfl) (by simp [Value.category]) (by omega) (by omega) (by omega) ?_
  refine g_if_eq (tgt := 21) k_Tab_mendRow_5 (by decide) (fun c => ?_) (fun c => ?_)
  · rw [if_pos c] at e
    refine g_iconst (v := 0) k_Tab_mendRow_21 rfl ?_
    refine g_zret k_Tab_mendRow_22 rfl (by decide) ?_
    exact (by cases e; exact hq)
  · rw [if_neg c] at e
    refine g_aload_n k_Tab_mendRow_8 rfl rfl ?_
    refine g_aload_n k_Tab_mendRow_9 rfl rfl ?_
    refine p_getr k_Tab_mendRow_10 fl_Tab_11 rfl (sk_Tab (sy_Tab s)) (by decide) (sr_Tab_2 (sy_Tab s)) ?_
    refine g_iload_n k_Tab_mendRow_13 rfl rfl ?_
    obtain ⟨q2, e⟩ := o_gd_ex e
    refine p_aald k_Tab_mendRow_14 (sa_Tab_2 (sy_Tab s)) (by decide) (by decide) (inb_in q2) (j := x1.toNatClampNeg) rfl (sy_rowr s (inb_in q2)) ?_
    obtain ⟨y3, m4, e_y3, e⟩ := o_b2_ex e
    refine g_cv k_Tab_mendRow_15 lv_Tab_186 (by decide +kernel) (T := F_Tab) (N := 11) (ci := 7) rfl (sk_Tab (sy_Tab s)) (s_Tab_isOdd (bc := 0) (bs := 0) s F (rwp x1) (sy_row s (inb_in q2)) m e_y3 (by omega)) rfl rfl (Nat.le_of_ble_eq_true rfl) (by simp [Value.category]) (by omega) (by omega) (by omega) ?_
    refine g_if_ne (tgt := 23) k_Tab_mendRow_18 (by decide) (fun c => ?_) (fun c => ?_)
    · rw [if_pos c] at e
      refine g_iconst (v := 0) k_Tab_mendRow_21 rfl ?_
      refine g_zret k_Tab_mendRow_22 rfl (by decide) ?_
      exact (by cases e; exact hq)
    · rw [if_neg c] at e
      refine g_aload_n k_Tab_mendRow_23 rfl rfl ?_
      refine g_aload_n k_Tab_mendRow_24 rfl rfl ?_
      refine p_getr k_Tab_mendRow_25 fl_Tab_11 rfl (sk_Tab (sy_Tab s)) (by decide) (sr_Tab_2 (sy_Tab s)) ?_
      refine g_iload_n k_Tab_mendRow_28 rfl rfl ?_
      obtain ⟨q5, e⟩ := o_gd_ex e
      refine p_aald k_Tab_mendRow_29 (sa_Tab_2 (sy_Tab s)) (by decide) (by decide) (inb_in q5) (j := x1.toNatClampNeg) rfl (sy_rowr s (inb_in q5)) ?_
      obtain ⟨y6, m7, e_y6, e⟩ := o_b2_ex e
      refine g_cv k_Tab_mendRow_30 lv_Tab_85 (by decide +kernel) (T := F_Tab) (N := 11) (ci := 7) rfl (sk_Tab (sy_Tab s)) (s_Tab_seeAnew (bc := 0) (bs := 0) s F (rwp x1) (sy_row s (inb_in q5)) m4 e_y6 (by omega)) rfl rfl (Nat.le_of_ble_eq_true rfl) (by simp [Value.category]) (by omega) (by omega) (by omega) ?_
      refine g_iconst (v := 1) k_Tab_mendRow_33 rfl ?_
      refine g_zret k_Tab_mendRow_34 rfl (by decide) ?_
      exact (by cases e; exact hq)
