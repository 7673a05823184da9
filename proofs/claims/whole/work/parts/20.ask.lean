/-! Asked (made by wip/gen/auto2.py) -/
def b_Ask_slot_20 (xt0 : Int32) (xt1 : Int32) (m : aM) : Option Int32 :=
  (if (xt1 + xt0) < 0 then
  some 0
  else
  (if 128 ≤ (xt1 + xt0) then
  some 0
  else
  some (xt1 + xt0)
  )
  )
theorem t_Ask_slot_20 {K : aK} {d bc bs : Nat} {g : aG} (s : Sys g) {Q : aQ} {r : Int32} (m : aM) (xt0 : Int32) (xt1 : Int32) (hq : Q (.inl (some (.int r))) (g, m)) (e : b_Ask_slot_20 xt0 xt1 m = some r) : G K M_Ask_slot d bc bs 20 [.double 0, .double 0, .double 0, .double 0, .double 0] [.int xt0, .int xt1] (g, m) Q := by
  unfold b_Ask_slot_20 at e
  refine g_iadd k_Ask_slot_20 ?_
  refine g_istore k_Ask_slot_21 (by decide) ?_
  refine g_iload k_Ask_slot_23 rfl ?_
  refine g_if_lt (tgt := 41) k_Ask_slot_25 (by decide) (fun c => ?_) (fun c => ?_)
  · rw [if_pos c] at e
    refine g_iconst (v := 0) k_Ask_slot_41 rfl ?_
    refine g_iret k_Ask_slot_42 rfl ?_
    exact (by cases e; exact hq)
  · rw [if_neg c] at e
    refine g_iload k_Ask_slot_28 rfl ?_
    refine g_sipush (v := 128) k_Ask_slot_30 rfl ?_
    refine g_icmp_ge (tgt := 41) k_Ask_slot_33 (by decide) (fun c => ?_) (fun c => ?_)
    · rw [if_pos c] at e
      refine g_iconst (v := 0) k_Ask_slot_41 rfl ?_
      refine g_iret k_Ask_slot_42 rfl ?_
      exact (by cases e; exact hq)
    · rw [if_neg c] at e
      refine g_iload k_Ask_slot_36 rfl ?_
      refine g_goto (tgt := 42) k_Ask_slot_38 (by decide) ?_
      refine g_iret k_Ask_slot_42 rfl ?_
      exact (by cases e; exact hq)
def f_Ask_slot (x0 : Int32) (x1 : Int32) (x2 : Int32) (x3 : Int32) (m : aM) : Option Int32 :=
  o_let ((((((x0 * 2) + x1) * 4) + x2) * 2)) fun y1 =>
  (if x3 = 0 then
  b_Ask_slot_20 0 y1 m
  else
  b_Ask_slot_20 1 y1 m
  )
theorem s_Ask_slot {K : aK} {d bc bs : Nat} {g : aG} (s : Sys g) (x0 : Int32) (x1 : Int32) (x2 : Int32) (x3 : Int32) (m : aM) {r : Int32} (e : f_Ask_slot x0 x1 x2 x3 m = some r) : Sp K M_Ask_slot d bc bs [.int x0, .int x1, .int x2, .int x3] (g, m) (some (.int r)) (g, m) := by
  refine sp_of ok_Ask_slot rfl (Nat.le_of_ble_eq_true rfl) (by simp [Value.category]) (fun Q hq => ?_)
  unfold f_Ask_slot at e
  refine g_iload_n k_Ask_slot_0 rfl rfl ?_
  refine g_iconst (v := 2) k_Ask_slot_1 rfl ?_
  refine g_imul k_Ask_slot_2 ?_
  refine g_iload_n k_Ask_slot_3 rfl rfl ?_
  refine g_iadd k_Ask_slot_4 ?_
  refine g_iconst (v := 4) k_Ask_slot_5 rfl ?_
  refine g_imul k_Ask_slot_6 ?_
  refine g_iload_n k_Ask_slot_7 rfl rfl ?_
  refine g_iadd k_Ask_slot_8 ?_
  refine g_iconst (v := 2) k_Ask_slot_9 rfl ?_
  refine g_imul k_Ask_slot_10 ?_
  obtain ⟨y1, u_y1, e⟩ := o_let_ex e
  refine G.vy u_y1 ?_
  refine g_iload_n k_Ask_slot_11 rfl rfl ?_
  refine g_if_eq (tgt := 19) k_Ask_slot_12 (by decide) (fun c => ?_) (fun c => ?_)
  · rw [if_pos c] at e
    refine g_iconst (v := 0) k_Ask_slot_19 rfl ?_
    exact G.wl (wld (wld (wld (wld (wls wl0))))) (t_Ask_slot_20 s m 0 y1  hq e)
  · rw [if_neg c] at e
    refine g_iconst (v := 1) k_Ask_slot_15 rfl ?_
    refine g_goto (tgt := 20) k_Ask_slot_16 (by decide) ?_
    exact G.wl (wld (wld (wld (wld (wls wl0))))) (t_Ask_slot_20 s m 1 y1  hq e)
def f_Ask_latest (x1 : Int32) (x2 : Int32) (x3 : Int32) (x4 : Int32) (m : aM) : Option Int32 :=
  o_b (f_Ask_slot x1 x2 x3 x4 m) fun y1 =>
  o_gd (inb y1 128) <|
  some (m 36 y1.toNatClampNeg)
theorem s_Ask_latest {K : aK} {d bc bs : Nat} {g : aG} (s : Sys g) (x1 : Int32) (x2 : Int32) (x3 : Int32) (x4 : Int32) (m : aM) {r : Int32} (e : f_Ask_latest x1 x2 x3 x4 m = some r) (hd : 1 ≤ d) : Sp K M_Ask_latest d bc bs [.ref 35, .int x1, .int x2, .int x3, .int x4] (g, m) (some (.int r)) (g, m) := by
  refine sp_of ok_Ask_latest rfl (Nat.le_of_ble_eq_true rfl) (by simp [Value.category]) (fun Q hq => ?_)
  unfold f_Ask_latest at e
  refine g_aload_n k_Ask_latest_0 rfl rfl ?_
  refine p_getr k_Ask_latest_1 fl_Ask_11 rfl (sk_Ask (sy_Ask s)) (by decide) (sr_Ask_0 (sy_Ask s)) ?_
  refine g_iload_n k_Ask_latest_4 rfl rfl ?_
  refine g_iload_n k_Ask_latest_5 rfl rfl ?_
  refine g_iload_n k_Ask_latest_6 rfl rfl ?_
  refine g_iload k_Ask_latest_7 rfl ?_
  obtain ⟨y1, e_y1, e⟩ := o_b_ex e
  refine g_cs k_Ask_latest_9 ls_Ask_15 (by decide +kernel) (s_Ask_slot (bc := 0) (bs := 0) s x1 x2 x3 x4 m e_y1) rfl rfl (Nat.le_of_ble_eq_true rfl) (by simp [Value.category]) (by omega) (by omega) (by omega) ?_
  obtain ⟨q2, e⟩ := o_gd_ex e
  refine p_iald k_Ask_latest_12 (sa_Ask_0 (sy_Ask s)) (inb_in q2) (j := y1.toNatClampNeg) rfl ?_
  refine g_iret k_Ask_latest_13 rfl ?_
  exact (by cases e; exact hq)
def b_Ask_oldAskers_56 (F : Nat) (rec_5 : Int32 → Int32 → Int32 → Int32 → aM → Option Int32) (x1 : Int32) (x2 : Int32) (x4 : Int32) (xt0 : Int32) (xt1 : Int32) (m : aM) : Option Int32 :=
  rec_5 x1 x2 (xt1 ||| xt0) (x4 + 1) m
theorem t_Ask_oldAskers_56 {K : aK} {d bc bs : Nat} {g : aG} (s : Sys g) {Q : aQ} {r : Int32} (F : Nat) (m : aM) (rec_5 : Int32 → Int32 → Int32 → Int32 → aM → Option Int32) (hr_5 : ∀ (x1 : Int32) (x2 : Int32) (x3 : Int32) (x4 : Int32), rec_5 x1 x2 x3 x4 m = some r → G K M_Ask_oldAskers d bc bs 5 [.ref 35, .int x1, .int x2, .int x3, .int x4, .double 0] [] (g, m) Q) (x1 : Int32) (x2 : Int32) (x4 : Int32) (xt0 : Int32) (xt1 : Int32) (hq : Q (.inl (some (.int r))) (g, m)) (e : b_Ask_oldAskers_56 F rec_5 x1 x2 x4 xt0 xt1 m = some r) (hd : 2 ≤ d) : G K M_Ask_oldAskers d bc bs 56 [.ref 35, .int x1, .int x2, .double 0, .int x4, .double 0] [.int xt0, .int xt1] (g, m) Q := by
  unfold b_Ask_oldAskers_56 at e
  refine g_ior k_Ask_oldAskers_56 ?_
  refine g_istore_n k_Ask_oldAskers_57 rfl (by decide) ?_
  refine g_iinc (v := _ + 1) k_Ask_oldAskers_58 rfl rfl (by decide) ?_
  refine g_goto (tgt := 5) k_Ask_oldAskers_61 (by decide) ?_
  exact (hr_5 x1 x2 (xt1 ||| xt0) (x4 + 1)  e)
def b_Ask_oldAskers_55 (F : Nat) (rec_5 : Int32 → Int32 → Int32 → Int32 → aM → Option Int32) (x1 : Int32) (x2 : Int32) (x4 : Int32) (xt0 : Int32) (m : aM) : Option Int32 :=
  b_Ask_oldAskers_56 F rec_5 x1 x2 x4 0 xt0 m
theorem t_Ask_oldAskers_55 {K : aK} {d bc bs : Nat} {g : aG} (s : Sys g) {Q : aQ} {r : Int32} (F : Nat) (m : aM) (rec_5 : Int32 → Int32 → Int32 → Int32 → aM → Option Int32) (hr_5 : ∀ (x1 : Int32) (x2 : Int32) (x3 : Int32) (x4 : Int32), rec_5 x1 x2 x3 x4 m = some r → G K M_Ask_oldAskers d bc bs 5 [.ref 35, .int x1, .int x2, .int x3, .int x4, .double 0] [] (g, m) Q) (x1 : Int32) (x2 : Int32) (x4 : Int32) (xt0 : Int32) (hq : Q (.inl (some (.int r))) (g, m)) (e : b_Ask_oldAskers_55 F rec_5 x1 x2 x4 xt0 m = some r) (hd : 2 ≤ d) : G K M_Ask_oldAskers d bc bs 55 [.ref 35, .int x1, .int x2, .double 0, .int x4, .double 0] [.int xt0] (g, m) Q := by
  unfold b_Ask_oldAskers_55 at e
  refine g_iconst (v := 0) k_Ask_oldAskers_55 rfl ?_
  exact (t_Ask_oldAskers_56 s F m rec_5 hr_5 x1 x2 x4 0 xt0  hq e hd)
def lb_Ask_oldAskers_5 (F : Nat) (rec_5 : Int32 → Int32 → Int32 → Int32 → aM → Option Int32) (x1 : Int32) (x2 : Int32) (x3 : Int32) (x4 : Int32) (m : aM) : Option Int32 :=
  (if 8 ≤ x4 then
  some x3
  else
  o_b (f_Ask_latest x4 0 x1 0 m) fun y1 =>
  o_b (f_Ask_latest x4 0 x1 1 m) fun y2 =>
  (if (if y1 < y2 then y2 else y1) = (-1) then
  b_Ask_oldAskers_55 F rec_5 x1 x2 x4 x3 m
  else
  (if (if y1 < y2 then y2 else y1) < x2 then
  b_Ask_oldAskers_55 F rec_5 x1 x2 x4 x3 m
  else
  o_let (((1 : Int32) <<< (x4 &&& 31))) fun y3 =>
  b_Ask_oldAskers_56 F rec_5 x1 x2 x4 y3 x3 m
  )
  )
  )
theorem tb_Ask_oldAskers_5 {K : aK} {d bc bs : Nat} {g : aG} (s : Sys g) {Q : aQ} {r : Int32} (F : Nat) (m : aM) (rec_5 : Int32 → Int32 → Int32 → Int32 → aM → Option Int32) (hr_5 : ∀ (x1 : Int32) (x2 : Int32) (x3 : Int32) (x4 : Int32), rec_5 x1 x2 x3 x4 m = some r → G K M_Ask_oldAskers d bc bs 5 [.ref 35, .int x1, .int x2, .int x3, .int x4, .double 0] [] (g, m) Q) (x1 : Int32) (x2 : Int32) (x3 : Int32) (x4 : Int32) (hq : Q (.inl (some (.int r))) (g, m)) (e : lb_Ask_oldAskers_5 F rec_5 x1 x2 x3 x4 m = some r) (hd : 2 ≤ d) : G K M_Ask_oldAskers d bc bs 5 [.ref 35, .int x1, .int x2, .int x3, .int x4, .double 0] [] (g, m) Q := by
  unfold lb_Ask_oldAskers_5 at e
  refine g_iload k_Ask_oldAskers_5 rfl ?_
  refine g_bipush (v := 8) k_Ask_oldAskers_7 rfl ?_
  refine g_icmp_ge (tgt := 64) k_Ask_oldAskers_9 (by decide) (fun c => ?_) (fun c => ?_)
  · rw [if_pos c] at e
    refine g_iload_n k_Ask_oldAskers_64 rfl rfl ?_
    refine g_iret k_Ask_oldAskers_65 rfl ?_
    exact (by cases e; exact hq)
  · rw [if_neg c] at e
    refine g_aload_n k_Ask_oldAskers_12 rfl rfl ?_
    refine g_iload k_Ask_oldAskers_13 rfl ?_
    refine g_iconst (v := 0) k_Ask_oldAskers_15 rfl ?_
    refine g_iload_n k_Ask_oldAskers_16 rfl rfl ?_
    refine g_iconst (v := 0) k_Ask_oldAskers_17 rfl ?_
    obtain ⟨y1, e_y1, e⟩ := o_b_ex e
    refine g_cv k_Ask_oldAskers_18 lv_Ask_19 (by decide +kernel) (T := F_Ask) (N := 1) (ci := 0) rfl (sk_Ask (sy_Ask s)) (s_Ask_latest (bc := 0) (bs := 0) s x4 0 x1 0 m e_y1 (by omega)) rfl rfl (Nat.le_of_ble_eq_true rfl) (by simp [Value.category]) (by omega) (by omega) (by omega) ?_
    refine g_aload_n k_Ask_oldAskers_21 rfl rfl ?_
    refine g_iload k_Ask_oldAskers_22 rfl ?_
    refine g_iconst (v := 0) k_Ask_oldAskers_24 rfl ?_
    refine g_iload_n k_Ask_oldAskers_25 rfl rfl ?_
    refine g_iconst (v := 1) k_Ask_oldAskers_26 rfl ?_
    obtain ⟨y2, e_y2, e⟩ := o_b_ex e
    refine g_cv k_Ask_oldAskers_27 lv_Ask_19 (by decide +kernel) (T := F_Ask) (N := 1) (ci := 0) rfl (sk_Ask (sy_Ask s)) (s_Ask_latest (bc := 0) (bs := 0) s x4 0 x1 1 m e_y2 (by omega)) rfl rfl (Nat.le_of_ble_eq_true rfl) (by simp [Value.category]) (by omega) (by omega) (by omega) ?_
    refine g_mx k_Ask_oldAskers_30 mw_Ask_22 (Nat.le_of_ble_eq_true rfl) (by omega) ?_
    refine g_istore k_Ask_oldAskers_33 (by decide) ?_
    refine g_iload_n k_Ask_oldAskers_35 rfl rfl ?_
    refine g_iload k_Ask_oldAskers_36 rfl ?_
    refine g_iconst (v := (-1)) k_Ask_oldAskers_38 rfl ?_
    refine g_icmp_eq (tgt := 55) k_Ask_oldAskers_39 (by decide) (fun c => ?_) (fun c => ?_)
    · rw [if_pos c] at e
      exact G.wl (wls (wls (wls (wld (wls (wld wl0)))))) (t_Ask_oldAskers_55 s F m rec_5 hr_5 x1 x2 x4 x3  hq e hd)
    · rw [if_neg c] at e
      refine g_iload k_Ask_oldAskers_42 rfl ?_
      refine g_iload_n k_Ask_oldAskers_44 rfl rfl ?_
      refine g_icmp_lt (tgt := 55) k_Ask_oldAskers_45 (by decide) (fun c => ?_) (fun c => ?_)
      · rw [if_pos c] at e
        exact G.wl (wls (wls (wls (wld (wls (wld wl0)))))) (t_Ask_oldAskers_55 s F m rec_5 hr_5 x1 x2 x4 x3  hq e hd)
      · rw [if_neg c] at e
        refine g_iconst (v := 1) k_Ask_oldAskers_48 rfl ?_
        refine g_iload k_Ask_oldAskers_49 rfl ?_
        refine g_ishl k_Ask_oldAskers_51 ?_
        obtain ⟨y3, u_y3, e⟩ := o_let_ex e
        refine G.vy u_y3 ?_
        refine g_goto (tgt := 56) k_Ask_oldAskers_52 (by decide) ?_
        exact G.wl (wls (wls (wls (wld (wls (wld wl0)))))) (t_Ask_oldAskers_56 s F m rec_5 hr_5 x1 x2 x4 y3 x3  hq e hd)
def ll_Ask_oldAskers_5 (F : Nat) : Nat → Int32 → Int32 → Int32 → Int32 → aM → Option Int32
  | 0, _, _, _, _, _ => none
  | N + 1, x1, x2, x3, x4, m => lb_Ask_oldAskers_5 F (ll_Ask_oldAskers_5 F N) x1 x2 x3 x4 m
theorem t_Ask_oldAskers_5 {K : aK} {d bc bs : Nat} {g : aG} (s : Sys g) {Q : aQ} {r : Int32} (F : Nat) (m : aM) : ∀ (N : Nat) (x1 : Int32) (x2 : Int32) (x3 : Int32) (x4 : Int32), Q (.inl (some (.int r))) (g, m) → ll_Ask_oldAskers_5 F N x1 x2 x3 x4 m = some r → 2 ≤ d → G K M_Ask_oldAskers d bc bs 5 [.ref 35, .int x1, .int x2, .int x3, .int x4, .double 0] [] (g, m) Q
  | 0, _, _, _, _ => fun _ e => nomatch e
  | N + 1, x1, x2, x3, x4 => fun hq e hd => tb_Ask_oldAskers_5 s F m (ll_Ask_oldAskers_5 F N) (fun x1 x2 x3 x4 e => t_Ask_oldAskers_5 s F m N x1 x2 x3 x4 hq e hd) x1 x2 x3 x4 hq e hd
def f_Ask_oldAskers (F : Nat) (x1 : Int32) (x2 : Int32) (m : aM) : Option Int32 :=
  ll_Ask_oldAskers_5 F F x1 x2 0 0 m
theorem s_Ask_oldAskers {K : aK} {d bc bs : Nat} {g : aG} (s : Sys g) (F : Nat) (x1 : Int32) (x2 : Int32) (m : aM) {r : Int32} (e : f_Ask_oldAskers F x1 x2 m = some r) (hd : 2 ≤ d) : Sp K M_Ask_oldAskers d bc bs [.ref 35, .int x1, .int x2] (g, m) (some (.int r)) (g, m) := by
  refine sp_of ok_Ask_oldAskers rfl (Nat.le_of_ble_eq_true rfl) (by simp [Value.category]) (fun Q hq => ?_)
  unfold f_Ask_oldAskers at e
  refine g_iconst (v := 0) k_Ask_oldAskers_0 rfl ?_
  refine g_istore_n k_Ask_oldAskers_1 rfl (by decide) ?_
  refine g_iconst (v := 0) k_Ask_oldAskers_2 rfl ?_
  refine g_istore k_Ask_oldAskers_3 (by decide) ?_
  exact (t_Ask_oldAskers_5 s F m F x1 x2 0 0  hq e hd)
def lb_Ask_isOldAsked_2 (F : Nat) (rec_2 : Int32 → Int32 → aM → Option Int32) (x1 : Int32) (x2 : Int32) (m : aM) : Option Int32 :=
  (if 4 ≤ x2 then
  some 0
  else
  o_b (f_Ask_oldAskers F x2 x1 m) fun y1 =>
  (if y1 = 0 then
  rec_2 x1 (x2 + 1) m
  else
  some 1
  )
  )
theorem tb_Ask_isOldAsked_2 {K : aK} {d bc bs : Nat} {g : aG} (s : Sys g) {Q : aQ} {r : Int32} (F : Nat) (m : aM) (rec_2 : Int32 → Int32 → aM → Option Int32) (hr_2 : ∀ (x1 : Int32) (x2 : Int32), rec_2 x1 x2 m = some r → G K M_Ask_isOldAsked d bc bs 2 [.ref 35, .int x1, .int x2] [] (g, m) Q) (x1 : Int32) (x2 : Int32) (hq : Q (.inl (some (.int r))) (g, m)) (e : lb_Ask_isOldAsked_2 F rec_2 x1 x2 m = some r) (hd : 3 ≤ d) : G K M_Ask_isOldAsked d bc bs 2 [.ref 35, .int x1, .int x2] [] (g, m) Q := by
  unfold lb_Ask_isOldAsked_2 at e
  refine g_iload_n k_Ask_isOldAsked_2 rfl rfl ?_
  refine g_iconst (v := 4) k_Ask_isOldAsked_3 rfl ?_
  refine g_icmp_ge (tgt := 24) k_Ask_isOldAsked_4 (by decide) (fun c => ?_) (fun c => ?_)
  · rw [if_pos c] at e
    refine g_iconst (v := 0) k_Ask_isOldAsked_24 rfl ?_
    refine g_zret k_Ask_isOldAsked_25 rfl (by decide) ?_
    exact (by cases e; exact hq)
  · rw [if_neg c] at e
    refine g_aload_n k_Ask_isOldAsked_7 rfl rfl ?_
    refine g_iload_n k_Ask_isOldAsked_8 rfl rfl ?_
    refine g_iload_n k_Ask_isOldAsked_9 rfl rfl ?_
    obtain ⟨y1, e_y1, e⟩ := o_b_ex e
    refine g_cv k_Ask_isOldAsked_10 lv_Ask_28 (by decide +kernel) (T := F_Ask) (N := 1) (ci := 0) rfl (sk_Ask (sy_Ask s)) (s_Ask_oldAskers (bc := 0) (bs := 0) s F x2 x1 m e_y1 (by omega)) rfl rfl (Nat.le_of_ble_eq_true rfl) (by simp [Value.category]) (by omega) (by omega) (by omega) ?_
    refine g_if_eq (tgt := 18) k_Ask_isOldAsked_13 (by decide) (fun c => ?_) (fun c => ?_)
    · rw [if_pos c] at e
      refine g_iinc (v := _ + 1) k_Ask_isOldAsked_18 rfl rfl (by decide) ?_
      refine g_goto (tgt := 2) k_Ask_isOldAsked_21 (by decide) ?_
      exact (hr_2 x1 (x2 + 1)  e)
    · rw [if_neg c] at e
      refine g_iconst (v := 1) k_Ask_isOldAsked_16 rfl ?_
      refine g_zret k_Ask_isOldAsked_17 rfl (by decide) ?_
      exact (by cases e; exact hq)
def ll_Ask_isOldAsked_2 (F : Nat) : Nat → Int32 → Int32 → aM → Option Int32
  | 0, _, _, _ => none
  | N + 1, x1, x2, m => lb_Ask_isOldAsked_2 F (ll_Ask_isOldAsked_2 F N) x1 x2 m
theorem t_Ask_isOldAsked_2 {K : aK} {d bc bs : Nat} {g : aG} (s : Sys g) {Q : aQ} {r : Int32} (F : Nat) (m : aM) : ∀ (N : Nat) (x1 : Int32) (x2 : Int32), Q (.inl (some (.int r))) (g, m) → ll_Ask_isOldAsked_2 F N x1 x2 m = some r → 3 ≤ d → G K M_Ask_isOldAsked d bc bs 2 [.ref 35, .int x1, .int x2] [] (g, m) Q
  | 0, _, _ => fun _ e => nomatch e
  | N + 1, x1, x2 => fun hq e hd => tb_Ask_isOldAsked_2 s F m (ll_Ask_isOldAsked_2 F N) (fun x1 x2 e => t_Ask_isOldAsked_2 s F m N x1 x2 hq e hd) x1 x2 hq e hd
def f_Ask_isOldAsked (F : Nat) (x1 : Int32) (m : aM) : Option Int32 :=
  ll_Ask_isOldAsked_2 F F x1 0 m
theorem s_Ask_isOldAsked {K : aK} {d bc bs : Nat} {g : aG} (s : Sys g) (F : Nat) (x1 : Int32) (m : aM) {r : Int32} (e : f_Ask_isOldAsked F x1 m = some r) (hd : 3 ≤ d) : Sp K M_Ask_isOldAsked d bc bs [.ref 35, .int x1] (g, m) (some (.int r)) (g, m) := by
  refine sp_of ok_Ask_isOldAsked rfl (Nat.le_of_ble_eq_true rfl) (by simp [Value.category]) (fun Q hq => ?_)
  unfold f_Ask_isOldAsked at e
  refine g_iconst (v := 0) k_Ask_isOldAsked_0 rfl ?_
  refine g_istore_n k_Ask_isOldAsked_1 rfl (by decide) ?_
  exact (t_Ask_isOldAsked_2 s F m F x1 0  hq e hd)
def f_Ask_note (x1 : Int32) (x2 : Int32) (x3 : Int32) (x4 : Int32) (x5 : Int32) (m : aM) : Option (Int32 × aM) :=
  o_b (f_Ask_slot x1 x2 x3 x4 m) fun y1 =>
  o_gd (inb y1 128) <|
  o_let (a_st m 36 y1.toNatClampNeg x5) fun m3 =>
  some (0, m3)
theorem s_Ask_note {K : aK} {d bc bs : Nat} {g : aG} (s : Sys g) (x1 : Int32) (x2 : Int32) (x3 : Int32) (x4 : Int32) (x5 : Int32) (m : aM) {r : Int32} {m' : aM} (e : f_Ask_note x1 x2 x3 x4 x5 m = some (r, m')) (hd : 1 ≤ d) : Sp K M_Ask_note d bc bs [.ref 35, .int x1, .int x2, .int x3, .int x4, .int x5] (g, m) none (g, m') := by
  refine sp_of ok_Ask_note rfl (Nat.le_of_ble_eq_true rfl) (by simp [Value.category]) (fun Q hq => ?_)
  unfold f_Ask_note at e
  refine g_aload_n k_Ask_note_0 rfl rfl ?_
  refine p_getr k_Ask_note_1 fl_Ask_11 rfl (sk_Ask (sy_Ask s)) (by decide) (sr_Ask_0 (sy_Ask s)) ?_
  refine g_iload_n k_Ask_note_4 rfl rfl ?_
  refine g_iload_n k_Ask_note_5 rfl rfl ?_
  refine g_iload_n k_Ask_note_6 rfl rfl ?_
  refine g_iload k_Ask_note_7 rfl ?_
  obtain ⟨y1, e_y1, e⟩ := o_b_ex e
  refine g_cs k_Ask_note_9 ls_Ask_15 (by decide +kernel) (s_Ask_slot (bc := 0) (bs := 0) s x1 x2 x3 x4 m e_y1) rfl rfl (Nat.le_of_ble_eq_true rfl) (by simp [Value.category]) (by omega) (by omega) (by omega) ?_
  refine g_iload k_Ask_note_12 rfl ?_
  obtain ⟨q2, e⟩ := o_gd_ex e
  refine p_iast k_Ask_note_14 (sa_Ask_0 (sy_Ask s)) (inb_in q2) (j := y1.toNatClampNeg) rfl ?_
  obtain ⟨m3, u_m3, e⟩ := o_let_ex e
  refine G.hm u_m3 ?_
  refine g_vret k_Ask_note_15 rfl ?_
  exact (by cases e; exact hq)
