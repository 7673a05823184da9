/-! Likes (made by wip/gen/auto2.py) -/
def lb_Lik_forget_2 (F : Nat) (rec_2 : Nat → Int32 → aM → Option (Int32 × aM)) (a0 : Nat) (x1 : Int32) (m : aM) : Option (Int32 × aM) :=
  (if 8192 ≤ x1 then
  some (0, m)
  else
  o_gd (inb x1 8192) <|
  o_let (a_st m (a0 + 1) x1.toNatClampNeg (-1)) fun m2 =>
  rec_2 a0 (x1 + 1) m2
  )
theorem tb_Lik_forget_2 {K : aK} {d bc bs : Nat} {g : aG} (s : Sys g) {Q : aQ} {r : Int32} {m' : aM} (F : Nat) (rec_2 : Nat → Int32 → aM → Option (Int32 × aM)) (hr_2 : ∀ (a0 : Nat) (s0 : ShLik g a0) (x1 : Int32) (m : aM), rec_2 a0 x1 m = some (r, m') → G K M_Lik_forget d bc bs 2 [.ref a0, .int x1] [] (g, m) Q) (a0 : Nat) (s0 : ShLik g a0) (x1 : Int32) (m : aM) (hq : Q (.inl none) (g, m')) (e : lb_Lik_forget_2 F rec_2 a0 x1 m = some (r, m')) : G K M_Lik_forget d bc bs 2 [.ref a0, .int x1] [] (g, m) Q := by
  unfold lb_Lik_forget_2 at e
  refine g_iload_n k_Lik_forget_2 rfl rfl ?_
  refine g_sipush (v := 8192) k_Lik_forget_3 rfl ?_
  refine g_icmp_ge (tgt := 22) k_Lik_forget_6 (by decide) (fun c => ?_) (fun c => ?_)
  · rw [if_pos c] at e
    refine g_vret k_Lik_forget_22 rfl ?_
    exact (by cases e; exact hq)
  · rw [if_neg c] at e
    refine g_aload_n k_Lik_forget_9 rfl rfl ?_
    refine p_getr k_Lik_forget_10 fl_Lik_11 rfl (sk_Lik s0) (by decide) (sr_Lik_0 s0) ?_
    refine g_iload_n k_Lik_forget_13 rfl rfl ?_
    refine g_iconst (v := (-1)) k_Lik_forget_14 rfl ?_
    obtain ⟨q1, e⟩ := o_gd_ex e
    refine p_iast k_Lik_forget_15 (sa_Lik_0 s0) (inb_in q1) (j := x1.toNatClampNeg) rfl ?_
    obtain ⟨m2, u_m2, e⟩ := o_let_ex e
    refine G.hm u_m2 ?_
    refine g_iinc (v := _ + 1) k_Lik_forget_16 rfl rfl (by decide) ?_
    refine g_goto (tgt := 2) k_Lik_forget_19 (by decide) ?_
    exact (hr_2 a0 s0 (x1 + 1) m2 e)
def ll_Lik_forget_2 (F : Nat) : Nat → Nat → Int32 → aM → Option (Int32 × aM)
  | 0, _, _, _ => none
  | N + 1, a0, x1, m => lb_Lik_forget_2 F (ll_Lik_forget_2 F N) a0 x1 m
theorem t_Lik_forget_2 {K : aK} {d bc bs : Nat} {g : aG} (s : Sys g) {Q : aQ} {r : Int32} {m' : aM} (F : Nat) : ∀ (N : Nat) (a0 : Nat) (s0 : ShLik g a0) (x1 : Int32) (m : aM), Q (.inl none) (g, m') → ll_Lik_forget_2 F N a0 x1 m = some (r, m') → G K M_Lik_forget d bc bs 2 [.ref a0, .int x1] [] (g, m) Q
  | 0, _, _, _, _ => fun _ e => nomatch e
  | N + 1, a0, s0, x1, m => fun hq e => tb_Lik_forget_2 s F (ll_Lik_forget_2 F N) (fun a0 s0 x1 m e => t_Lik_forget_2 s F N a0 s0 x1 m hq e) a0 s0 x1 m hq e
def f_Lik_forget (F : Nat) (a0 : Nat) (m : aM) : Option (Int32 × aM) :=
  ll_Lik_forget_2 F F a0 0 m
theorem s_Lik_forget {K : aK} {d bc bs : Nat} {g : aG} (s : Sys g) (F : Nat) (a0 : Nat) (s0 : ShLik g a0) (m : aM) {r : Int32} {m' : aM} (e : f_Lik_forget F a0 m = some (r, m')) : Sp K M_Lik_forget d bc bs [.ref a0] (g, m) none (g, m') := by
  refine sp_of ok_Lik_forget rfl (Nat.le_of_ble_eq_true rfl) (by simp [Value.category]) (fun Q hq => ?_)
  unfold f_Lik_forget at e
  refine g_iconst (v := 0) k_Lik_forget_0 rfl ?_
  refine g_istore_n k_Lik_forget_1 rfl (by decide) ?_
  exact (t_Lik_forget_2 s F F a0 s0 0 m hq e)
def f_Lik_keepSeen (a0 : Nat) (x1 : Int32) (a2 : Nat) (a3 : Nat) (m : aM) : Option (Int32 × aM) :=
  (if x1 < 0 then
  some (0, m)
  else
  (if 4096 ≤ x1 then
  some (0, m)
  else
  (if (4 : Int32) < 4 then
  some (0, m)
  else
  (if 4 ≤ (4 : Int32) then
  o_gd (cpg 0 (x1 * 8) 4 4 32768) <|
  o_let (a_sf m (a0 + 2) (va_cpy (m a2) (m (a0 + 2)) (0 : Int32).toNatClampNeg ((x1 * 8) : Int32).toNatClampNeg (4 : Int32).toNatClampNeg)) fun m2 =>
  o_gd (cpg 0 ((x1 * 8) + 4) 4 4 32768) <|
  o_let (a_sf m2 (a0 + 2) (va_cpy (m2 a3) (m2 (a0 + 2)) (0 : Int32).toNatClampNeg (((x1 * 8) + 4) : Int32).toNatClampNeg (4 : Int32).toNatClampNeg)) fun m4 =>
  some (0, m4)
  else
  some (0, m)
  )
  )
  )
  )
theorem s_Lik_keepSeen {K : aK} {d bc bs : Nat} {g : aG} (s : Sys g) (a0 : Nat) (s0 : ShLik g a0) (x1 : Int32) (a2 : Nat) (h2 : g.2.1 a2 = (0, 4)) (a3 : Nat) (h3 : g.2.1 a3 = (0, 4)) (m : aM) {r : Int32} {m' : aM} (e : f_Lik_keepSeen a0 x1 a2 a3 m = some (r, m')) (hd : 1 ≤ d) : Sp K M_Lik_keepSeen d bc bs [.ref a0, .int x1, .ref a2, .ref a3] (g, m) none (g, m') := by
  refine sp_of ok_Lik_keepSeen rfl (Nat.le_of_ble_eq_true rfl) (by simp [Value.category]) (fun Q hq => ?_)
  unfold f_Lik_keepSeen at e
  refine g_iload_n k_Lik_keepSeen_0 rfl rfl ?_
  refine g_if_lt (tgt := 23) k_Lik_keepSeen_1 (by decide) (fun c => ?_) (fun c => ?_)
  · rw [if_pos c] at e
    refine g_vret k_Lik_keepSeen_23 rfl ?_
    exact (by cases e; exact hq)
  · rw [if_neg c] at e
    refine g_iload_n k_Lik_keepSeen_4 rfl rfl ?_
    refine g_sipush (v := 4096) k_Lik_keepSeen_5 rfl ?_
    refine g_icmp_ge (tgt := 23) k_Lik_keepSeen_8 (by decide) (fun c => ?_) (fun c => ?_)
    · rw [if_pos c] at e
      refine g_vret k_Lik_keepSeen_23 rfl ?_
      exact (by cases e; exact hq)
    · rw [if_neg c] at e
      refine g_aload_n k_Lik_keepSeen_11 rfl rfl ?_
      refine p_alen (v := 4) k_Lik_keepSeen_12 h2 (by decide) rfl ?_
      refine g_iconst (v := 4) k_Lik_keepSeen_13 rfl ?_
      refine g_icmp_lt (tgt := 23) k_Lik_keepSeen_14 (by decide) (fun c => ?_) (fun c => ?_)
      · rw [if_pos c] at e
        refine g_vret k_Lik_keepSeen_23 rfl ?_
        exact (by cases e; exact hq)
      · rw [if_neg c] at e
        refine g_aload_n k_Lik_keepSeen_17 rfl rfl ?_
        refine p_alen (v := 4) k_Lik_keepSeen_18 h3 (by decide) rfl ?_
        refine g_iconst (v := 4) k_Lik_keepSeen_19 rfl ?_
        refine g_icmp_ge (tgt := 24) k_Lik_keepSeen_20 (by decide) (fun c => ?_) (fun c => ?_)
        · rw [if_pos c] at e
          refine g_aload_n k_Lik_keepSeen_24 rfl rfl ?_
          refine g_iconst (v := 0) k_Lik_keepSeen_25 rfl ?_
          refine g_aload_n k_Lik_keepSeen_26 rfl rfl ?_
          refine p_getr k_Lik_keepSeen_27 fl_Lik_16 rfl (sk_Lik s0) (by decide) (sr_Lik_1 s0) ?_
          refine g_iload_n k_Lik_keepSeen_30 rfl rfl ?_
          refine g_bipush (v := 8) k_Lik_keepSeen_31 rfl ?_
          refine g_imul k_Lik_keepSeen_33 ?_
          refine g_iconst (v := 4) k_Lik_keepSeen_34 rfl ?_
          obtain ⟨q1, e⟩ := o_gd_ex e
          refine p_cp k_Lik_keepSeen_35 yw_Lik_31 h2 (sa_Lik_1 s0) (cpg_of q1).1 (cpg_of q1).2.1 (cpg_of q1).2.2.1 (cpg_of q1).2.2.2.1 (cpg_of q1).2.2.2.2 (Nat.le_of_ble_eq_true rfl) (by omega) ?_
          obtain ⟨m2, u_m2, e⟩ := o_let_ex e
          refine G.hm u_m2 ?_
          refine g_aload_n k_Lik_keepSeen_38 rfl rfl ?_
          refine g_iconst (v := 0) k_Lik_keepSeen_39 rfl ?_
          refine g_aload_n k_Lik_keepSeen_40 rfl rfl ?_
          refine p_getr k_Lik_keepSeen_41 fl_Lik_16 rfl (sk_Lik s0) (by decide) (sr_Lik_1 s0) ?_
          refine g_iload_n k_Lik_keepSeen_44 rfl rfl ?_
          refine g_bipush (v := 8) k_Lik_keepSeen_45 rfl ?_
          refine g_imul k_Lik_keepSeen_47 ?_
          refine g_iconst (v := 4) k_Lik_keepSeen_48 rfl ?_
          refine g_iadd k_Lik_keepSeen_49 ?_
          refine g_iconst (v := 4) k_Lik_keepSeen_50 rfl ?_
          obtain ⟨q3, e⟩ := o_gd_ex e
          refine p_cp k_Lik_keepSeen_51 yw_Lik_31 h3 (sa_Lik_1 s0) (cpg_of q3).1 (cpg_of q3).2.1 (cpg_of q3).2.2.1 (cpg_of q3).2.2.2.1 (cpg_of q3).2.2.2.2 (Nat.le_of_ble_eq_true rfl) (by omega) ?_
          obtain ⟨m4, u_m4, e⟩ := o_let_ex e
          refine G.hm u_m4 ?_
          refine g_vret k_Lik_keepSeen_54 rfl ?_
          exact (by cases e; exact hq)
        · rw [if_neg c] at e
          refine g_vret k_Lik_keepSeen_23 rfl ?_
          exact (by cases e; exact hq)
def lb_Lik_placeOf_35 (F : Nat) (rec_35 : Nat → Int32 → Int32 → aM → Option Int32) (a1 : Nat) (x2 : Int32) (x3 : Int32) (m : aM) : Option Int32 :=
  (if 4 ≤ x3 then
  some (x2 &&& 8191)
  else
  o_gd (inb x3 4) <|
  o_let ((x2 ^^^ (m a1 x3.toNatClampNeg))) fun y2 =>
  o_let ((((y2 * (-2048144789)) : Int32).toUInt32 >>> ((13 : Int32).toUInt32 &&& Int32.toUInt32 31)).toInt32) fun y3 =>
  o_let (((y2 * (-2048144789)) ^^^ y3)) fun y4 =>
  rec_35 a1 y4 (x3 + 1) m
  )
theorem tb_Lik_placeOf_35 {K : aK} {d bc bs : Nat} {g : aG} (s : Sys g) {Q : aQ} {r : Int32} (F : Nat) (m : aM) (rec_35 : Nat → Int32 → Int32 → aM → Option Int32) (hr_35 : ∀ (a1 : Nat) (h1 : g.2.1 a1 = (0, 4)) (x2 : Int32) (x3 : Int32), rec_35 a1 x2 x3 m = some r → G K M_Lik_placeOf d bc bs 35 [.double 0, .ref a1, .int x2, .int x3] [] (g, m) Q) (a1 : Nat) (h1 : g.2.1 a1 = (0, 4)) (x2 : Int32) (x3 : Int32) (hq : Q (.inl (some (.int r))) (g, m)) (e : lb_Lik_placeOf_35 F rec_35 a1 x2 x3 m = some r) : G K M_Lik_placeOf d bc bs 35 [.double 0, .ref a1, .int x2, .int x3] [] (g, m) Q := by
  unfold lb_Lik_placeOf_35 at e
  refine g_iload_n k_Lik_placeOf_35 rfl rfl ?_
  refine g_aload_n k_Lik_placeOf_36 rfl rfl ?_
  refine p_alen (v := 4) k_Lik_placeOf_37 h1 (by decide) rfl ?_
  refine g_icmp_ge (tgt := 63) k_Lik_placeOf_38 (by decide) (fun c => ?_) (fun c => ?_)
  · rw [if_pos c] at e
    refine g_iload_n k_Lik_placeOf_63 rfl rfl ?_
    refine g_sipush (v := 8191) k_Lik_placeOf_64 rfl ?_
    refine g_iand k_Lik_placeOf_67 ?_
    refine g_iret k_Lik_placeOf_68 rfl ?_
    exact (by cases e; exact hq)
  · rw [if_neg c] at e
    refine g_iload_n k_Lik_placeOf_41 rfl rfl ?_
    refine g_aload_n k_Lik_placeOf_42 rfl rfl ?_
    refine g_iload_n k_Lik_placeOf_43 rfl rfl ?_
    obtain ⟨q1, e⟩ := o_gd_ex e
    refine p_iald k_Lik_placeOf_44 h1 (inb_in q1) (j := x3.toNatClampNeg) rfl ?_
    refine g_ixor k_Lik_placeOf_45 ?_
    obtain ⟨y2, u_y2, e⟩ := o_let_ex e
    refine G.vy u_y2 ?_
    refine g_ldc k_Lik_placeOf_46 kc_Lik_38 ?_
    refine g_imul k_Lik_placeOf_48 ?_
    refine g_istore_n k_Lik_placeOf_49 rfl (by decide) ?_
    refine g_iload_n k_Lik_placeOf_50 rfl rfl ?_
    refine g_iload_n k_Lik_placeOf_51 rfl rfl ?_
    refine g_bipush (v := 13) k_Lik_placeOf_52 rfl ?_
    refine g_iushr k_Lik_placeOf_54 ?_
    obtain ⟨y3, u_y3, e⟩ := o_let_ex e
    refine G.vy u_y3 ?_
    refine g_ixor k_Lik_placeOf_55 ?_
    obtain ⟨y4, u_y4, e⟩ := o_let_ex e
    refine G.vy u_y4 ?_
    refine g_istore_n k_Lik_placeOf_56 rfl (by decide) ?_
    refine g_iinc (v := _ + 1) k_Lik_placeOf_57 rfl rfl (by decide) ?_
    refine g_goto (tgt := 35) k_Lik_placeOf_60 (by decide) ?_
    exact (hr_35 a1 h1 y4 (x3 + 1)  e)
def ll_Lik_placeOf_35 (F : Nat) : Nat → Nat → Int32 → Int32 → aM → Option Int32
  | 0, _, _, _, _ => none
  | N + 1, a1, x2, x3, m => lb_Lik_placeOf_35 F (ll_Lik_placeOf_35 F N) a1 x2 x3 m
theorem t_Lik_placeOf_35 {K : aK} {d bc bs : Nat} {g : aG} (s : Sys g) {Q : aQ} {r : Int32} (F : Nat) (m : aM) : ∀ (N : Nat) (a1 : Nat) (h1 : g.2.1 a1 = (0, 4)) (x2 : Int32) (x3 : Int32), Q (.inl (some (.int r))) (g, m) → ll_Lik_placeOf_35 F N a1 x2 x3 m = some r → G K M_Lik_placeOf d bc bs 35 [.double 0, .ref a1, .int x2, .int x3] [] (g, m) Q
  | 0, _, _, _, _ => fun _ e => nomatch e
  | N + 1, a1, h1, x2, x3 => fun hq e => tb_Lik_placeOf_35 s F m (ll_Lik_placeOf_35 F N) (fun a1 h1 x2 x3 e => t_Lik_placeOf_35 s F m N a1 h1 x2 x3 hq e) a1 h1 x2 x3 hq e
def lb_Lik_placeOf_5 (F : Nat) (rec_5 : Nat → Nat → Int32 → Int32 → aM → Option Int32) (a0 : Nat) (a1 : Nat) (x2 : Int32) (x3 : Int32) (m : aM) : Option Int32 :=
  (if 4 ≤ x3 then
  ll_Lik_placeOf_35 F F a1 x2 0 m
  else
  o_gd (inb x3 4) <|
  o_let ((x2 ^^^ (m a0 x3.toNatClampNeg))) fun y2 =>
  o_let ((((y2 * (-1640531535)) : Int32).toUInt32 >>> ((15 : Int32).toUInt32 &&& Int32.toUInt32 31)).toInt32) fun y3 =>
  o_let (((y2 * (-1640531535)) ^^^ y3)) fun y4 =>
  rec_5 a0 a1 y4 (x3 + 1) m
  )
theorem tb_Lik_placeOf_5 {K : aK} {d bc bs : Nat} {g : aG} (s : Sys g) {Q : aQ} {r : Int32} (F : Nat) (m : aM) (rec_5 : Nat → Nat → Int32 → Int32 → aM → Option Int32) (hr_5 : ∀ (a0 : Nat) (h0 : g.2.1 a0 = (0, 4)) (a1 : Nat) (h1 : g.2.1 a1 = (0, 4)) (x2 : Int32) (x3 : Int32), rec_5 a0 a1 x2 x3 m = some r → G K M_Lik_placeOf d bc bs 5 [.ref a0, .ref a1, .int x2, .int x3] [] (g, m) Q) (a0 : Nat) (h0 : g.2.1 a0 = (0, 4)) (a1 : Nat) (h1 : g.2.1 a1 = (0, 4)) (x2 : Int32) (x3 : Int32) (hq : Q (.inl (some (.int r))) (g, m)) (e : lb_Lik_placeOf_5 F rec_5 a0 a1 x2 x3 m = some r) : G K M_Lik_placeOf d bc bs 5 [.ref a0, .ref a1, .int x2, .int x3] [] (g, m) Q := by
  unfold lb_Lik_placeOf_5 at e
  refine g_iload_n k_Lik_placeOf_5 rfl rfl ?_
  refine g_aload_n k_Lik_placeOf_6 rfl rfl ?_
  refine p_alen (v := 4) k_Lik_placeOf_7 h0 (by decide) rfl ?_
  refine g_icmp_ge (tgt := 33) k_Lik_placeOf_8 (by decide) (fun c => ?_) (fun c => ?_)
  · rw [if_pos c] at e
    refine g_iconst (v := 0) k_Lik_placeOf_33 rfl ?_
    refine g_istore_n k_Lik_placeOf_34 rfl (by decide) ?_
    exact G.wl (wld (wls (wls (wls wl0)))) (t_Lik_placeOf_35 s F m F a1 h1 x2 0  hq e)
  · rw [if_neg c] at e
    refine g_iload_n k_Lik_placeOf_11 rfl rfl ?_
    refine g_aload_n k_Lik_placeOf_12 rfl rfl ?_
    refine g_iload_n k_Lik_placeOf_13 rfl rfl ?_
    obtain ⟨q1, e⟩ := o_gd_ex e
    refine p_iald k_Lik_placeOf_14 h0 (inb_in q1) (j := x3.toNatClampNeg) rfl ?_
    refine g_ixor k_Lik_placeOf_15 ?_
    obtain ⟨y2, u_y2, e⟩ := o_let_ex e
    refine G.vy u_y2 ?_
    refine g_ldc k_Lik_placeOf_16 kc_Lik_37 ?_
    refine g_imul k_Lik_placeOf_18 ?_
    refine g_istore_n k_Lik_placeOf_19 rfl (by decide) ?_
    refine g_iload_n k_Lik_placeOf_20 rfl rfl ?_
    refine g_iload_n k_Lik_placeOf_21 rfl rfl ?_
    refine g_bipush (v := 15) k_Lik_placeOf_22 rfl ?_
    refine g_iushr k_Lik_placeOf_24 ?_
    obtain ⟨y3, u_y3, e⟩ := o_let_ex e
    refine G.vy u_y3 ?_
    refine g_ixor k_Lik_placeOf_25 ?_
    obtain ⟨y4, u_y4, e⟩ := o_let_ex e
    refine G.vy u_y4 ?_
    refine g_istore_n k_Lik_placeOf_26 rfl (by decide) ?_
    refine g_iinc (v := _ + 1) k_Lik_placeOf_27 rfl rfl (by decide) ?_
    refine g_goto (tgt := 5) k_Lik_placeOf_30 (by decide) ?_
    exact (hr_5 a0 h0 a1 h1 y4 (x3 + 1)  e)
def ll_Lik_placeOf_5 (F : Nat) : Nat → Nat → Nat → Int32 → Int32 → aM → Option Int32
  | 0, _, _, _, _, _ => none
  | N + 1, a0, a1, x2, x3, m => lb_Lik_placeOf_5 F (ll_Lik_placeOf_5 F N) a0 a1 x2 x3 m
theorem t_Lik_placeOf_5 {K : aK} {d bc bs : Nat} {g : aG} (s : Sys g) {Q : aQ} {r : Int32} (F : Nat) (m : aM) : ∀ (N : Nat) (a0 : Nat) (h0 : g.2.1 a0 = (0, 4)) (a1 : Nat) (h1 : g.2.1 a1 = (0, 4)) (x2 : Int32) (x3 : Int32), Q (.inl (some (.int r))) (g, m) → ll_Lik_placeOf_5 F N a0 a1 x2 x3 m = some r → G K M_Lik_placeOf d bc bs 5 [.ref a0, .ref a1, .int x2, .int x3] [] (g, m) Q
  | 0, _, _, _, _, _, _ => fun _ e => nomatch e
  | N + 1, a0, h0, a1, h1, x2, x3 => fun hq e => tb_Lik_placeOf_5 s F m (ll_Lik_placeOf_5 F N) (fun a0 h0 a1 h1 x2 x3 e => t_Lik_placeOf_5 s F m N a0 h0 a1 h1 x2 x3 hq e) a0 h0 a1 h1 x2 x3 hq e
def f_Lik_placeOf (F : Nat) (a0 : Nat) (a1 : Nat) (m : aM) : Option Int32 :=
  ll_Lik_placeOf_5 F F a0 a1 17 0 m
theorem s_Lik_placeOf {K : aK} {d bc bs : Nat} {g : aG} (s : Sys g) (F : Nat) (a0 : Nat) (h0 : g.2.1 a0 = (0, 4)) (a1 : Nat) (h1 : g.2.1 a1 = (0, 4)) (m : aM) {r : Int32} (e : f_Lik_placeOf F a0 a1 m = some r) : Sp K M_Lik_placeOf d bc bs [.ref a0, .ref a1] (g, m) (some (.int r)) (g, m) := by
  refine sp_of ok_Lik_placeOf rfl (Nat.le_of_ble_eq_true rfl) (by simp [Value.category]) (fun Q hq => ?_)
  unfold f_Lik_placeOf at e
  refine g_bipush (v := 17) k_Lik_placeOf_0 rfl ?_
  refine g_istore_n k_Lik_placeOf_2 rfl (by decide) ?_
  refine g_iconst (v := 0) k_Lik_placeOf_3 rfl ?_
  refine g_istore_n k_Lik_placeOf_4 rfl (by decide) ?_
  exact (t_Lik_placeOf_5 s F m F a0 h0 a1 h1 17 0  hq e)
def lb_Lik_isSameSeen_26 (F : Nat) (rec_26 : Nat → Int32 → Int32 → Int32 → aM → Option Int32) (a0 : Nat) (x1 : Int32) (x2 : Int32) (x3 : Int32) (m : aM) : Option Int32 :=
  (if 8 ≤ x3 then
  some 1
  else
  o_gd (inb ((x1 * 8) + x3) 32768) <|
  o_let ((m (a0 + 2) (((x1 * 8) + x3).toNatClampNeg))) fun y2 =>
  o_gd (inb ((x2 * 8) + x3) 32768) <|
  o_let ((m (a0 + 2) (((x2 * 8) + x3).toNatClampNeg))) fun y4 =>
  (if y2 = y4 then
  rec_26 a0 x1 x2 (x3 + 1) m
  else
  some 0
  )
  )
theorem tb_Lik_isSameSeen_26 {K : aK} {d bc bs : Nat} {g : aG} (s : Sys g) {Q : aQ} {r : Int32} (F : Nat) (m : aM) (rec_26 : Nat → Int32 → Int32 → Int32 → aM → Option Int32) (hr_26 : ∀ (a0 : Nat) (s0 : ShLik g a0) (x1 : Int32) (x2 : Int32) (x3 : Int32), rec_26 a0 x1 x2 x3 m = some r → G K M_Lik_isSameSeen d bc bs 26 [.ref a0, .int x1, .int x2, .int x3] [] (g, m) Q) (a0 : Nat) (s0 : ShLik g a0) (x1 : Int32) (x2 : Int32) (x3 : Int32) (hq : Q (.inl (some (.int r))) (g, m)) (e : lb_Lik_isSameSeen_26 F rec_26 a0 x1 x2 x3 m = some r) : G K M_Lik_isSameSeen d bc bs 26 [.ref a0, .int x1, .int x2, .int x3] [] (g, m) Q := by
  unfold lb_Lik_isSameSeen_26 at e
  refine g_iload_n k_Lik_isSameSeen_26 rfl rfl ?_
  refine g_bipush (v := 8) k_Lik_isSameSeen_27 rfl ?_
  refine g_icmp_ge (tgt := 65) k_Lik_isSameSeen_29 (by decide) (fun c => ?_) (fun c => ?_)
  · rw [if_pos c] at e
    refine g_iconst (v := 1) k_Lik_isSameSeen_65 rfl ?_
    refine g_zret k_Lik_isSameSeen_66 rfl (by decide) ?_
    exact (by cases e; exact hq)
  · rw [if_neg c] at e
    refine g_aload_n k_Lik_isSameSeen_32 rfl rfl ?_
    refine p_getr k_Lik_isSameSeen_33 fl_Lik_16 rfl (sk_Lik s0) (by decide) (sr_Lik_1 s0) ?_
    refine g_iload_n k_Lik_isSameSeen_36 rfl rfl ?_
    refine g_bipush (v := 8) k_Lik_isSameSeen_37 rfl ?_
    refine g_imul k_Lik_isSameSeen_39 ?_
    refine g_iload_n k_Lik_isSameSeen_40 rfl rfl ?_
    refine g_iadd k_Lik_isSameSeen_41 ?_
    obtain ⟨q1, e⟩ := o_gd_ex e
    refine p_iald k_Lik_isSameSeen_42 (sa_Lik_1 s0) (inb_in q1) (j := ((x1 * 8) + x3).toNatClampNeg) rfl ?_
    obtain ⟨y2, u_y2, e⟩ := o_let_ex e
    refine G.vy u_y2 ?_
    refine g_aload_n k_Lik_isSameSeen_43 rfl rfl ?_
    refine p_getr k_Lik_isSameSeen_44 fl_Lik_16 rfl (sk_Lik s0) (by decide) (sr_Lik_1 s0) ?_
    refine g_iload_n k_Lik_isSameSeen_47 rfl rfl ?_
    refine g_bipush (v := 8) k_Lik_isSameSeen_48 rfl ?_
    refine g_imul k_Lik_isSameSeen_50 ?_
    refine g_iload_n k_Lik_isSameSeen_51 rfl rfl ?_
    refine g_iadd k_Lik_isSameSeen_52 ?_
    obtain ⟨q3, e⟩ := o_gd_ex e
    refine p_iald k_Lik_isSameSeen_53 (sa_Lik_1 s0) (inb_in q3) (j := ((x2 * 8) + x3).toNatClampNeg) rfl ?_
    obtain ⟨y4, u_y4, e⟩ := o_let_ex e
    refine G.vy u_y4 ?_
    refine g_icmp_eq (tgt := 59) k_Lik_isSameSeen_54 (by decide) (fun c => ?_) (fun c => ?_)
    · rw [if_pos c] at e
      refine g_iinc (v := _ + 1) k_Lik_isSameSeen_59 rfl rfl (by decide) ?_
      refine g_goto (tgt := 26) k_Lik_isSameSeen_62 (by decide) ?_
      exact (hr_26 a0 s0 x1 x2 (x3 + 1)  e)
    · rw [if_neg c] at e
      refine g_iconst (v := 0) k_Lik_isSameSeen_57 rfl ?_
      refine g_zret k_Lik_isSameSeen_58 rfl (by decide) ?_
      exact (by cases e; exact hq)
def ll_Lik_isSameSeen_26 (F : Nat) : Nat → Nat → Int32 → Int32 → Int32 → aM → Option Int32
  | 0, _, _, _, _, _ => none
  | N + 1, a0, x1, x2, x3, m => lb_Lik_isSameSeen_26 F (ll_Lik_isSameSeen_26 F N) a0 x1 x2 x3 m
theorem t_Lik_isSameSeen_26 {K : aK} {d bc bs : Nat} {g : aG} (s : Sys g) {Q : aQ} {r : Int32} (F : Nat) (m : aM) : ∀ (N : Nat) (a0 : Nat) (s0 : ShLik g a0) (x1 : Int32) (x2 : Int32) (x3 : Int32), Q (.inl (some (.int r))) (g, m) → ll_Lik_isSameSeen_26 F N a0 x1 x2 x3 m = some r → G K M_Lik_isSameSeen d bc bs 26 [.ref a0, .int x1, .int x2, .int x3] [] (g, m) Q
  | 0, _, _, _, _, _ => fun _ e => nomatch e
  | N + 1, a0, s0, x1, x2, x3 => fun hq e => tb_Lik_isSameSeen_26 s F m (ll_Lik_isSameSeen_26 F N) (fun a0 s0 x1 x2 x3 e => t_Lik_isSameSeen_26 s F m N a0 s0 x1 x2 x3 hq e) a0 s0 x1 x2 x3 hq e
def f_Lik_isSameSeen (F : Nat) (a0 : Nat) (x1 : Int32) (x2 : Int32) (m : aM) : Option Int32 :=
  (if x1 < 0 then
  some 0
  else
  (if 4096 ≤ x1 then
  some 0
  else
  (if x2 < 0 then
  some 0
  else
  (if x2 < 4096 then
  ll_Lik_isSameSeen_26 F F a0 x1 x2 0 m
  else
  some 0
  )
  )
  )
  )
theorem s_Lik_isSameSeen {K : aK} {d bc bs : Nat} {g : aG} (s : Sys g) (F : Nat) (a0 : Nat) (s0 : ShLik g a0) (x1 : Int32) (x2 : Int32) (m : aM) {r : Int32} (e : f_Lik_isSameSeen F a0 x1 x2 m = some r) : Sp K M_Lik_isSameSeen d bc bs [.ref a0, .int x1, .int x2] (g, m) (some (.int r)) (g, m) := by
  refine sp_of ok_Lik_isSameSeen rfl (Nat.le_of_ble_eq_true rfl) (by simp [Value.category]) (fun Q hq => ?_)
  unfold f_Lik_isSameSeen at e
  refine g_iload_n k_Lik_isSameSeen_0 rfl rfl ?_
  refine g_if_lt (tgt := 22) k_Lik_isSameSeen_1 (by decide) (fun c => ?_) (fun c => ?_)
  · rw [if_pos c] at e
    refine g_iconst (v := 0) k_Lik_isSameSeen_22 rfl ?_
    refine g_zret k_Lik_isSameSeen_23 rfl (by decide) ?_
    exact (by cases e; exact hq)
  · rw [if_neg c] at e
    refine g_iload_n k_Lik_isSameSeen_4 rfl rfl ?_
    refine g_sipush (v := 4096) k_Lik_isSameSeen_5 rfl ?_
    refine g_icmp_ge (tgt := 22) k_Lik_isSameSeen_8 (by decide) (fun c => ?_) (fun c => ?_)
    · rw [if_pos c] at e
      refine g_iconst (v := 0) k_Lik_isSameSeen_22 rfl ?_
      refine g_zret k_Lik_isSameSeen_23 rfl (by decide) ?_
      exact (by cases e; exact hq)
    · rw [if_neg c] at e
      refine g_iload_n k_Lik_isSameSeen_11 rfl rfl ?_
      refine g_if_lt (tgt := 22) k_Lik_isSameSeen_12 (by decide) (fun c => ?_) (fun c => ?_)
      · rw [if_pos c] at e
        refine g_iconst (v := 0) k_Lik_isSameSeen_22 rfl ?_
        refine g_zret k_Lik_isSameSeen_23 rfl (by decide) ?_
        exact (by cases e; exact hq)
      · rw [if_neg c] at e
        refine g_iload_n k_Lik_isSameSeen_15 rfl rfl ?_
        refine g_sipush (v := 4096) k_Lik_isSameSeen_16 rfl ?_
        refine g_icmp_lt (tgt := 24) k_Lik_isSameSeen_19 (by decide) (fun c => ?_) (fun c => ?_)
        · rw [if_pos c] at e
          refine g_iconst (v := 0) k_Lik_isSameSeen_24 rfl ?_
          refine g_istore_n k_Lik_isSameSeen_25 rfl (by decide) ?_
          exact (t_Lik_isSameSeen_26 s F m F a0 s0 x1 x2 0  hq e)
        · rw [if_neg c] at e
          refine g_iconst (v := 0) k_Lik_isSameSeen_22 rfl ?_
          refine g_zret k_Lik_isSameSeen_23 rfl (by decide) ?_
          exact (by cases e; exact hq)
def lb_Lik_firstLike_17 (F : Nat) (rec_17 : Nat → Int32 → Int32 → Int32 → aM → Option (Int32 × aM)) (a0 : Nat) (x1 : Int32) (x4 : Int32) (x5 : Int32) (m : aM) : Option (Int32 × aM) :=
  (if 8192 ≤ x5 then
  some (x1, m)
  else
  o_gd (inb x4 8192) <|
  o_let ((m (a0 + 1) x4.toNatClampNeg)) fun y2 =>
  (if y2 = (-1) then
  o_gd (inb x4 8192) <|
  o_let (a_st m (a0 + 1) x4.toNatClampNeg x1) fun m4 =>
  some (x1, m4)
  else
  o_b (f_Lik_isSameSeen F a0 y2 x1 m) fun y5 =>
  (if y5 = 0 then
  rec_17 a0 x1 ((x4 + 1) &&& 8191) (x5 + 1) m
  else
  some (y2, m)
  )
  )
  )
theorem tb_Lik_firstLike_17 {K : aK} {d bc bs : Nat} {g : aG} (s : Sys g) {Q : aQ} {r : Int32} {m' : aM} (F : Nat) (rec_17 : Nat → Int32 → Int32 → Int32 → aM → Option (Int32 × aM)) (hr_17 : ∀ (a0 : Nat) (s0 : ShLik g a0) (x1 : Int32) (x4 : Int32) (x5 : Int32) (m : aM), rec_17 a0 x1 x4 x5 m = some (r, m') → G K M_Lik_firstLike d bc bs 17 [.ref a0, .int x1, .double 0, .double 0, .int x4, .int x5, .double 0] [] (g, m) Q) (a0 : Nat) (s0 : ShLik g a0) (x1 : Int32) (x4 : Int32) (x5 : Int32) (m : aM) (hq : Q (.inl (some (.int r))) (g, m')) (e : lb_Lik_firstLike_17 F rec_17 a0 x1 x4 x5 m = some (r, m')) (hd : 2 ≤ d) : G K M_Lik_firstLike d bc bs 17 [.ref a0, .int x1, .double 0, .double 0, .int x4, .int x5, .double 0] [] (g, m) Q := by
  unfold lb_Lik_firstLike_17 at e
  refine g_iload k_Lik_firstLike_17 rfl ?_
  refine g_sipush (v := 8192) k_Lik_firstLike_19 rfl ?_
  refine g_icmp_ge (tgt := 79) k_Lik_firstLike_22 (by decide) (fun c => ?_) (fun c => ?_)
  · rw [if_pos c] at e
    refine g_iload_n k_Lik_firstLike_79 rfl rfl ?_
    refine g_iret k_Lik_firstLike_80 rfl ?_
    exact (by cases e; exact hq)
  · rw [if_neg c] at e
    refine g_aload_n k_Lik_firstLike_25 rfl rfl ?_
    refine p_getr k_Lik_firstLike_26 fl_Lik_11 rfl (sk_Lik s0) (by decide) (sr_Lik_0 s0) ?_
    refine g_iload k_Lik_firstLike_29 rfl ?_
    obtain ⟨q1, e⟩ := o_gd_ex e
    refine p_iald k_Lik_firstLike_31 (sa_Lik_0 s0) (inb_in q1) (j := x4.toNatClampNeg) rfl ?_
    obtain ⟨y2, u_y2, e⟩ := o_let_ex e
    refine G.vy u_y2 ?_
    refine g_istore k_Lik_firstLike_32 (by decide) ?_
    refine g_iload k_Lik_firstLike_34 rfl ?_
    refine g_iconst (v := (-1)) k_Lik_firstLike_36 rfl ?_
    refine g_icmp_ne (tgt := 50) k_Lik_firstLike_37 (by decide) (fun c => ?_) (fun c => ?_)
    · rw [if_pos c] at e
      refine g_aload_n k_Lik_firstLike_40 rfl rfl ?_
      refine p_getr k_Lik_firstLike_41 fl_Lik_11 rfl (sk_Lik s0) (by decide) (sr_Lik_0 s0) ?_
      refine g_iload k_Lik_firstLike_44 rfl ?_
      refine g_iload_n k_Lik_firstLike_46 rfl rfl ?_
      obtain ⟨q3, e⟩ := o_gd_ex e
      refine p_iast k_Lik_firstLike_47 (sa_Lik_0 s0) (inb_in q3) (j := x4.toNatClampNeg) rfl ?_
      obtain ⟨m4, u_m4, e⟩ := o_let_ex e
      refine G.hm u_m4 ?_
      refine g_iload_n k_Lik_firstLike_48 rfl rfl ?_
      refine g_iret k_Lik_firstLike_49 rfl ?_
      exact (by cases e; exact hq)
    · rw [if_neg c] at e
      refine g_aload_n k_Lik_firstLike_50 rfl rfl ?_
      refine g_iload k_Lik_firstLike_51 rfl ?_
      refine g_iload_n k_Lik_firstLike_53 rfl rfl ?_
      obtain ⟨y5, e_y5, e⟩ := o_b_ex e
      refine g_cv k_Lik_firstLike_54 lv_Lik_27 (by decide +kernel) (T := F_Lik) (N := 2) (ci := 3) rfl (sk_Lik s0) (s_Lik_isSameSeen (bc := 0) (bs := 0) s F a0 s0 y2 x1 m e_y5) rfl rfl (Nat.le_of_ble_eq_true rfl) (by simp [Value.category]) (by omega) (by omega) (by omega) ?_
      refine g_if_eq (tgt := 63) k_Lik_firstLike_57 (by decide) (fun c => ?_) (fun c => ?_)
      · rw [if_pos c] at e
        refine g_iload k_Lik_firstLike_63 rfl ?_
        refine g_iconst (v := 1) k_Lik_firstLike_65 rfl ?_
        refine g_iadd k_Lik_firstLike_66 ?_
        refine g_sipush (v := 8191) k_Lik_firstLike_67 rfl ?_
        refine g_iand k_Lik_firstLike_70 ?_
        refine g_istore k_Lik_firstLike_71 (by decide) ?_
        refine g_iinc (v := _ + 1) k_Lik_firstLike_73 rfl rfl (by decide) ?_
        refine g_goto (tgt := 17) k_Lik_firstLike_76 (by decide) ?_
        exact G.wl (wls (wls (wls (wls (wls (wls (wld wl0))))))) (hr_17 a0 s0 x1 ((x4 + 1) &&& 8191) (x5 + 1) m e)
      · rw [if_neg c] at e
        refine g_iload k_Lik_firstLike_60 rfl ?_
        refine g_iret k_Lik_firstLike_62 rfl ?_
        exact (by cases e; exact hq)
def ll_Lik_firstLike_17 (F : Nat) : Nat → Nat → Int32 → Int32 → Int32 → aM → Option (Int32 × aM)
  | 0, _, _, _, _, _ => none
  | N + 1, a0, x1, x4, x5, m => lb_Lik_firstLike_17 F (ll_Lik_firstLike_17 F N) a0 x1 x4 x5 m
theorem t_Lik_firstLike_17 {K : aK} {d bc bs : Nat} {g : aG} (s : Sys g) {Q : aQ} {r : Int32} {m' : aM} (F : Nat) : ∀ (N : Nat) (a0 : Nat) (s0 : ShLik g a0) (x1 : Int32) (x4 : Int32) (x5 : Int32) (m : aM), Q (.inl (some (.int r))) (g, m') → ll_Lik_firstLike_17 F N a0 x1 x4 x5 m = some (r, m') → 2 ≤ d → G K M_Lik_firstLike d bc bs 17 [.ref a0, .int x1, .double 0, .double 0, .int x4, .int x5, .double 0] [] (g, m) Q
  | 0, _, _, _, _, _, _ => fun _ e => nomatch e
  | N + 1, a0, s0, x1, x4, x5, m => fun hq e hd => tb_Lik_firstLike_17 s F (ll_Lik_firstLike_17 F N) (fun a0 s0 x1 x4 x5 m e => t_Lik_firstLike_17 s F N a0 s0 x1 x4 x5 m hq e hd) a0 s0 x1 x4 x5 m hq e hd
def f_Lik_firstLike (F : Nat) (a0 : Nat) (x1 : Int32) (a2 : Nat) (a3 : Nat) (m : aM) : Option (Int32 × aM) :=
  o_b2 (f_Lik_keepSeen a0 x1 a2 a3 m) fun y1 m2 =>
  o_b (f_Lik_placeOf F a2 a3 m2) fun y3 =>
  ll_Lik_firstLike_17 F F a0 x1 y3 0 m2
theorem s_Lik_firstLike {K : aK} {d bc bs : Nat} {g : aG} (s : Sys g) (F : Nat) (a0 : Nat) (s0 : ShLik g a0) (x1 : Int32) (a2 : Nat) (h2 : g.2.1 a2 = (0, 4)) (a3 : Nat) (h3 : g.2.1 a3 = (0, 4)) (m : aM) {r : Int32} {m' : aM} (e : f_Lik_firstLike F a0 x1 a2 a3 m = some (r, m')) (hd : 2 ≤ d) : Sp K M_Lik_firstLike d bc bs [.ref a0, .int x1, .ref a2, .ref a3] (g, m) (some (.int r)) (g, m') := by
  refine sp_of ok_Lik_firstLike rfl (Nat.le_of_ble_eq_true rfl) (by simp [Value.category]) (fun Q hq => ?_)
  unfold f_Lik_firstLike at e
  refine g_aload_n k_Lik_firstLike_0 rfl rfl ?_
  refine g_iload_n k_Lik_firstLike_1 rfl rfl ?_
  refine g_aload_n k_Lik_firstLike_2 rfl rfl ?_
  refine g_aload_n k_Lik_firstLike_3 rfl rfl ?_
  obtain ⟨y1, m2, e_y1, e⟩ := o_b2_ex e
  refine g_cv k_Lik_firstLike_4 lv_Lik_19 (by decide +kernel) (T := F_Lik) (N := 2) (ci := 3) rfl (sk_Lik s0) (s_Lik_keepSeen (bc := 0) (bs := 0) s a0 s0 x1 a2 h2 a3 h3 m e_y1 (by omega)) rfl rfl (Nat.le_of_ble_eq_true rfl) (by simp [Value.category]) (by omega) (by omega) (by omega) ?_
  refine g_aload_n k_Lik_firstLike_7 rfl rfl ?_
  refine g_aload_n k_Lik_firstLike_8 rfl rfl ?_
  obtain ⟨y3, e_y3, e⟩ := o_b_ex e
  refine g_cs k_Lik_firstLike_9 ls_Lik_23 (by decide +kernel) (s_Lik_placeOf (bc := 0) (bs := 0) s F a2 h2 a3 h3 m2 e_y3) rfl rfl (Nat.le_of_ble_eq_true rfl) (by simp [Value.category]) (by omega) (by omega) (by omega) ?_
  refine g_istore k_Lik_firstLike_12 (by decide) ?_
  refine g_iconst (v := 0) k_Lik_firstLike_14 rfl ?_
  refine g_istore k_Lik_firstLike_15 (by decide) ?_
  exact G.wl (wls (wls (wld (wld (wls (wls (wls wl0))))))) (t_Lik_firstLike_17 s F F a0 s0 x1 y3 0 m2 hq e hd)
