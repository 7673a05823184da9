/-! THE BOX: what is lost, from behind the making of Likes (made by wip/gen/al.py) -/
def b_Box_lostLetters_119 (F : Nat) (rec_34 : Nat → Int32 → Int32 → Int32 → aM → Option (Int32 × aM)) (rec_75 : Nat → Int32 → Int32 → Int32 → Int32 → aM → Option (Int32 × aM)) (a0 : Nat) (x1 : Int32) (x3 : Int32) (x5 : Int32) (xt0 : Int32) (xt1 : Int32) (m : aM) : Option (Int32 × aM) :=
  rec_75 a0 x1 (xt1 ||| xt0) x3 (x5 + 1) m
theorem t_Box_lostLetters_119 {K : aK} {d bc bs : Nat} {g : aG} (s : Sys g) {Q : aQ} {r : Int32} {m' : aM} (F : Nat) (rec_34 : Nat → Int32 → Int32 → Int32 → aM → Option (Int32 × aM)) (hr_34 : ∀ (a0 : Nat) (s0 : ShLik g a0) (hl : g.2.2.1 21 8 = some a0) (x1 : Int32) (x2 : Int32) (x3 : Int32) (m : aM), rec_34 a0 x1 x2 x3 m = some (r, m') → G K M_Box_lostLetters d bc bs 34 [.ref 21, .int x1, .int x2, .int x3, .double 0, .double 0] [] (g, m) Q) (rec_75 : Nat → Int32 → Int32 → Int32 → Int32 → aM → Option (Int32 × aM)) (hr_75 : ∀ (a0 : Nat) (s0 : ShLik g a0) (hl : g.2.2.1 21 8 = some a0) (x1 : Int32) (x2 : Int32) (x3 : Int32) (x5 : Int32) (m : aM), rec_75 a0 x1 x2 x3 x5 m = some (r, m') → G K M_Box_lostLetters d bc bs 75 [.ref 21, .int x1, .int x2, .int x3, .double 0, .int x5] [] (g, m) Q) (a0 : Nat) (s0 : ShLik g a0) (hl : g.2.2.1 21 8 = some a0) (x1 : Int32) (x3 : Int32) (x5 : Int32) (xt0 : Int32) (xt1 : Int32) (m : aM) (hq : Q (.inl (some (.int r))) (g, m')) (e : b_Box_lostLetters_119 F rec_34 rec_75 a0 x1 x3 x5 xt0 xt1 m = some (r, m')) (hd : 4 ≤ d) : G K M_Box_lostLetters d bc bs 119 [.ref 21, .int x1, .double 0, .int x3, .double 0, .int x5] [.int xt0, .int xt1] (g, m) Q := by
  unfold b_Box_lostLetters_119 at e
  refine g_ior k_Box_lostLetters_119 ?_
  refine g_istore_n k_Box_lostLetters_120 rfl (by decide) ?_
  refine g_iinc (v := _ + 1) k_Box_lostLetters_121 rfl rfl (by decide) ?_
  refine g_goto (tgt := 75) k_Box_lostLetters_124 (by decide) ?_
  exact (hr_75 a0 s0 hl x1 (xt1 ||| xt0) x3 (x5 + 1) m e)
def b_Box_lostLetters_118 (F : Nat) (rec_34 : Nat → Int32 → Int32 → Int32 → aM → Option (Int32 × aM)) (rec_75 : Nat → Int32 → Int32 → Int32 → Int32 → aM → Option (Int32 × aM)) (a0 : Nat) (x1 : Int32) (x3 : Int32) (x5 : Int32) (xt0 : Int32) (m : aM) : Option (Int32 × aM) :=
  b_Box_lostLetters_119 F rec_34 rec_75 a0 x1 x3 x5 0 xt0 m
theorem t_Box_lostLetters_118 {K : aK} {d bc bs : Nat} {g : aG} (s : Sys g) {Q : aQ} {r : Int32} {m' : aM} (F : Nat) (rec_34 : Nat → Int32 → Int32 → Int32 → aM → Option (Int32 × aM)) (hr_34 : ∀ (a0 : Nat) (s0 : ShLik g a0) (hl : g.2.2.1 21 8 = some a0) (x1 : Int32) (x2 : Int32) (x3 : Int32) (m : aM), rec_34 a0 x1 x2 x3 m = some (r, m') → G K M_Box_lostLetters d bc bs 34 [.ref 21, .int x1, .int x2, .int x3, .double 0, .double 0] [] (g, m) Q) (rec_75 : Nat → Int32 → Int32 → Int32 → Int32 → aM → Option (Int32 × aM)) (hr_75 : ∀ (a0 : Nat) (s0 : ShLik g a0) (hl : g.2.2.1 21 8 = some a0) (x1 : Int32) (x2 : Int32) (x3 : Int32) (x5 : Int32) (m : aM), rec_75 a0 x1 x2 x3 x5 m = some (r, m') → G K M_Box_lostLetters d bc bs 75 [.ref 21, .int x1, .int x2, .int x3, .double 0, .int x5] [] (g, m) Q) (a0 : Nat) (s0 : ShLik g a0) (hl : g.2.2.1 21 8 = some a0) (x1 : Int32) (x3 : Int32) (x5 : Int32) (xt0 : Int32) (m : aM) (hq : Q (.inl (some (.int r))) (g, m')) (e : b_Box_lostLetters_118 F rec_34 rec_75 a0 x1 x3 x5 xt0 m = some (r, m')) (hd : 4 ≤ d) : G K M_Box_lostLetters d bc bs 118 [.ref 21, .int x1, .double 0, .int x3, .double 0, .int x5] [.int xt0] (g, m) Q := by
  unfold b_Box_lostLetters_118 at e
  refine g_iconst (v := 0) k_Box_lostLetters_118 rfl ?_
  exact (t_Box_lostLetters_119 s F rec_34 hr_34 rec_75 hr_75 a0 s0 hl x1 x3 x5 0 xt0 m hq e hd)
def lb_Box_lostLetters_75 (F : Nat) (rec_34 : Nat → Int32 → Int32 → Int32 → aM → Option (Int32 × aM)) (rec_75 : Nat → Int32 → Int32 → Int32 → Int32 → aM → Option (Int32 × aM)) (a0 : Nat) (x1 : Int32) (x2 : Int32) (x3 : Int32) (x5 : Int32) (m : aM) : Option (Int32 × aM) :=
  (if 4 ≤ x5 then
  rec_34 a0 x1 x2 (x3 + 1) m
  else
  o_b (f_Len_isKept 2 x5 m) fun y1 =>
  (if y1 = 0 then
  o_gd (inb x5 4) <|
  o_gd (inb x5 4) <|
  (if (m 27 x5.toNatClampNeg) = (m 24 x5.toNatClampNeg) then
  b_Box_lostLetters_118 F rec_34 rec_75 a0 x1 x3 x5 x2 m
  else
  o_let (((1 : Int32) <<< (x5 &&& 31))) fun y4 =>
  b_Box_lostLetters_119 F rec_34 rec_75 a0 x1 x3 x5 y4 x2 m
  )
  else
  b_Box_lostLetters_118 F rec_34 rec_75 a0 x1 x3 x5 x2 m
  )
  )
theorem tb_Box_lostLetters_75 {K : aK} {d bc bs : Nat} {g : aG} (s : Sys g) {Q : aQ} {r : Int32} {m' : aM} (F : Nat) (rec_34 : Nat → Int32 → Int32 → Int32 → aM → Option (Int32 × aM)) (hr_34 : ∀ (a0 : Nat) (s0 : ShLik g a0) (hl : g.2.2.1 21 8 = some a0) (x1 : Int32) (x2 : Int32) (x3 : Int32) (m : aM), rec_34 a0 x1 x2 x3 m = some (r, m') → G K M_Box_lostLetters d bc bs 34 [.ref 21, .int x1, .int x2, .int x3, .double 0, .double 0] [] (g, m) Q) (rec_75 : Nat → Int32 → Int32 → Int32 → Int32 → aM → Option (Int32 × aM)) (hr_75 : ∀ (a0 : Nat) (s0 : ShLik g a0) (hl : g.2.2.1 21 8 = some a0) (x1 : Int32) (x2 : Int32) (x3 : Int32) (x5 : Int32) (m : aM), rec_75 a0 x1 x2 x3 x5 m = some (r, m') → G K M_Box_lostLetters d bc bs 75 [.ref 21, .int x1, .int x2, .int x3, .double 0, .int x5] [] (g, m) Q) (a0 : Nat) (s0 : ShLik g a0) (hl : g.2.2.1 21 8 = some a0) (x1 : Int32) (x2 : Int32) (x3 : Int32) (x5 : Int32) (m : aM) (hq : Q (.inl (some (.int r))) (g, m')) (e : lb_Box_lostLetters_75 F rec_34 rec_75 a0 x1 x2 x3 x5 m = some (r, m')) (hd : 4 ≤ d) : G K M_Box_lostLetters d bc bs 75 [.ref 21, .int x1, .int x2, .int x3, .double 0, .int x5] [] (g, m) Q := by
  unfold lb_Box_lostLetters_75 at e
  refine g_iload k_Box_lostLetters_75 rfl ?_
  refine g_iconst (v := 4) k_Box_lostLetters_77 rfl ?_
  refine g_icmp_ge (tgt := 127) k_Box_lostLetters_78 (by decide) (fun c => ?_) (fun c => ?_)
  · rw [if_pos c] at e
    refine g_iinc (v := _ + 1) k_Box_lostLetters_127 rfl rfl (by decide) ?_
    refine g_goto (tgt := 34) k_Box_lostLetters_130 (by decide) ?_
    exact G.wl (wls (wls (wls (wls (wls (wld wl0)))))) (hr_34 a0 s0 hl x1 x2 (x3 + 1) m e)
  · rw [if_neg c] at e
    refine g_iload_n k_Box_lostLetters_81 rfl rfl ?_
    refine g_aload_n k_Box_lostLetters_82 rfl rfl ?_
    refine p_getr k_Box_lostLetters_83 fl_Box_33 rfl (sk_Box (sy_Box s)) (by decide) (sr_Box_0 s) ?_
    refine g_iload k_Box_lostLetters_86 rfl ?_
    obtain ⟨y1, e_y1, e⟩ := o_b_ex e
    refine g_cv k_Box_lostLetters_88 lv_Box_74 (by decide +kernel) (T := F_Len) (N := 11) (ci := 2) rfl (sk_Len (sy_len s)) (s_Len_isKept (bc := 0) (bs := 0) s 2 (sy_len s) x5 m e_y1) rfl rfl (Nat.le_of_ble_eq_true rfl) (by simp [Value.category]) (by omega) (by omega) (by omega) ?_
    refine g_if_ne (tgt := 118) k_Box_lostLetters_91 (by decide) (fun c => ?_) (fun c => ?_)
    · rw [if_pos c] at e
      refine g_aload_n k_Box_lostLetters_94 rfl rfl ?_
      refine p_getr k_Box_lostLetters_95 fl_Box_27 rfl (sk_Box (sy_Box s)) (by decide) (sr_Box_6 (sy_Box s)) ?_
      refine g_iload k_Box_lostLetters_98 rfl ?_
      obtain ⟨q2, e⟩ := o_gd_ex e
      refine p_iald k_Box_lostLetters_100 (sa_Box_6 (sy_Box s)) (inb_in q2) (j := x5.toNatClampNeg) rfl ?_
      refine g_aload_n k_Box_lostLetters_101 rfl rfl ?_
      refine p_getr k_Box_lostLetters_102 fl_Box_18 rfl (sk_Box (sy_Box s)) (by decide) (sr_Box_3 (sy_Box s)) ?_
      refine g_iload k_Box_lostLetters_105 rfl ?_
      obtain ⟨q3, e⟩ := o_gd_ex e
      refine p_iald k_Box_lostLetters_107 (sa_Box_3 (sy_Box s)) (inb_in q3) (j := x5.toNatClampNeg) rfl ?_
      refine g_icmp_eq (tgt := 118) k_Box_lostLetters_108 (by decide) (fun c => ?_) (fun c => ?_)
      · rw [if_pos c] at e
        exact G.wl (wls (wls (wld (wls (wls (wls wl0)))))) (t_Box_lostLetters_118 s F rec_34 hr_34 rec_75 hr_75 a0 s0 hl x1 x3 x5 x2 m hq e hd)
      · rw [if_neg c] at e
        refine g_iconst (v := 1) k_Box_lostLetters_111 rfl ?_
        refine g_iload k_Box_lostLetters_112 rfl ?_
        refine g_ishl k_Box_lostLetters_114 ?_
        obtain ⟨y4, u_y4, e⟩ := o_let_ex e
        refine G.vy u_y4 ?_
        refine g_goto (tgt := 119) k_Box_lostLetters_115 (by decide) ?_
        exact G.wl (wls (wls (wld (wls (wls (wls wl0)))))) (t_Box_lostLetters_119 s F rec_34 hr_34 rec_75 hr_75 a0 s0 hl x1 x3 x5 y4 x2 m hq e hd)
    · rw [if_neg c] at e
      exact G.wl (wls (wls (wld (wls (wls (wls wl0)))))) (t_Box_lostLetters_118 s F rec_34 hr_34 rec_75 hr_75 a0 s0 hl x1 x3 x5 x2 m hq e hd)
def ll_Box_lostLetters_75 (F : Nat) (rec_34 : Nat → Int32 → Int32 → Int32 → aM → Option (Int32 × aM)) : Nat → Nat → Int32 → Int32 → Int32 → Int32 → aM → Option (Int32 × aM)
  | 0, _, _, _, _, _, _ => none
  | N + 1, a0, x1, x2, x3, x5, m => lb_Box_lostLetters_75 F rec_34 (ll_Box_lostLetters_75 F rec_34 N) a0 x1 x2 x3 x5 m
theorem t_Box_lostLetters_75 {K : aK} {d bc bs : Nat} {g : aG} (s : Sys g) {Q : aQ} {r : Int32} {m' : aM} (F : Nat) (rec_34 : Nat → Int32 → Int32 → Int32 → aM → Option (Int32 × aM)) (hr_34 : ∀ (a0 : Nat) (s0 : ShLik g a0) (hl : g.2.2.1 21 8 = some a0) (x1 : Int32) (x2 : Int32) (x3 : Int32) (m : aM), rec_34 a0 x1 x2 x3 m = some (r, m') → G K M_Box_lostLetters d bc bs 34 [.ref 21, .int x1, .int x2, .int x3, .double 0, .double 0] [] (g, m) Q) : ∀ (N : Nat) (a0 : Nat) (s0 : ShLik g a0) (hl : g.2.2.1 21 8 = some a0) (x1 : Int32) (x2 : Int32) (x3 : Int32) (x5 : Int32) (m : aM), Q (.inl (some (.int r))) (g, m') → ll_Box_lostLetters_75 F rec_34 N a0 x1 x2 x3 x5 m = some (r, m') → 4 ≤ d → G K M_Box_lostLetters d bc bs 75 [.ref 21, .int x1, .int x2, .int x3, .double 0, .int x5] [] (g, m) Q
  | 0, _, _, _, _, _, _, _, _ => fun _ e => nomatch e
  | N + 1, a0, s0, hl, x1, x2, x3, x5, m => fun hq e hd => tb_Box_lostLetters_75 s F rec_34 hr_34 (ll_Box_lostLetters_75 F rec_34 N) (fun a0 s0 hl x1 x2 x3 x5 m e => t_Box_lostLetters_75 s F rec_34 hr_34 N a0 s0 hl x1 x2 x3 x5 m hq e hd) a0 s0 hl x1 x2 x3 x5 m hq e hd
def lb_Box_lostLetters_34 (F : Nat) (rec_34 : Nat → Int32 → Int32 → Int32 → aM → Option (Int32 × aM)) (a0 : Nat) (x1 : Int32) (x2 : Int32) (x3 : Int32) (m : aM) : Option (Int32 × aM) :=
  (if x1 ≤ x3 then
  some (x2, m)
  else
  o_b2 (f_Box_seeRow F x3 m) fun y1 m2 =>
  o_b2 (f_Lik_firstLike F a0 x3 25 26 m2) fun y3 m4 =>
  o_b2 (f_Box_fillRow F y3 27 m4) fun y5 m6 =>
  ll_Box_lostLetters_75 F rec_34 F a0 x1 x2 x3 0 m6
  )
theorem tb_Box_lostLetters_34 {K : aK} {d bc bs : Nat} {g : aG} (s : Sys g) {Q : aQ} {r : Int32} {m' : aM} (F : Nat) (rec_34 : Nat → Int32 → Int32 → Int32 → aM → Option (Int32 × aM)) (hr_34 : ∀ (a0 : Nat) (s0 : ShLik g a0) (hl : g.2.2.1 21 8 = some a0) (x1 : Int32) (x2 : Int32) (x3 : Int32) (m : aM), rec_34 a0 x1 x2 x3 m = some (r, m') → G K M_Box_lostLetters d bc bs 34 [.ref 21, .int x1, .int x2, .int x3, .double 0, .double 0] [] (g, m) Q) (a0 : Nat) (s0 : ShLik g a0) (hl : g.2.2.1 21 8 = some a0) (x1 : Int32) (x2 : Int32) (x3 : Int32) (m : aM) (hq : Q (.inl (some (.int r))) (g, m')) (e : lb_Box_lostLetters_34 F rec_34 a0 x1 x2 x3 m = some (r, m')) (hd : 4 ≤ d) : G K M_Box_lostLetters d bc bs 34 [.ref 21, .int x1, .int x2, .int x3, .double 0, .double 0] [] (g, m) Q := by
  unfold lb_Box_lostLetters_34 at e
  refine g_iload_n k_Box_lostLetters_34 rfl rfl ?_
  refine g_iload_n k_Box_lostLetters_35 rfl rfl ?_
  refine g_icmp_ge (tgt := 133) k_Box_lostLetters_36 (by decide) (fun c => ?_) (fun c => ?_)
  · rw [if_pos c] at e
    refine g_iload_n k_Box_lostLetters_133 rfl rfl ?_
    refine g_iret k_Box_lostLetters_134 rfl ?_
    exact (by cases e; exact hq)
  · rw [if_neg c] at e
    refine g_aload_n k_Box_lostLetters_39 rfl rfl ?_
    refine g_iload_n k_Box_lostLetters_40 rfl rfl ?_
    obtain ⟨y1, m2, e_y1, e⟩ := o_b2_ex e
    refine g_cv k_Box_lostLetters_41 lv_Box_50 (by decide +kernel) (T := F_Box) (N := 9) (ci := 1) rfl (sk_Box (sy_Box s)) (s_Box_seeRow (bc := 0) (bs := 0) s F x3 m e_y1 (by omega)) rfl rfl (Nat.le_of_ble_eq_true rfl) (by simp [Value.category]) (by omega) (by omega) (by omega) ?_
    refine g_aload_n k_Box_lostLetters_44 rfl rfl ?_
    refine p_getr k_Box_lostLetters_45 fl_Box_37 rfl (sk_Box (sy_Box s)) (by decide) hl ?_
    refine g_iload_n k_Box_lostLetters_48 rfl rfl ?_
    refine g_aload_n k_Box_lostLetters_49 rfl rfl ?_
    refine p_getr k_Box_lostLetters_50 fl_Box_21 rfl (sk_Box (sy_Box s)) (by decide) (sr_Box_4 (sy_Box s)) ?_
    refine g_aload_n k_Box_lostLetters_53 rfl rfl ?_
    refine p_getr k_Box_lostLetters_54 fl_Box_24 rfl (sk_Box (sy_Box s)) (by decide) (sr_Box_5 (sy_Box s)) ?_
    obtain ⟨y3, m4, e_y3, e⟩ := o_b2_ex e
    refine g_cv k_Box_lostLetters_57 lv_Box_66 (by decide +kernel) (T := F_Lik) (N := 2) (ci := 3) rfl (sk_Lik s0) (s_Lik_firstLike (bc := 0) (bs := 0) s F a0 s0 x3 25 (sa_Box_4 (sy_Box s)) 26 (sa_Box_5 (sy_Box s)) m2 e_y3 (by omega)) rfl rfl (Nat.le_of_ble_eq_true rfl) (by simp [Value.category]) (by omega) (by omega) (by omega) ?_
    refine g_istore k_Box_lostLetters_60 (by decide) ?_
    refine g_aload_n k_Box_lostLetters_62 rfl rfl ?_
    refine g_iload k_Box_lostLetters_63 rfl ?_
    refine g_aload_n k_Box_lostLetters_65 rfl rfl ?_
    refine p_getr k_Box_lostLetters_66 fl_Box_27 rfl (sk_Box (sy_Box s)) (by decide) (sr_Box_6 (sy_Box s)) ?_
    obtain ⟨y5, m6, e_y5, e⟩ := o_b2_ex e
    refine g_cv k_Box_lostLetters_69 lv_Box_70 (by decide +kernel) (T := F_Box) (N := 9) (ci := 1) rfl (sk_Box (sy_Box s)) (s_Box_fillRow (bc := 0) (bs := 0) s F y3 27 (sa_Box_6 (sy_Box s)) m4 e_y5 (by omega)) rfl rfl (Nat.le_of_ble_eq_true rfl) (by simp [Value.category]) (by omega) (by omega) (by omega) ?_
    refine g_iconst (v := 0) k_Box_lostLetters_72 rfl ?_
    refine g_istore k_Box_lostLetters_73 (by decide) ?_
    exact G.wl (wls (wls (wls (wls (wld (wls wl0)))))) (t_Box_lostLetters_75 s F rec_34 hr_34 F a0 s0 hl x1 x2 x3 0 m6 hq e hd)
def ll_Box_lostLetters_34 (F : Nat) : Nat → Nat → Int32 → Int32 → Int32 → aM → Option (Int32 × aM)
  | 0, _, _, _, _, _ => none
  | N + 1, a0, x1, x2, x3, m => lb_Box_lostLetters_34 F (ll_Box_lostLetters_34 F N) a0 x1 x2 x3 m
theorem t_Box_lostLetters_34 {K : aK} {d bc bs : Nat} {g : aG} (s : Sys g) {Q : aQ} {r : Int32} {m' : aM} (F : Nat) : ∀ (N : Nat) (a0 : Nat) (s0 : ShLik g a0) (hl : g.2.2.1 21 8 = some a0) (x1 : Int32) (x2 : Int32) (x3 : Int32) (m : aM), Q (.inl (some (.int r))) (g, m') → ll_Box_lostLetters_34 F N a0 x1 x2 x3 m = some (r, m') → 4 ≤ d → G K M_Box_lostLetters d bc bs 34 [.ref 21, .int x1, .int x2, .int x3, .double 0, .double 0] [] (g, m) Q
  | 0, _, _, _, _, _, _, _ => fun _ e => nomatch e
  | N + 1, a0, s0, hl, x1, x2, x3, m => fun hq e hd => tb_Box_lostLetters_34 s F (ll_Box_lostLetters_34 F N) (fun a0 s0 hl x1 x2 x3 m e => t_Box_lostLetters_34 s F N a0 s0 hl x1 x2 x3 m hq e hd) a0 s0 hl x1 x2 x3 m hq e hd
def b_Box_lostLetters_18 (F : Nat) (a0 : Nat) (m : aM) : Option (Int32 × aM) :=
  o_b2 (f_Lik_forget F a0 m) fun y1 m2 =>
  o_b (f_Box_manyBoxed F  m2) fun y3 =>
  ll_Box_lostLetters_34 F F a0 y3 0 0 m2
theorem t_Box_lostLetters_18 {K : aK} {d bc bs : Nat} {g : aG} (s : Sys g) {Q : aQ} {r : Int32} {m' : aM} (F : Nat) (a0 : Nat) (s0 : ShLik g a0) (hl : g.2.2.1 21 8 = some a0) (m : aM) (hq : Q (.inl (some (.int r))) (g, m')) (e : b_Box_lostLetters_18 F a0 m = some (r, m')) (hd : 4 ≤ d) : G K M_Box_lostLetters d bc bs 18 [.ref 21, .double 0, .double 0, .double 0, .double 0, .double 0] [] (g, m) Q := by
  unfold b_Box_lostLetters_18 at e
  refine g_aload_n k_Box_lostLetters_18 rfl rfl ?_
  refine p_getr k_Box_lostLetters_19 fl_Box_37 rfl (sk_Box (sy_Box s)) (by decide) hl ?_
  obtain ⟨y1, m2, e_y1, e⟩ := o_b2_ex e
  refine g_cv k_Box_lostLetters_22 lv_Box_63 (by decide +kernel) (T := F_Lik) (N := 2) (ci := 3) rfl (sk_Lik s0) (s_Lik_forget (bc := 0) (bs := 0) s F a0 s0 m e_y1) rfl rfl (Nat.le_of_ble_eq_true rfl) (by simp [Value.category]) (by omega) (by omega) (by omega) ?_
  refine g_aload_n k_Box_lostLetters_25 rfl rfl ?_
  obtain ⟨y3, e_y3, e⟩ := o_b_ex e
  refine g_cv k_Box_lostLetters_26 lv_Box_41 (by decide +kernel) (T := F_Box) (N := 9) (ci := 1) rfl (sk_Box (sy_Box s)) (s_Box_manyBoxed (bc := 0) (bs := 0) s F  m2 e_y3 (by omega)) rfl rfl (Nat.le_of_ble_eq_true rfl) (by simp [Value.category]) (by omega) (by omega) (by omega) ?_
  refine g_istore_n k_Box_lostLetters_29 rfl (by decide) ?_
  refine g_iconst (v := 0) k_Box_lostLetters_30 rfl ?_
  refine g_istore_n k_Box_lostLetters_31 rfl (by decide) ?_
  refine g_iconst (v := 0) k_Box_lostLetters_32 rfl ?_
  refine g_istore_n k_Box_lostLetters_33 rfl (by decide) ?_
  exact (t_Box_lostLetters_34 s F F a0 s0 hl y3 0 0 m2 hq e hd)
