/-! WHAT MAKES ARRAYS in the reference: the fields LedTables.ways and Box.likes stay (made by wip/gen/exs.py) -/
def ExS (g g' : aG) : Prop := g.1 ≤ g'.1 ∧ Ext g g' ∧ g'.2.2.1 0 7 = g.2.2.1 0 7 ∧ g'.2.2.1 21 8 = g.2.2.1 21 8
theorem ExS.rf {g : aG} : ExS g g := ⟨Nat.le_refl _, Ext.rf, rfl, rfl⟩
def ExL (g g' : aG) : Prop := g.1 ≤ g'.1 ∧ Ext g g' ∧ g'.2.2.1 0 7 = g.2.2.1 0 7 ∧ g'.2.2.1 21 8 = g.2.2.1 21 8 ∧ ∀ a j, a < g.1 → g'.2.2.2 a j = g.2.2.2 a j
theorem ExL.s {g g' : aG} (x : ExL g g') : ExS g g' := ⟨x.1, x.2.1, x.2.2.1, x.2.2.2.1⟩
theorem ExL.rf {g : aG} : ExL g g := ⟨Nat.le_refl _, Ext.rf, rfl, rfl, fun _ _ _ => rfl⟩
theorem ExL.tr {g g1 g2 : aG} (x : ExL g g1) (y : ExL g1 g2) : ExL g g2 := ⟨Nat.le_trans x.1 y.1, x.2.1.tr y.2.1, y.2.2.1.trans x.2.2.1, y.2.2.2.1.trans x.2.2.2.1, fun a j h => (y.2.2.2.2 a j (Nat.lt_of_lt_of_le h x.1)).trans (x.2.2.2.2 a j h)⟩
theorem ExL.mk {g : aG} {m : aM} {t : Nat × Nat} (hb : 8692 ≤ g.1) : ExL g (h_n (g, m) t).1 := ⟨Nat.le_succ _, Ext.new, by simp [h_n, show ¬ (0 = g.1) by omega], by simp [h_n, show ¬ (21 = g.1) by omega], fun a j h => by simp [h_n, Nat.ne_of_lt h]⟩
theorem al_newX {K : aK} {M : aMI} {d bc bs pc z : Nat} {L S : List Value} {g : aG} {m : aM} {Q : aQ} {atype : ArrayType} {t N : Nat} {n : Int32} (s : SyM g) (hz : g.1 = z) (hb : 8692 ≤ g.1) (hd : decode M.2.1 pc = .ok (.newarray atype, 2)) (hty : newarray.typeOf atype = a_aty t) (ht : t < 3) (hw : Cond.arrayClass (a_aty t) ∈ a_w0) (hn : ¬ n < 0) (hN : n.toNatClampNeg = N) (hB : N ≤ 60000000) (hc : 1 ≤ bc) (hs : N ≤ bs) (k' : ∀ g1 : aG, SyM g1 → ExL g g1 → g1.1 = z + 1 → g1.2.1 z = (t, N) → G K M d (bc - 1) (bs - N) (pc + 2) L (.ref z :: S) (g1, a_zr m z) Q) : G K M d bc bs pc L (.int n :: S) (g, m) Q := by
  subst hz
  refine g_newa hd hty ht hw hn hN hB hc hs ?_
  exact k' (h_n (g, m) (t, N)).1 (s.ext Ext.new hb) (ExL.mk hb) rfl (by simp [h_n])
theorem sp_alX {K : aK} {M : aMI} {d bc bs z : Nat} {av : List Value} {g : aG} {m m' : aM} {v : Option Value} (ok : a_ok M) (hh : M.2.2.2.2.2 = []) (hl : av.length ≤ M.2.2.1) (hc : ∀ v ∈ av, v.category = 1) (k : ∀ Q : aQ, (∀ g', ExL g g' → g'.1 = z → Q (.inl v) (g', m')) → G K M d bc bs 0 (a_L0 M av) [] (g, m) Q) : SpR K M d bc bs av (g, m) (fun v' h' => ∃ g', ExL g g' ∧ g'.1 = z ∧ v' = v ∧ h' = (g', m')) := fun Q hq => run_of ok hh hl hc (k Q (fun g' x hz => hq _ _ ⟨g', x, hz, rfl, rfl⟩))
theorem tb_Mod_writeNew_116X {K : aK} {d bc bs : Nat} {g : aG} (s : SyM g) {Q : aQ} {r : Int32 × Nat} {m' : aM} (F : Nat) (rec_116 : Nat → Int32 → Nat → Int32 → aM → Option ((Int32 × Nat) × aM)) (hr_116 : ∀ (z : Nat) (hz : g.1 = z) (hb : 8692 ≤ g.1) (x1 : Int32) (a4 : Nat) (h4 : g.2.1 a4 = (0, 4)) (l4 : a4 < g.1) (x5 : Int32) (m : aM), rec_116 z x1 a4 x5 m = some (r, m') → G K M_Mod_writeNew d bc bs 116 [.ref 242, .int x1, .double 0, .double 0, .ref a4, .int x5, .double 0] [] (g, m) Q) (z : Nat) (hz : g.1 = z) (hb : 8692 ≤ g.1) (x1 : Int32) (a4 : Nat) (h4 : g.2.1 a4 = (0, 4)) (l4 : a4 < g.1) (x5 : Int32) (m : aM) (hq : (∀ g', ExL g g' → g'.1 = r.2 → Q (.inl none) (g', m'))) (e : lb_Mod_writeNew_116 F rec_116 z x1 a4 x5 m = some (r, m')) (hd : 401 ≤ d) : G K M_Mod_writeNew d bc bs 116 [.ref 242, .int x1, .double 0, .double 0, .ref a4, .int x5, .double 0] [] (g, m) Q := by
  unfold lb_Mod_writeNew_116 at e
  refine g_iload k_Mod_writeNew_116 rfl ?_
  refine g_iconst (v := 4) k_Mod_writeNew_118 rfl ?_
  refine g_icmp_ge (tgt := 142) k_Mod_writeNew_119 (by decide) (fun c => ?_) (fun c => ?_)
  · rw [if_pos c] at e
    refine g_aload_n k_Mod_writeNew_142 rfl rfl ?_
    refine p_getr k_Mod_writeNew_143 fl_Mod_102 rfl (sk_Mod s) (by decide) (sr_Mod_52 s) ?_
    refine g_iload_n k_Mod_writeNew_146 rfl rfl ?_
    obtain ⟨q1, e⟩ := o_gd_ex e
    refine p_iald k_Mod_writeNew_147 (sa_Mod_52 s) (inb_in q1) (j := x1.toNatClampNeg) rfl ?_
    refine g_iconst (v := 1) k_Mod_writeNew_148 rfl ?_
    refine g_icmp_ne (tgt := 165) k_Mod_writeNew_149 (by decide) (fun c => ?_) (fun c => ?_)
    · rw [if_pos c] at e
      refine g_aload_n k_Mod_writeNew_152 rfl rfl ?_
      refine g_iload_n k_Mod_writeNew_153 rfl rfl ?_
      refine g_aload k_Mod_writeNew_154 rfl ?_
      refine g_aload_n k_Mod_writeNew_156 rfl rfl ?_
      refine p_getr k_Mod_writeNew_157 fl_Mod_117 rfl (sk_Mod s) (by decide) (sr_Mod_57 s) ?_
      refine g_iload_n k_Mod_writeNew_160 rfl rfl ?_
      obtain ⟨q2, e⟩ := o_gd_ex e
      refine p_aald k_Mod_writeNew_161 (sa_Mod_57 s) (by decide) (by decide) (inb_in q2) (j := x1.toNatClampNeg) rfl (si_Mod_57 s _ (vp_lt (inb_in q2))).1 ?_
      obtain ⟨y3, m4, e_y3, e⟩ := o_b2_ex e
      refine g_cv k_Mod_writeNew_162 lv_Mod_393 (by decide +kernel) (T := F_Mod) (N := 61) (ci := 10) rfl (sk_Mod s) (s_Mod_takesPut (bc := 0) (bs := 0) s F x1 a4 h4 (8561 + x1.toNatClampNeg) ((si_Mod_57 s _ (vp_lt (inb_in q2))).2) m e_y3 (by omega)) rfl rfl (Nat.le_of_ble_eq_true rfl) (by simp [Value.category]) (by omega) (by omega) (by omega) ?_
      refine g_vret k_Mod_writeNew_165 rfl ?_
      exact (by cases e; exact hq _ ExL.rf hz)
    · rw [if_neg c] at e
      refine g_vret k_Mod_writeNew_165 rfl ?_
      exact (by cases e; exact hq _ ExL.rf hz)
  · rw [if_neg c] at e
    refine g_aload_n k_Mod_writeNew_122 rfl rfl ?_
    refine p_getr k_Mod_writeNew_123 fl_Mod_114 rfl (sk_Mod s) (by decide) (sr_Mod_56 s) ?_
    refine g_iload_n k_Mod_writeNew_126 rfl rfl ?_
    obtain ⟨q5, e⟩ := o_gd_ex e
    refine p_aald k_Mod_writeNew_127 (sa_Mod_56 s) (by decide) (by decide) (inb_in q5) (j := x1.toNatClampNeg) rfl (si_Mod_56 s _ (vp_lt (inb_in q5))).1 ?_
    refine g_iload k_Mod_writeNew_128 rfl ?_
    refine g_aload k_Mod_writeNew_130 rfl ?_
    refine g_iload k_Mod_writeNew_132 rfl ?_
    obtain ⟨q6, e⟩ := o_gd_ex e
    refine p_iald k_Mod_writeNew_134 h4 (inb_in q6) (j := x5.toNatClampNeg) rfl ?_
    obtain ⟨q7, e⟩ := o_gd_ex e
    refine p_iast k_Mod_writeNew_135 (si_Mod_56 s _ (vp_lt (inb_in q5))).2 (inb_in q7) (j := x5.toNatClampNeg) rfl ?_
    obtain ⟨m8, u_m8, e⟩ := o_let_ex e
    refine G.hm u_m8 ?_
    refine g_iinc (v := _ + 1) k_Mod_writeNew_136 rfl rfl (by decide) ?_
    refine g_goto (tgt := 116) k_Mod_writeNew_139 (by decide) ?_
    exact (hr_116 z hz hb x1 a4 h4 l4 (x5 + 1) m8 e)
theorem t_Mod_writeNew_116X {K : aK} {d bc bs : Nat} {g : aG} (s : SyM g) {Q : aQ} {r : Int32 × Nat} {m' : aM} (F : Nat) : ∀ (N : Nat) (z : Nat) (hz : g.1 = z) (hb : 8692 ≤ g.1) (x1 : Int32) (a4 : Nat) (h4 : g.2.1 a4 = (0, 4)) (l4 : a4 < g.1) (x5 : Int32) (m : aM), (∀ g', ExL g g' → g'.1 = r.2 → Q (.inl none) (g', m')) → ll_Mod_writeNew_116 F N z x1 a4 x5 m = some (r, m') → 401 ≤ d → G K M_Mod_writeNew d bc bs 116 [.ref 242, .int x1, .double 0, .double 0, .ref a4, .int x5, .double 0] [] (g, m) Q
  | 0, _, _, _, _, _, _, _, _, _ => fun _ e => nomatch e
  | N + 1, z, hz, hb, x1, a4, h4, l4, x5, m => fun hq e hd => tb_Mod_writeNew_116X s F (ll_Mod_writeNew_116 F N) (fun z hz hb x1 a4 h4 l4 x5 m e => t_Mod_writeNew_116X s F N z hz hb x1 a4 h4 l4 x5 m hq e hd) z hz hb x1 a4 h4 l4 x5 m hq e hd
theorem t_Mod_writeNew_96X {K : aK} {d bc bs : Nat} {g : aG} (s : SyM g) {Q : aQ} {r : Int32 × Nat} {m' : aM} (F : Nat) (rec_64 : Nat → Int32 → Nat → Nat → Int32 → aM → Option ((Int32 × Nat) × aM)) (hr_64 : ∀ (z : Nat) (hz : g.1 = z) (hb : 8692 ≤ g.1) (x1 : Int32) (a4 : Nat) (h4 : g.2.1 a4 = (0, 4)) (l4 : a4 < g.1) (a5 : Nat) (h5 : g.2.1 a5 = (0, 4)) (l5 : a5 < g.1) (x6 : Int32) (m : aM), rec_64 z x1 a4 a5 x6 m = some (r, m') → G K M_Mod_writeNew d bc bs 64 [.ref 242, .int x1, .double 0, .double 0, .ref a4, .ref a5, .int x6] [] (g, m) Q) (z : Nat) (hz : g.1 = z) (hb : 8692 ≤ g.1) (x1 : Int32) (a4 : Nat) (h4 : g.2.1 a4 = (0, 4)) (l4 : a4 < g.1) (a5 : Nat) (h5 : g.2.1 a5 = (0, 4)) (l5 : a5 < g.1) (x6 : Int32) (xt0 : Int32) (xt1 : Int32) (at2 : Nat) (ht2 : g.2.1 at2 = (0, 4)) (lt2 : at2 < g.1) (m : aM) (hq : (∀ g', ExL g g' → g'.1 = r.2 → Q (.inl none) (g', m'))) (e : b_Mod_writeNew_96 F rec_64 z x1 a4 a5 x6 xt0 xt1 at2 m = some (r, m')) (hd : 401 ≤ d) : G K M_Mod_writeNew d bc bs 96 [.ref 242, .int x1, .double 0, .double 0, .ref a4, .ref a5, .int x6] [.int xt0, .int xt1, .ref at2] (g, m) Q := by
  unfold b_Mod_writeNew_96 at e
  obtain ⟨q1, e⟩ := o_gd_ex e
  refine p_iast k_Mod_writeNew_96 ht2 (inb_in q1) (j := xt1.toNatClampNeg) rfl ?_
  obtain ⟨m2, u_m2, e⟩ := o_let_ex e
  refine G.hm u_m2 ?_
  refine g_iinc (v := _ + 1) k_Mod_writeNew_97 rfl rfl (by decide) ?_
  refine g_goto (tgt := 64) k_Mod_writeNew_100 (by decide) ?_
  exact (hr_64 z hz hb x1 a4 h4 l4 a5 h5 l5 (x6 + 1) m2 e)
theorem tb_Mod_writeNew_64X {K : aK} {d bc bs : Nat} {g : aG} (s : SyM g) {Q : aQ} {r : Int32 × Nat} {m' : aM} (F : Nat) (rec_64 : Nat → Int32 → Nat → Nat → Int32 → aM → Option ((Int32 × Nat) × aM)) (hr_64 : ∀ (z : Nat) (hz : g.1 = z) (hb : 8692 ≤ g.1) (x1 : Int32) (a4 : Nat) (h4 : g.2.1 a4 = (0, 4)) (l4 : a4 < g.1) (a5 : Nat) (h5 : g.2.1 a5 = (0, 4)) (l5 : a5 < g.1) (x6 : Int32) (m : aM), rec_64 z x1 a4 a5 x6 m = some (r, m') → G K M_Mod_writeNew d bc bs 64 [.ref 242, .int x1, .double 0, .double 0, .ref a4, .ref a5, .int x6] [] (g, m) Q) (z : Nat) (hz : g.1 = z) (hb : 8692 ≤ g.1) (x1 : Int32) (a4 : Nat) (h4 : g.2.1 a4 = (0, 4)) (l4 : a4 < g.1) (a5 : Nat) (h5 : g.2.1 a5 = (0, 4)) (l5 : a5 < g.1) (x6 : Int32) (m : aM) (hq : (∀ g', ExL g g' → g'.1 = r.2 → Q (.inl none) (g', m'))) (e : lb_Mod_writeNew_64 F rec_64 z x1 a4 a5 x6 m = some (r, m')) (hd : 401 ≤ d) : G K M_Mod_writeNew d bc bs 64 [.ref 242, .int x1, .double 0, .double 0, .ref a4, .ref a5, .int x6] [] (g, m) Q := by
  unfold lb_Mod_writeNew_64 at e
  refine g_iload k_Mod_writeNew_64 rfl ?_
  refine g_iconst (v := 4) k_Mod_writeNew_66 rfl ?_
  refine g_icmp_ge (tgt := 103) k_Mod_writeNew_67 (by decide) (fun c => ?_) (fun c => ?_)
  · rw [if_pos c] at e
    refine g_aload_n k_Mod_writeNew_103 rfl rfl ?_
    refine g_iload_n k_Mod_writeNew_104 rfl rfl ?_
    refine g_aload k_Mod_writeNew_105 rfl ?_
    refine g_aload k_Mod_writeNew_107 rfl ?_
    obtain ⟨y1, m2, e_y1, e⟩ := o_b2_ex e
    refine g_cv k_Mod_writeNew_109 lv_Mod_393 (by decide +kernel) (T := F_Mod) (N := 61) (ci := 10) rfl (sk_Mod s) (s_Mod_takesPut (bc := 0) (bs := 0) s F x1 a4 h4 a5 h5 m e_y1 (by omega)) rfl rfl (Nat.le_of_ble_eq_true rfl) (by simp [Value.category]) (by omega) (by omega) (by omega) ?_
    refine g_vret k_Mod_writeNew_112 rfl ?_
    exact (by cases e; exact hq _ ExL.rf hz)
  · rw [if_neg c] at e
    refine g_aload k_Mod_writeNew_70 rfl ?_
    refine g_iload k_Mod_writeNew_72 rfl ?_
    refine g_aload_n k_Mod_writeNew_74 rfl rfl ?_
    refine g_iload k_Mod_writeNew_75 rfl ?_
    obtain ⟨y3, e_y3, e⟩ := o_b_ex e
    refine g_cv k_Mod_writeNew_77 lv_Mod_274 (by decide +kernel) (T := F_Mod) (N := 61) (ci := 10) rfl (sk_Mod s) (s_Mod_isKept (bc := 0) (bs := 0) s x6 m e_y3) rfl rfl (Nat.le_of_ble_eq_true rfl) (by simp [Value.category]) (by omega) (by omega) (by omega) ?_
    refine g_if_eq (tgt := 95) k_Mod_writeNew_80 (by decide) (fun c => ?_) (fun c => ?_)
    · rw [if_pos c] at e
      refine g_iconst (v := 0) k_Mod_writeNew_95 rfl ?_
      exact (t_Mod_writeNew_96X s F rec_64 hr_64 z hz hb x1 a4 h4 l4 a5 h5 l5 x6 0 x6 a5 h5 l5 m hq e hd)
    · rw [if_neg c] at e
      refine g_aload_n k_Mod_writeNew_83 rfl rfl ?_
      refine p_getr k_Mod_writeNew_84 fl_Mod_111 rfl (sk_Mod s) (by decide) (sr_Mod_55 s) ?_
      refine g_iload_n k_Mod_writeNew_87 rfl rfl ?_
      obtain ⟨q4, e⟩ := o_gd_ex e
      refine p_aald k_Mod_writeNew_88 (sa_Mod_55 s) (by decide) (by decide) (inb_in q4) (j := x1.toNatClampNeg) rfl (si_Mod_55 s _ (vp_lt (inb_in q4))).1 ?_
      refine g_iload k_Mod_writeNew_89 rfl ?_
      obtain ⟨q5, e⟩ := o_gd_ex e
      refine p_iald k_Mod_writeNew_91 (si_Mod_55 s _ (vp_lt (inb_in q4))).2 (inb_in q5) (j := x6.toNatClampNeg) rfl ?_
      obtain ⟨y6, u_y6, e⟩ := o_let_ex e
      refine G.vy u_y6 ?_
      refine g_goto (tgt := 96) k_Mod_writeNew_92 (by decide) ?_
      exact (t_Mod_writeNew_96X s F rec_64 hr_64 z hz hb x1 a4 h4 l4 a5 h5 l5 x6 y6 x6 a5 h5 l5 m hq e hd)
theorem t_Mod_writeNew_64X {K : aK} {d bc bs : Nat} {g : aG} (s : SyM g) {Q : aQ} {r : Int32 × Nat} {m' : aM} (F : Nat) : ∀ (N : Nat) (z : Nat) (hz : g.1 = z) (hb : 8692 ≤ g.1) (x1 : Int32) (a4 : Nat) (h4 : g.2.1 a4 = (0, 4)) (l4 : a4 < g.1) (a5 : Nat) (h5 : g.2.1 a5 = (0, 4)) (l5 : a5 < g.1) (x6 : Int32) (m : aM), (∀ g', ExL g g' → g'.1 = r.2 → Q (.inl none) (g', m')) → ll_Mod_writeNew_64 F N z x1 a4 a5 x6 m = some (r, m') → 401 ≤ d → G K M_Mod_writeNew d bc bs 64 [.ref 242, .int x1, .double 0, .double 0, .ref a4, .ref a5, .int x6] [] (g, m) Q
  | 0, _, _, _, _, _, _, _, _, _, _, _, _ => fun _ e => nomatch e
  | N + 1, z, hz, hb, x1, a4, h4, l4, a5, h5, l5, x6, m => fun hq e hd => tb_Mod_writeNew_64X s F (ll_Mod_writeNew_64 F N) (fun z hz hb x1 a4 h4 l4 a5 h5 l5 x6 m e => t_Mod_writeNew_64X s F N z hz hb x1 a4 h4 l4 a5 h5 l5 x6 m hq e hd) z hz hb x1 a4 h4 l4 a5 h5 l5 x6 m hq e hd
theorem t_Mod_writeNew_40X {K : aK} {d bc bs : Nat} {g : aG} (s : SyM g) {Q : aQ} {r : Int32 × Nat} {m' : aM} (F : Nat) (rec_13 : Nat → Int32 → Int32 → Int32 → Nat → Int32 → aM → Option ((Int32 × Nat) × aM)) (hr_13 : ∀ (z : Nat) (hz : g.1 = z) (hb : 8692 ≤ g.1) (x1 : Int32) (x2 : Int32) (x3 : Int32) (a4 : Nat) (h4 : g.2.1 a4 = (0, 4)) (l4 : a4 < g.1) (x5 : Int32) (m : aM), rec_13 z x1 x2 x3 a4 x5 m = some (r, m') → G K M_Mod_writeNew d bc bs 13 [.ref 242, .int x1, .int x2, .int x3, .ref a4, .int x5, .double 0] [] (g, m) Q) (z : Nat) (hz : g.1 = z) (hb : 8692 ≤ g.1) (x1 : Int32) (x2 : Int32) (x3 : Int32) (a4 : Nat) (h4 : g.2.1 a4 = (0, 4)) (l4 : a4 < g.1) (x5 : Int32) (xt0 : Int32) (xt1 : Int32) (at2 : Nat) (ht2 : g.2.1 at2 = (0, 4)) (lt2 : at2 < g.1) (m : aM) (hq : (∀ g', ExL g g' → g'.1 = r.2 → Q (.inl none) (g', m'))) (e : b_Mod_writeNew_40 F rec_13 z x1 x2 x3 a4 x5 xt0 xt1 at2 m = some (r, m')) (hd : 401 ≤ d) : G K M_Mod_writeNew d bc bs 40 [.ref 242, .int x1, .int x2, .int x3, .ref a4, .int x5, .double 0] [.int xt0, .int xt1, .ref at2] (g, m) Q := by
  unfold b_Mod_writeNew_40 at e
  obtain ⟨q1, e⟩ := o_gd_ex e
  refine p_iast k_Mod_writeNew_40 ht2 (inb_in q1) (j := xt1.toNatClampNeg) rfl ?_
  obtain ⟨m2, u_m2, e⟩ := o_let_ex e
  refine G.hm u_m2 ?_
  refine g_iinc (v := _ + 1) k_Mod_writeNew_41 rfl rfl (by decide) ?_
  refine g_goto (tgt := 13) k_Mod_writeNew_44 (by decide) ?_
  exact (hr_13 z hz hb x1 x2 x3 a4 h4 l4 (x5 + 1) m2 e)
theorem tb_Mod_writeNew_13X {K : aK} {d bc bs : Nat} {g : aG} (s : SyM g) {Q : aQ} {r : Int32 × Nat} {m' : aM} (F : Nat) (rec_13 : Nat → Int32 → Int32 → Int32 → Nat → Int32 → aM → Option ((Int32 × Nat) × aM)) (hr_13 : ∀ (z : Nat) (hz : g.1 = z) (hb : 8692 ≤ g.1) (x1 : Int32) (x2 : Int32) (x3 : Int32) (a4 : Nat) (h4 : g.2.1 a4 = (0, 4)) (l4 : a4 < g.1) (x5 : Int32) (m : aM), rec_13 z x1 x2 x3 a4 x5 m = some (r, m') → G K M_Mod_writeNew d bc bs 13 [.ref 242, .int x1, .int x2, .int x3, .ref a4, .int x5, .double 0] [] (g, m) Q) (z : Nat) (hz : g.1 = z) (hb : 8692 ≤ g.1) (x1 : Int32) (x2 : Int32) (x3 : Int32) (a4 : Nat) (h4 : g.2.1 a4 = (0, 4)) (l4 : a4 < g.1) (x5 : Int32) (m : aM) (hq : (∀ g', ExL g g' → g'.1 = r.2 → Q (.inl none) (g', m'))) (e : lb_Mod_writeNew_13 F rec_13 z x1 x2 x3 a4 x5 m = some (r, m')) (hd : 401 ≤ d) (hc : 1 ≤ bc) (hs : 4 ≤ bs) : G K M_Mod_writeNew d bc bs 13 [.ref 242, .int x1, .int x2, .int x3, .ref a4, .int x5, .double 0] [] (g, m) Q := by
  unfold lb_Mod_writeNew_13 at e
  refine g_iload k_Mod_writeNew_13 rfl ?_
  refine g_iconst (v := 4) k_Mod_writeNew_15 rfl ?_
  refine g_icmp_ge (tgt := 47) k_Mod_writeNew_16 (by decide) (fun c => ?_) (fun c => ?_)
  · rw [if_pos c] at e
    refine g_aload_n k_Mod_writeNew_47 rfl rfl ?_
    refine p_getr k_Mod_writeNew_48 fl_Mod_102 rfl (sk_Mod s) (by decide) (sr_Mod_52 s) ?_
    refine g_iload_n k_Mod_writeNew_51 rfl rfl ?_
    obtain ⟨q1, e⟩ := o_gd_ex e
    refine p_iald k_Mod_writeNew_52 (sa_Mod_52 s) (inb_in q1) (j := x1.toNatClampNeg) rfl ?_
    refine g_if_ne (tgt := 113) k_Mod_writeNew_53 (by decide) (fun c => ?_) (fun c => ?_)
    · rw [if_pos c] at e
      refine g_iconst (v := 4) k_Mod_writeNew_56 rfl ?_
      refine al_newX (t := 0) (N := 4) s hz hb k_Mod_writeNew_57 rfl (by decide) ac_int (by decide) (by decide) (by decide) (by omega) (by omega) (fun g s x hz hA2 => ?_)
      have h4 := (x.2.1.2 _ l4).1.trans h4
      have l4 := Nat.lt_of_lt_of_le l4 x.1
      have hq := fun g' y => hq g' (x.tr y)
      have hb := Nat.le_trans hb x.1
      have lA2 : z < g.1 := by omega
      obtain ⟨m3, u_m3, e⟩ := o_let_ex e
      refine G.hm u_m3 ?_
      refine g_astore k_Mod_writeNew_59 (by decide) ?_
      refine g_iconst (v := 0) k_Mod_writeNew_61 rfl ?_
      refine g_istore k_Mod_writeNew_62 (by decide) ?_
      exact G.wl (wls (wls (wld (wld (wls (wls (wls wl0))))))) (t_Mod_writeNew_64X s F F (z + 1) hz hb x1 a4 h4 l4 z hA2 lA2 0 m3 hq e hd)
    · rw [if_neg c] at e
      refine g_iconst (v := 0) k_Mod_writeNew_113 rfl ?_
      refine g_istore k_Mod_writeNew_114 (by decide) ?_
      exact G.wl (wls (wls (wld (wld (wls (wls (wls wl0))))))) (t_Mod_writeNew_116X s F F z hz hb x1 a4 h4 l4 0 m hq e hd)
  · rw [if_neg c] at e
    refine g_aload k_Mod_writeNew_19 rfl ?_
    refine g_iload k_Mod_writeNew_21 rfl ?_
    refine g_iload k_Mod_writeNew_23 rfl ?_
    refine g_iload_n k_Mod_writeNew_25 rfl rfl ?_
    refine g_icmp_ne (tgt := 33) k_Mod_writeNew_26 (by decide) (fun c => ?_) (fun c => ?_)
    · rw [if_pos c] at e
      refine g_iload_n k_Mod_writeNew_29 rfl rfl ?_
      refine g_goto (tgt := 40) k_Mod_writeNew_30 (by decide) ?_
      exact (t_Mod_writeNew_40X s F rec_13 hr_13 z hz hb x1 x2 x3 a4 h4 l4 x5 x3 x5 a4 h4 l4 m hq e hd)
    · rw [if_neg c] at e
      refine g_aload_n k_Mod_writeNew_33 rfl rfl ?_
      refine p_getr k_Mod_writeNew_34 fl_Mod_40 rfl (sk_Mod s) (by decide) (sr_Mod_26 s) ?_
      refine g_iload k_Mod_writeNew_37 rfl ?_
      obtain ⟨q4, e⟩ := o_gd_ex e
      refine p_iald k_Mod_writeNew_39 (sa_Mod_26 s) (inb_in q4) (j := x5.toNatClampNeg) rfl ?_
      exact (t_Mod_writeNew_40X s F rec_13 hr_13 z hz hb x1 x2 x3 a4 h4 l4 x5 (m 251 x5.toNatClampNeg) x5 a4 h4 l4 m hq e hd)
theorem t_Mod_writeNew_13X {K : aK} {d bc bs : Nat} {g : aG} (s : SyM g) {Q : aQ} {r : Int32 × Nat} {m' : aM} (F : Nat) : ∀ (N : Nat) (z : Nat) (hz : g.1 = z) (hb : 8692 ≤ g.1) (x1 : Int32) (x2 : Int32) (x3 : Int32) (a4 : Nat) (h4 : g.2.1 a4 = (0, 4)) (l4 : a4 < g.1) (x5 : Int32) (m : aM), (∀ g', ExL g g' → g'.1 = r.2 → Q (.inl none) (g', m')) → ll_Mod_writeNew_13 F N z x1 x2 x3 a4 x5 m = some (r, m') → 401 ≤ d → 1 ≤ bc → 4 ≤ bs → G K M_Mod_writeNew d bc bs 13 [.ref 242, .int x1, .int x2, .int x3, .ref a4, .int x5, .double 0] [] (g, m) Q
  | 0, _, _, _, _, _, _, _, _, _, _, _ => fun _ e => nomatch e
  | N + 1, z, hz, hb, x1, x2, x3, a4, h4, l4, x5, m => fun hq e hd hc hs => tb_Mod_writeNew_13X s F (ll_Mod_writeNew_13 F N) (fun z hz hb x1 x2 x3 a4 h4 l4 x5 m e => t_Mod_writeNew_13X s F N z hz hb x1 x2 x3 a4 h4 l4 x5 m hq e hd hc hs) z hz hb x1 x2 x3 a4 h4 l4 x5 m hq e hd hc hs
theorem s_Mod_writeNewX {K : aK} {d bc bs : Nat} {g : aG} (s : SyM g) (F : Nat) (z : Nat) (hz : g.1 = z) (hb : 8692 ≤ g.1) (x1 : Int32) (x2 : Int32) (x3 : Int32) (m : aM) {r : Int32 × Nat} {m' : aM} (e : f_Mod_writeNew F z x1 x2 x3 m = some (r, m')) (hd : 401 ≤ d) (hc : 2 ≤ bc) (hs : 8 ≤ bs) : SpR K M_Mod_writeNew d bc bs [.ref 242, .int x1, .int x2, .int x3] (g, m) (fun v h' => ∃ g', ExL g g' ∧ g'.1 = r.2 ∧ v = none ∧ h' = (g', m')) := by
  refine sp_alX ok_Mod_writeNew rfl (Nat.le_of_ble_eq_true rfl) (by simp [Value.category]) (fun Q hq => ?_)
  unfold f_Mod_writeNew at e
  refine g_aload_n k_Mod_writeNew_0 rfl rfl ?_
  refine g_iload_n k_Mod_writeNew_1 rfl rfl ?_
  obtain ⟨y1, m2, e_y1, e⟩ := o_b2_ex e
  refine g_cv k_Mod_writeNew_2 lv_Mod_378 (by decide +kernel) (T := F_Mod) (N := 61) (ci := 10) rfl (sk_Mod s) (s_Mod_newAsIf (bc := 0) (bs := 0) s F x1 m e_y1 (by omega)) rfl rfl (Nat.le_of_ble_eq_true rfl) (by simp [Value.category]) (by omega) (by omega) (by omega) ?_
  refine g_iconst (v := 4) k_Mod_writeNew_5 rfl ?_
  refine al_newX (t := 0) (N := 4) s hz hb k_Mod_writeNew_6 rfl (by decide) ac_int (by decide) (by decide) (by decide) (by omega) (by omega) (fun g s x hz hA3 => ?_)
  have hq := fun g' y => hq g' (x.tr y)
  have hb := Nat.le_trans hb x.1
  have lA3 : z < g.1 := by omega
  obtain ⟨m4, u_m4, e⟩ := o_let_ex e
  refine G.hm u_m4 ?_
  refine g_astore k_Mod_writeNew_8 (by decide) ?_
  refine g_iconst (v := 0) k_Mod_writeNew_10 rfl ?_
  refine g_istore k_Mod_writeNew_11 (by decide) ?_
  exact (t_Mod_writeNew_13X s F F (z + 1) hz hb x1 x2 x3 z hA3 lA3 0 m4 hq e hd (by omega) (by omega))
theorem t_Mod_write_262X {K : aK} {d bc bs : Nat} {g : aG} (s : SyM g) {Q : aQ} {r : Int32 × Nat} {m' : aM} (F : Nat) (z : Nat) (hz : g.1 = z) (hb : 8692 ≤ g.1) (x2 : Int32) (x6 : Int32) (m : aM) (hq : (∀ g', ExL g g' → g'.1 = r.2 → Q (.inl (some (.int r.1))) (g', m'))) (e : b_Mod_write_262 F z x2 x6 m = some (r, m')) (hd : 402 ≤ d) : G K M_Mod_write d bc bs 262 [.ref 242, .double 0, .int x2, .double 0, .double 0, .double 0, .int x6] [] (g, m) Q := by
  unfold b_Mod_write_262 at e
  refine g_aload_n k_Mod_write_262 rfl rfl ?_
  refine p_getr k_Mod_write_263 fl_Mod_99 rfl (sk_Mod s) (by decide) (sr_Mod_51 s) ?_
  refine g_iload_n k_Mod_write_266 rfl rfl ?_
  refine g_iload k_Mod_write_267 rfl ?_
  refine g_if_ne (tgt := 276) k_Mod_write_269 (by decide) (fun c => ?_) (fun c => ?_)
  · rw [if_pos c] at e
    refine g_iconst (v := 1) k_Mod_write_272 rfl ?_
    refine g_goto (tgt := 277) k_Mod_write_273 (by decide) ?_
    obtain ⟨q1, e⟩ := o_gd_ex e
    refine p_zast k_Mod_write_277 (sa_Mod_51 s) (inb_in q1) (j := x2.toNatClampNeg) rfl (by decide) ?_
    obtain ⟨m2, u_m2, e⟩ := o_let_ex e
    refine G.hm u_m2 ?_
    refine g_iconst (v := 1) k_Mod_write_278 rfl ?_
    refine g_iret k_Mod_write_279 rfl ?_
    exact (by cases e; exact hq _ ExL.rf hz)
  · rw [if_neg c] at e
    refine g_iconst (v := 0) k_Mod_write_276 rfl ?_
    obtain ⟨q3, e⟩ := o_gd_ex e
    refine p_zast k_Mod_write_277 (sa_Mod_51 s) (inb_in q3) (j := x2.toNatClampNeg) rfl (by decide) ?_
    obtain ⟨m4, u_m4, e⟩ := o_let_ex e
    refine G.hm u_m4 ?_
    refine g_iconst (v := 1) k_Mod_write_278 rfl ?_
    refine g_iret k_Mod_write_279 rfl ?_
    exact (by cases e; exact hq _ ExL.rf hz)
theorem t_Mod_write_202X {K : aK} {d bc bs : Nat} {g : aG} (s : SyM g) {Q : aQ} {r : Int32 × Nat} {m' : aM} (F : Nat) (z : Nat) (hz : g.1 = z) (hb : 8692 ≤ g.1) (x1 : Int32) (x2 : Int32) (m : aM) (hq : (∀ g', ExL g g' → g'.1 = r.2 → Q (.inl (some (.int r.1))) (g', m'))) (e : b_Mod_write_202 F z x1 x2 m = some (r, m')) (hd : 402 ≤ d) : G K M_Mod_write d bc bs 202 [.ref 242, .int x1, .int x2, .double 0, .double 0, .double 0, .double 0] [] (g, m) Q := by
  unfold b_Mod_write_202 at e
  refine g_aload_n k_Mod_write_202 rfl rfl ?_
  refine p_getr k_Mod_write_203 fl_Mod_102 rfl (sk_Mod s) (by decide) (sr_Mod_52 s) ?_
  refine g_iload_n k_Mod_write_206 rfl rfl ?_
  obtain ⟨q1, e⟩ := o_gd_ex e
  refine p_iald k_Mod_write_207 (sa_Mod_52 s) (inb_in q1) (j := x2.toNatClampNeg) rfl ?_
  refine g_if_ne (tgt := 213) k_Mod_write_208 (by decide) (fun c => ?_) (fun c => ?_)
  · rw [if_pos c] at e
    refine g_iconst (v := 1) k_Mod_write_211 rfl ?_
    refine g_iret k_Mod_write_212 rfl ?_
    exact (by cases e; exact hq _ ExL.rf hz)
  · rw [if_neg c] at e
    refine g_aload_n k_Mod_write_213 rfl rfl ?_
    refine g_aload_n k_Mod_write_214 rfl rfl ?_
    refine p_getr k_Mod_write_215 fl_Mod_114 rfl (sk_Mod s) (by decide) (sr_Mod_56 s) ?_
    refine g_iload_n k_Mod_write_218 rfl rfl ?_
    obtain ⟨q2, e⟩ := o_gd_ex e
    refine p_aald k_Mod_write_219 (sa_Mod_56 s) (by decide) (by decide) (inb_in q2) (j := x2.toNatClampNeg) rfl (si_Mod_56 s _ (vp_lt (inb_in q2))).1 ?_
    refine g_aload_n k_Mod_write_220 rfl rfl ?_
    refine p_getr k_Mod_write_221 fl_Mod_117 rfl (sk_Mod s) (by decide) (sr_Mod_57 s) ?_
    refine g_iload_n k_Mod_write_224 rfl rfl ?_
    obtain ⟨q3, e⟩ := o_gd_ex e
    refine p_aald k_Mod_write_225 (sa_Mod_57 s) (by decide) (by decide) (inb_in q3) (j := x2.toNatClampNeg) rfl (si_Mod_57 s _ (vp_lt (inb_in q3))).1 ?_
    obtain ⟨y4, m5, e_y4, e⟩ := o_b2_ex e
    refine g_cv k_Mod_write_226 lv_Mod_302 (by decide +kernel) (T := F_Mod) (N := 61) (ci := 10) rfl (sk_Mod s) (s_Mod_isRightBy (bc := 0) (bs := 0) s F (8520 + x2.toNatClampNeg) ((si_Mod_56 s _ (vp_lt (inb_in q2))).2) (8561 + x2.toNatClampNeg) ((si_Mod_57 s _ (vp_lt (inb_in q3))).2) m e_y4 (by omega)) rfl rfl (Nat.le_of_ble_eq_true rfl) (by simp [Value.category]) (by omega) (by omega) (by omega) ?_
    refine g_istore k_Mod_write_229 (by decide) ?_
    refine g_iload k_Mod_write_231 rfl ?_
    refine g_if_ne (tgt := 262) k_Mod_write_233 (by decide) (fun c => ?_) (fun c => ?_)
    · rw [if_pos c] at e
      refine g_aload_n k_Mod_write_236 rfl rfl ?_
      refine p_getr k_Mod_write_237 fl_Mod_99 rfl (sk_Mod s) (by decide) (sr_Mod_51 s) ?_
      refine g_iload_n k_Mod_write_240 rfl rfl ?_
      obtain ⟨q6, e⟩ := o_gd_ex e
      refine p_zald k_Mod_write_241 (sa_Mod_51 s) (inb_in q6) (j := x2.toNatClampNeg) rfl ?_
      refine g_if_ne (tgt := 262) k_Mod_write_242 (by decide) (fun c => ?_) (fun c => ?_)
      · rw [if_pos c] at e
        refine g_aload_n k_Mod_write_245 rfl rfl ?_
        refine p_getr k_Mod_write_246 fl_Mod_105 rfl (sk_Mod s) (by decide) (sr_Mod_53 s) ?_
        refine g_iload_n k_Mod_write_249 rfl rfl ?_
        refine g_aload_n k_Mod_write_250 rfl rfl ?_
        refine p_geti k_Mod_write_251 fl_Mod_351 rfl (sk_Mod s) (by decide) ?_
        obtain ⟨q7, e⟩ := o_gd_ex e
        refine p_iast k_Mod_write_254 (sa_Mod_53 s) (inb_in q7) (j := x2.toNatClampNeg) rfl ?_
        obtain ⟨m8, u_m8, e⟩ := o_let_ex e
        refine G.hm u_m8 ?_
        refine g_aload_n k_Mod_write_255 rfl rfl ?_
        refine p_getr k_Mod_write_256 fl_Mod_108 rfl (sk_Mod s) (by decide) (sr_Mod_54 s) ?_
        refine g_iload_n k_Mod_write_259 rfl rfl ?_
        refine g_iload_n k_Mod_write_260 rfl rfl ?_
        obtain ⟨q9, e⟩ := o_gd_ex e
        refine p_iast k_Mod_write_261 (sa_Mod_54 s) (inb_in q9) (j := x2.toNatClampNeg) rfl ?_
        obtain ⟨m10, u_m10, e⟩ := o_let_ex e
        refine G.hm u_m10 ?_
        exact G.wl (wls (wld (wls (wls (wls (wls (wls wl0))))))) (t_Mod_write_262X s F z hz hb x2 y4 m10 hq e hd)
      · rw [if_neg c] at e
        exact G.wl (wls (wld (wls (wls (wls (wls (wls wl0))))))) (t_Mod_write_262X s F z hz hb x2 y4 m5 hq e hd)
    · rw [if_neg c] at e
      exact G.wl (wls (wld (wls (wls (wls (wls (wls wl0))))))) (t_Mod_write_262X s F z hz hb x2 y4 m5 hq e hd)
theorem t_Mod_write_177X {K : aK} {d bc bs : Nat} {g : aG} (s : SyM g) {Q : aQ} {r : Int32 × Nat} {m' : aM} (F : Nat) (z : Nat) (hz : g.1 = z) (hb : 8692 ≤ g.1) (x1 : Int32) (x2 : Int32) (x3 : Int32) (x4 : Int32) (x5 : Int32) (m : aM) (hq : (∀ g', ExL g g' → g'.1 = r.2 → Q (.inl (some (.int r.1))) (g', m'))) (e : b_Mod_write_177 F z x1 x2 x3 x4 x5 m = some (r, m')) (hd : 402 ≤ d) (hc : 2 ≤ bc) (hs : 8 ≤ bs) : G K M_Mod_write d bc bs 177 [.ref 242, .int x1, .int x2, .int x3, .int x4, .int x5, .double 0] [] (g, m) Q := by
  unfold b_Mod_write_177 at e
  refine g_iload_n k_Mod_write_177 rfl rfl ?_
  refine g_if_ne (tgt := 193) k_Mod_write_178 (by decide) (fun c => ?_) (fun c => ?_)
  · rw [if_pos c] at e
    refine g_aload_n k_Mod_write_181 rfl rfl ?_
    refine g_iload_n k_Mod_write_182 rfl rfl ?_
    refine g_iload k_Mod_write_183 rfl ?_
    refine g_iload k_Mod_write_185 rfl ?_
    obtain ⟨y1, m2, e_y1, e⟩ := o_b2_ex e
    refine g_cv k_Mod_write_187 lv_Mod_386 (by decide +kernel) (T := F_Mod) (N := 61) (ci := 10) rfl (sk_Mod s) (s_Mod_writeOld (bc := 0) (bs := 0) s F x2 x4 x5 m e_y1 (by omega)) rfl rfl (Nat.le_of_ble_eq_true rfl) (by simp [Value.category]) (by omega) (by omega) (by omega) ?_
    refine g_goto (tgt := 202) k_Mod_write_190 (by decide) ?_
    exact G.wl (wls (wls (wls (wld (wld (wld (wls wl0))))))) (t_Mod_write_202X s F z hz hb x1 x2 m2 hq e hd)
  · rw [if_neg c] at e
    refine g_aload_n k_Mod_write_193 rfl rfl ?_
    refine g_iload_n k_Mod_write_194 rfl rfl ?_
    refine g_iload k_Mod_write_195 rfl ?_
    refine g_iload k_Mod_write_197 rfl ?_
    obtain ⟨y3, m4, e_y3, e⟩ := o_b2_ex e
    refine g_cvR k_Mod_write_199 lv_Mod_390 (by decide +kernel) (T := F_Mod) (N := 61) (ci := 10) rfl (sk_Mod s) (s_Mod_writeNewX (bc := 2) (bs := 8) s F z hz hb x2 x4 x5 m e_y3 (by omega) (by omega) (by omega)) rfl rfl (Nat.le_of_ble_eq_true rfl) (by simp [Value.category]) (by omega) (by omega) (by omega) (fun v h' P => ?_)
    obtain ⟨g, x, hz, rfl, rfl⟩ := P
    have s := s.ext x.2.1 hb
    have hq := fun g' y => hq g' (x.tr y)
    have hb := Nat.le_trans hb x.1
    exact G.wl (wls (wls (wls (wld (wld (wld (wls wl0))))))) (t_Mod_write_202X s F y3.2 hz hb x1 x2 m4 hq e hd)
theorem t_Mod_write_133X {K : aK} {d bc bs : Nat} {g : aG} (s : SyM g) {Q : aQ} {r : Int32 × Nat} {m' : aM} (F : Nat) (z : Nat) (hz : g.1 = z) (hb : 8692 ≤ g.1) (x1 : Int32) (x2 : Int32) (x3 : Int32) (x4 : Int32) (x5 : Int32) (m : aM) (hq : (∀ g', ExL g g' → g'.1 = r.2 → Q (.inl (some (.int r.1))) (g', m'))) (e : b_Mod_write_133 F z x1 x2 x3 x4 x5 m = some (r, m')) (hd : 402 ≤ d) (hc : 2 ≤ bc) (hs : 8 ≤ bs) : G K M_Mod_write d bc bs 133 [.ref 242, .int x1, .int x2, .int x3, .int x4, .int x5, .double 0] [] (g, m) Q := by
  unfold b_Mod_write_133 at e
  refine g_aload_n k_Mod_write_133 rfl rfl ?_
  refine p_getr k_Mod_write_134 fl_Mod_120 rfl (sk_Mod s) (by decide) (sr_Mod_58 s) ?_
  refine g_iload_n k_Mod_write_137 rfl rfl ?_
  obtain ⟨q1, e⟩ := o_gd_ex e
  refine p_aald k_Mod_write_138 (sa_Mod_58 s) (by decide) (by decide) (inb_in q1) (j := x2.toNatClampNeg) rfl (si_Mod_58 s _ (vp_lt (inb_in q1))).1 ?_
  refine g_iload_n k_Mod_write_139 rfl rfl ?_
  refine g_aload_n k_Mod_write_140 rfl rfl ?_
  refine p_geti k_Mod_write_141 fl_Mod_351 rfl (sk_Mod s) (by decide) ?_
  obtain ⟨q2, e⟩ := o_gd_ex e
  refine p_iast k_Mod_write_144 (si_Mod_58 s _ (vp_lt (inb_in q1))).2 (inb_in q2) (j := x3.toNatClampNeg) rfl ?_
  obtain ⟨m3, u_m3, e⟩ := o_let_ex e
  refine G.hm u_m3 ?_
  refine g_aload_n k_Mod_write_145 rfl rfl ?_
  refine p_getr k_Mod_write_146 fl_Mod_128 rfl (sk_Mod s) (by decide) (sr_Mod_60 s) ?_
  refine g_iload_n k_Mod_write_149 rfl rfl ?_
  obtain ⟨q4, e⟩ := o_gd_ex e
  refine p_aald k_Mod_write_150 (sa_Mod_60 s) (by decide) (by decide) (inb_in q4) (j := x1.toNatClampNeg) rfl (si_Mod_60 s _ (vp_lt (inb_in q4))).1 ?_
  refine g_iload_n k_Mod_write_151 rfl rfl ?_
  obtain ⟨q5, e⟩ := o_gd_ex e
  refine p_aald k_Mod_write_152 (si_Mod_60 s _ (vp_lt (inb_in q4))).2 (by decide) (by decide) (inb_in q5) (j := x3.toNatClampNeg) rfl (sj_Mod_60 s _ _ (vp_lt (inb_in q4)) (vp_lt (inb_in q5))).1 ?_
  refine g_iload k_Mod_write_153 rfl ?_
  refine g_aload_n k_Mod_write_155 rfl rfl ?_
  refine p_geti k_Mod_write_156 fl_Mod_351 rfl (sk_Mod s) (by decide) ?_
  obtain ⟨q6, e⟩ := o_gd_ex e
  refine p_iast k_Mod_write_159 (sj_Mod_60 s _ _ (vp_lt (inb_in q4)) (vp_lt (inb_in q5))).2 (inb_in q6) (j := x4.toNatClampNeg) rfl ?_
  obtain ⟨m7, u_m7, e⟩ := o_let_ex e
  refine G.hm u_m7 ?_
  refine g_aload_n k_Mod_write_160 rfl rfl ?_
  refine p_getr k_Mod_write_161 fl_Mod_102 rfl (sk_Mod s) (by decide) (sr_Mod_52 s) ?_
  refine g_iload_n k_Mod_write_164 rfl rfl ?_
  obtain ⟨q8, e⟩ := o_gd_ex e
  refine p_iald k_Mod_write_165 (sa_Mod_52 s) (inb_in q8) (j := x2.toNatClampNeg) rfl ?_
  refine g_iconst (v := 3) k_Mod_write_166 rfl ?_
  refine g_icmp_ne (tgt := 177) k_Mod_write_167 (by decide) (fun c => ?_) (fun c => ?_)
  · rw [if_pos c] at e
    refine g_aload_n k_Mod_write_170 rfl rfl ?_
    refine p_getr k_Mod_write_171 fl_Mod_102 rfl (sk_Mod s) (by decide) (sr_Mod_52 s) ?_
    refine g_iload_n k_Mod_write_174 rfl rfl ?_
    refine g_iconst (v := 0) k_Mod_write_175 rfl ?_
    obtain ⟨q9, e⟩ := o_gd_ex e
    refine p_iast k_Mod_write_176 (sa_Mod_52 s) (inb_in q9) (j := x2.toNatClampNeg) rfl ?_
    obtain ⟨m10, u_m10, e⟩ := o_let_ex e
    refine G.hm u_m10 ?_
    exact (t_Mod_write_177X s F z hz hb x1 x2 x3 x4 x5 m10 hq e hd (by omega) (by omega))
  · rw [if_neg c] at e
    exact (t_Mod_write_177X s F z hz hb x1 x2 x3 x4 x5 m7 hq e hd (by omega) (by omega))
theorem t_Mod_write_97X {K : aK} {d bc bs : Nat} {g : aG} (s : SyM g) {Q : aQ} {r : Int32 × Nat} {m' : aM} (F : Nat) (z : Nat) (hz : g.1 = z) (hb : 8692 ≤ g.1) (x1 : Int32) (x2 : Int32) (x3 : Int32) (x4 : Int32) (x5 : Int32) (xt0 : Int32) (m : aM) (hq : (∀ g', ExL g g' → g'.1 = r.2 → Q (.inl (some (.int r.1))) (g', m'))) (e : b_Mod_write_97 F z x1 x2 x3 x4 x5 xt0 m = some (r, m')) (hd : 402 ≤ d) (hc : 2 ≤ bc) (hs : 8 ≤ bs) : G K M_Mod_write d bc bs 97 [.ref 242, .int x1, .int x2, .int x3, .int x4, .int x5, .double 0] [.int xt0, .ref 242] (g, m) Q := by
  unfold b_Mod_write_97 at e
  refine g_iconst (v := 3) k_Mod_write_97 rfl ?_
  obtain ⟨y1, m2, e_y1, e⟩ := o_b2_ex e
  refine g_cv k_Mod_write_98 lv_Mod_240 (by decide +kernel) (T := F_Mod) (N := 61) (ci := 10) rfl (sk_Mod s) (s_Mod_bad (bc := 0) (bs := 0) s xt0 3 m e_y1) rfl rfl (Nat.le_of_ble_eq_true rfl) (by simp [Value.category]) (by omega) (by omega) (by omega) ?_
  refine g_if_eq (tgt := 106) k_Mod_write_101 (by decide) (fun c => ?_) (fun c => ?_)
  · rw [if_pos c] at e
    refine g_aload_n k_Mod_write_106 rfl rfl ?_
    refine p_getr k_Mod_write_107 fl_Mod_120 rfl (sk_Mod s) (by decide) (sr_Mod_58 s) ?_
    refine g_iload_n k_Mod_write_110 rfl rfl ?_
    obtain ⟨q3, e⟩ := o_gd_ex e
    refine p_aald k_Mod_write_111 (sa_Mod_58 s) (by decide) (by decide) (inb_in q3) (j := x2.toNatClampNeg) rfl (si_Mod_58 s _ (vp_lt (inb_in q3))).1 ?_
    refine g_iconst (v := 1) k_Mod_write_112 rfl ?_
    refine g_iload_n k_Mod_write_113 rfl rfl ?_
    refine g_isub k_Mod_write_114 ?_
    obtain ⟨q4, e⟩ := o_gd_ex e
    refine p_iald k_Mod_write_115 (si_Mod_58 s _ (vp_lt (inb_in q3))).2 (inb_in q4) (j := (1 - x3).toNatClampNeg) rfl ?_
    obtain ⟨y5, u_y5, e⟩ := o_let_ex e
    refine G.vy u_y5 ?_
    refine g_aload_n k_Mod_write_116 rfl rfl ?_
    refine p_geti k_Mod_write_117 fl_Mod_351 rfl (sk_Mod s) (by decide) ?_
    refine g_icmp_ne (tgt := 133) k_Mod_write_120 (by decide) (fun c => ?_) (fun c => ?_)
    · rw [if_pos c] at e
      refine g_aload_n k_Mod_write_123 rfl rfl ?_
      refine p_geti k_Mod_write_124 fl_Mod_383 rfl (sk_Mod s) (by decide) ?_
      refine g_iload_n k_Mod_write_127 rfl rfl ?_
      refine g_icmp_eq (tgt := 133) k_Mod_write_128 (by decide) (fun c => ?_) (fun c => ?_)
      · rw [if_pos c] at e
        exact (t_Mod_write_133X s F z hz hb x1 x2 x3 x4 x5 m2 hq e hd (by omega) (by omega))
      · rw [if_neg c] at e
        refine g_iconst (v := 0) k_Mod_write_131 rfl ?_
        refine g_iret k_Mod_write_132 rfl ?_
        exact (by cases e; exact hq _ ExL.rf hz)
    · rw [if_neg c] at e
      exact (t_Mod_write_133X s F z hz hb x1 x2 x3 x4 x5 m2 hq e hd (by omega) (by omega))
  · rw [if_neg c] at e
    refine g_iconst (v := 0) k_Mod_write_104 rfl ?_
    refine g_iret k_Mod_write_105 rfl ?_
    exact (by cases e; exact hq _ ExL.rf hz)
theorem t_Mod_write_75X {K : aK} {d bc bs : Nat} {g : aG} (s : SyM g) {Q : aQ} {r : Int32 × Nat} {m' : aM} (F : Nat) (z : Nat) (hz : g.1 = z) (hb : 8692 ≤ g.1) (x1 : Int32) (x2 : Int32) (x3 : Int32) (x4 : Int32) (x5 : Int32) (xt0 : Int32) (m : aM) (hq : (∀ g', ExL g g' → g'.1 = r.2 → Q (.inl (some (.int r.1))) (g', m'))) (e : b_Mod_write_75 F z x1 x2 x3 x4 x5 xt0 m = some (r, m')) (hd : 402 ≤ d) (hc : 2 ≤ bc) (hs : 8 ≤ bs) : G K M_Mod_write d bc bs 75 [.ref 242, .int x1, .int x2, .int x3, .int x4, .int x5, .double 0] [.int xt0, .ref 242] (g, m) Q := by
  unfold b_Mod_write_75 at e
  refine g_iconst (v := 2) k_Mod_write_75 rfl ?_
  obtain ⟨y1, m2, e_y1, e⟩ := o_b2_ex e
  refine g_cv k_Mod_write_76 lv_Mod_240 (by decide +kernel) (T := F_Mod) (N := 61) (ci := 10) rfl (sk_Mod s) (s_Mod_bad (bc := 0) (bs := 0) s xt0 2 m e_y1) rfl rfl (Nat.le_of_ble_eq_true rfl) (by simp [Value.category]) (by omega) (by omega) (by omega) ?_
  refine g_if_ne (tgt := 104) k_Mod_write_79 (by decide) (fun c => ?_) (fun c => ?_)
  · rw [if_pos c] at e
    refine g_aload_n k_Mod_write_82 rfl rfl ?_
    refine g_aload_n k_Mod_write_83 rfl rfl ?_
    refine p_getr k_Mod_write_84 fl_Mod_96 rfl (sk_Mod s) (by decide) (sr_Mod_50 s) ?_
    refine g_iload_n k_Mod_write_87 rfl rfl ?_
    obtain ⟨q3, e⟩ := o_gd_ex e
    refine p_zald k_Mod_write_88 (sa_Mod_50 s) (inb_in q3) (j := x2.toNatClampNeg) rfl ?_
    refine g_if_ne (tgt := 96) k_Mod_write_89 (by decide) (fun c => ?_) (fun c => ?_)
    · rw [if_pos c] at e
      refine g_iconst (v := 1) k_Mod_write_92 rfl ?_
      refine g_goto (tgt := 97) k_Mod_write_93 (by decide) ?_
      exact (t_Mod_write_97X s F z hz hb x1 x2 x3 x4 x5 1 m2 hq e hd (by omega) (by omega))
    · rw [if_neg c] at e
      refine g_iconst (v := 0) k_Mod_write_96 rfl ?_
      exact (t_Mod_write_97X s F z hz hb x1 x2 x3 x4 x5 0 m2 hq e hd (by omega) (by omega))
  · rw [if_neg c] at e
    refine g_iconst (v := 0) k_Mod_write_104 rfl ?_
    refine g_iret k_Mod_write_105 rfl ?_
    exact (by cases e; exact hq _ ExL.rf hz)
theorem t_Mod_write_70X {K : aK} {d bc bs : Nat} {g : aG} (s : SyM g) {Q : aQ} {r : Int32 × Nat} {m' : aM} (F : Nat) (z : Nat) (hz : g.1 = z) (hb : 8692 ≤ g.1) (x1 : Int32) (x2 : Int32) (x3 : Int32) (x4 : Int32) (x5 : Int32) (m : aM) (hq : (∀ g', ExL g g' → g'.1 = r.2 → Q (.inl (some (.int r.1))) (g', m'))) (e : b_Mod_write_70 F z x1 x2 x3 x4 x5 m = some (r, m')) (hd : 402 ≤ d) (hc : 2 ≤ bc) (hs : 8 ≤ bs) : G K M_Mod_write d bc bs 70 [.ref 242, .int x1, .int x2, .int x3, .int x4, .int x5, .double 0] [.ref 242] (g, m) Q := by
  unfold b_Mod_write_70 at e
  refine g_iconst (v := 1) k_Mod_write_70 rfl ?_
  refine g_goto (tgt := 75) k_Mod_write_71 (by decide) ?_
  exact (t_Mod_write_75X s F z hz hb x1 x2 x3 x4 x5 1 m hq e hd (by omega) (by omega))
theorem t_Mod_write_19X {K : aK} {d bc bs : Nat} {g : aG} (s : SyM g) {Q : aQ} {r : Int32 × Nat} {m' : aM} (F : Nat) (z : Nat) (hz : g.1 = z) (hb : 8692 ≤ g.1) (x1 : Int32) (x2 : Int32) (x3 : Int32) (x4 : Int32) (x5 : Int32) (xt0 : Int32) (m : aM) (hq : (∀ g', ExL g g' → g'.1 = r.2 → Q (.inl (some (.int r.1))) (g', m'))) (e : b_Mod_write_19 F z x1 x2 x3 x4 x5 xt0 m = some (r, m')) (hd : 402 ≤ d) (hc : 2 ≤ bc) (hs : 8 ≤ bs) : G K M_Mod_write d bc bs 19 [.ref 242, .int x1, .int x2, .int x3, .int x4, .int x5, .double 0] [.int xt0, .ref 242] (g, m) Q := by
  unfold b_Mod_write_19 at e
  refine g_iconst (v := 1) k_Mod_write_19 rfl ?_
  obtain ⟨y1, m2, e_y1, e⟩ := o_b2_ex e
  refine g_cv k_Mod_write_20 lv_Mod_240 (by decide +kernel) (T := F_Mod) (N := 61) (ci := 10) rfl (sk_Mod s) (s_Mod_bad (bc := 0) (bs := 0) s xt0 1 m e_y1) rfl rfl (Nat.le_of_ble_eq_true rfl) (by simp [Value.category]) (by omega) (by omega) (by omega) ?_
  refine g_if_ne (tgt := 104) k_Mod_write_23 (by decide) (fun c => ?_) (fun c => ?_)
  · rw [if_pos c] at e
    refine g_aload_n k_Mod_write_26 rfl rfl ?_
    refine g_iload_n k_Mod_write_27 rfl rfl ?_
    refine g_iconst (v := 0) k_Mod_write_28 rfl ?_
    refine g_bipush (v := 7) k_Mod_write_29 rfl ?_
    obtain ⟨y3, e_y3, e⟩ := o_b_ex e
    refine g_cs k_Mod_write_31 ls_Mod_236 (by decide +kernel) (s_Mod_in (bc := 0) (bs := 0) s x1 0 7 m2 e_y3) rfl rfl (Nat.le_of_ble_eq_true rfl) (by simp [Value.category]) (by omega) (by omega) (by omega) ?_
    refine g_if_eq (tgt := 70) k_Mod_write_34 (by decide) (fun c => ?_) (fun c => ?_)
    · rw [if_pos c] at e
      exact (t_Mod_write_70X s F z hz hb x1 x2 x3 x4 x5 m2 hq e hd (by omega) (by omega))
    · rw [if_neg c] at e
      refine g_iload_n k_Mod_write_37 rfl rfl ?_
      refine g_iconst (v := 0) k_Mod_write_38 rfl ?_
      refine g_iconst (v := 1) k_Mod_write_39 rfl ?_
      obtain ⟨y4, e_y4, e⟩ := o_b_ex e
      refine g_cs k_Mod_write_40 ls_Mod_236 (by decide +kernel) (s_Mod_in (bc := 0) (bs := 0) s x3 0 1 m2 e_y4) rfl rfl (Nat.le_of_ble_eq_true rfl) (by simp [Value.category]) (by omega) (by omega) (by omega) ?_
      refine g_if_eq (tgt := 70) k_Mod_write_43 (by decide) (fun c => ?_) (fun c => ?_)
      · rw [if_pos c] at e
        exact (t_Mod_write_70X s F z hz hb x1 x2 x3 x4 x5 m2 hq e hd (by omega) (by omega))
      · rw [if_neg c] at e
        refine g_iload k_Mod_write_46 rfl ?_
        refine g_iconst (v := 0) k_Mod_write_48 rfl ?_
        refine g_iconst (v := 3) k_Mod_write_49 rfl ?_
        obtain ⟨y5, e_y5, e⟩ := o_b_ex e
        refine g_cs k_Mod_write_50 ls_Mod_236 (by decide +kernel) (s_Mod_in (bc := 0) (bs := 0) s x4 0 3 m2 e_y5) rfl rfl (Nat.le_of_ble_eq_true rfl) (by simp [Value.category]) (by omega) (by omega) (by omega) ?_
        refine g_if_eq (tgt := 70) k_Mod_write_53 (by decide) (fun c => ?_) (fun c => ?_)
        · rw [if_pos c] at e
          exact (t_Mod_write_70X s F z hz hb x1 x2 x3 x4 x5 m2 hq e hd (by omega) (by omega))
        · rw [if_neg c] at e
          refine g_iload k_Mod_write_56 rfl ?_
          refine g_ldcw k_Mod_write_58 kc_Mod_381 ?_
          refine g_ldcw k_Mod_write_61 kc_Mod_382 ?_
          obtain ⟨y6, e_y6, e⟩ := o_b_ex e
          refine g_cs k_Mod_write_64 ls_Mod_236 (by decide +kernel) (s_Mod_in (bc := 0) (bs := 0) s x5 (-1000000) 1000000 m2 e_y6) rfl rfl (Nat.le_of_ble_eq_true rfl) (by simp [Value.category]) (by omega) (by omega) (by omega) ?_
          refine g_if_ne (tgt := 74) k_Mod_write_67 (by decide) (fun c => ?_) (fun c => ?_)
          · rw [if_pos c] at e
            exact (t_Mod_write_70X s F z hz hb x1 x2 x3 x4 x5 m2 hq e hd (by omega) (by omega))
          · rw [if_neg c] at e
            refine g_iconst (v := 0) k_Mod_write_74 rfl ?_
            exact (t_Mod_write_75X s F z hz hb x1 x2 x3 x4 x5 0 m2 hq e hd (by omega) (by omega))
  · rw [if_neg c] at e
    refine g_iconst (v := 0) k_Mod_write_104 rfl ?_
    refine g_iret k_Mod_write_105 rfl ?_
    exact (by cases e; exact hq _ ExL.rf hz)
theorem s_Mod_writeX {K : aK} {d bc bs : Nat} {g : aG} (s : SyM g) (F : Nat) (z : Nat) (hz : g.1 = z) (hb : 8692 ≤ g.1) (x1 : Int32) (x2 : Int32) (x3 : Int32) (x4 : Int32) (x5 : Int32) (m : aM) {r : Int32 × Nat} {m' : aM} (e : f_Mod_write F z x1 x2 x3 x4 x5 m = some (r, m')) (hd : 402 ≤ d) (hc : 2 ≤ bc) (hs : 8 ≤ bs) : SpR K M_Mod_write d bc bs [.ref 242, .int x1, .int x2, .int x3, .int x4, .int x5] (g, m) (fun v h' => ∃ g', ExL g g' ∧ g'.1 = r.2 ∧ v = (some (.int r.1)) ∧ h' = (g', m')) := by
  refine sp_alX ok_Mod_write rfl (Nat.le_of_ble_eq_true rfl) (by simp [Value.category]) (fun Q hq => ?_)
  unfold f_Mod_write at e
  refine g_aload_n k_Mod_write_0 rfl rfl ?_
  refine g_iconst (v := 0) k_Mod_write_1 rfl ?_
  refine p_puti k_Mod_write_2 fl_Mod_131 rfl ⟨R_Mod, F_Mod, 61, rfl, Or.inl rfl⟩ (sk_Mod s) (by decide) ?_
  obtain ⟨m1, u_m1, e⟩ := o_let_ex e
  refine G.hm u_m1 ?_
  refine g_aload_n k_Mod_write_5 rfl rfl ?_
  refine g_aload_n k_Mod_write_6 rfl rfl ?_
  refine g_iload_n k_Mod_write_7 rfl rfl ?_
  obtain ⟨y2, e_y2, e⟩ := o_b_ex e
  refine g_cv k_Mod_write_8 lv_Mod_369 (by decide +kernel) (T := F_Mod) (N := 61) (ci := 10) rfl (sk_Mod s) (s_Mod_isKey (bc := 0) (bs := 0) s x2 m1 e_y2 (by omega)) rfl rfl (Nat.le_of_ble_eq_true rfl) (by simp [Value.category]) (by omega) (by omega) (by omega) ?_
  refine g_if_ne (tgt := 18) k_Mod_write_11 (by decide) (fun c => ?_) (fun c => ?_)
  · rw [if_pos c] at e
    refine g_iconst (v := 1) k_Mod_write_14 rfl ?_
    refine g_goto (tgt := 19) k_Mod_write_15 (by decide) ?_
    exact (t_Mod_write_19X s F z hz hb x1 x2 x3 x4 x5 1 m1 hq e hd (by omega) (by omega))
  · rw [if_neg c] at e
    refine g_iconst (v := 0) k_Mod_write_18 rfl ?_
    exact (t_Mod_write_19X s F z hz hb x1 x2 x3 x4 x5 0 m1 hq e hd (by omega) (by omega))
theorem t_Mod_last_146X {K : aK} {d bc bs : Nat} {g : aG} (s : SyM g) {Q : aQ} {r : Int32 × Nat} {m' : aM} (F : Nat) (rec_122 : Nat → Nat → Int32 → Int32 → Int32 → aM → Option ((Int32 × Nat) × aM)) (hr_122 : ∀ (z : Nat) (hz : g.1 = z) (hb : 8692 ≤ g.1) (a3 : Nat) (h3 : g.2.1 a3 = (1, 6912)) (l3 : a3 < g.1) (x4 : Int32) (x5 : Int32) (x6 : Int32) (m : aM), rec_122 z a3 x4 x5 x6 m = some (r, m') → G K M_Mod_last d bc bs 122 [.ref 242, .double 0, .double 0, .ref a3, .int x4, .int x5, .int x6] [] (g, m) Q) (z : Nat) (hz : g.1 = z) (hb : 8692 ≤ g.1) (a3 : Nat) (h3 : g.2.1 a3 = (1, 6912)) (l3 : a3 < g.1) (x4 : Int32) (x6 : Int32) (xt0 : Int32) (m : aM) (hq : (∀ g', ExL g g' → g'.1 = r.2 → Q (.inl (some (.int r.1))) (g', m'))) (e : b_Mod_last_146 F rec_122 z a3 x4 x6 xt0 m = some (r, m')) (hd : 4 ≤ d) : G K M_Mod_last d bc bs 146 [.ref 242, .double 0, .double 0, .ref a3, .int x4, .double 0, .int x6] [.int xt0] (g, m) Q := by
  unfold b_Mod_last_146 at e
  refine g_istore k_Mod_last_146 (by decide) ?_
  refine g_aload_n k_Mod_last_148 rfl rfl ?_
  refine g_iload k_Mod_last_149 rfl ?_
  refine g_bipush (v := 32) k_Mod_last_151 rfl ?_
  refine g_idiv k_Mod_last_153 (by decide) ?_
  refine g_iload k_Mod_last_154 rfl ?_
  refine g_bipush (v := 32) k_Mod_last_156 rfl ?_
  refine g_irem k_Mod_last_158 (by decide) ?_
  refine g_aload_n k_Mod_last_159 rfl rfl ?_
  refine g_iload k_Mod_last_160 rfl ?_
  obtain ⟨y1, e_y1, e⟩ := o_b_ex e
  refine g_cv k_Mod_last_162 lv_Mod_342 (by decide +kernel) (T := F_Mod) (N := 61) (ci := 10) rfl (sk_Mod s) (s_Mod_firstStep (bc := 0) (bs := 0) s F x4 m e_y1 (by omega)) rfl rfl (Nat.le_of_ble_eq_true rfl) (by simp [Value.category]) (by omega) (by omega) (by omega) ?_
  obtain ⟨y2, e_y2, e⟩ := o_b_ex e
  refine g_cv k_Mod_last_165 lv_Mod_332 (by decide +kernel) (T := F_Mod) (N := 61) (ci := 10) rfl (sk_Mod s) (s_Mod_stepTo (bc := 0) (bs := 0) s (x4 / 32) (x4 % 32) y1 m e_y2 (by omega)) rfl rfl (Nat.le_of_ble_eq_true rfl) (by simp [Value.category]) (by omega) (by omega) (by omega) ?_
  refine g_istore k_Mod_last_168 (by decide) ?_
  refine g_iinc (v := _ + 1) k_Mod_last_170 rfl rfl (by decide) ?_
  refine g_goto (tgt := 122) k_Mod_last_173 (by decide) ?_
  exact (hr_122 z hz hb a3 h3 l3 y2 xt0 (x6 + 1) m e)
theorem tb_Mod_last_122X {K : aK} {d bc bs : Nat} {g : aG} (s : SyM g) {Q : aQ} {r : Int32 × Nat} {m' : aM} (F : Nat) (rec_122 : Nat → Nat → Int32 → Int32 → Int32 → aM → Option ((Int32 × Nat) × aM)) (hr_122 : ∀ (z : Nat) (hz : g.1 = z) (hb : 8692 ≤ g.1) (a3 : Nat) (h3 : g.2.1 a3 = (1, 6912)) (l3 : a3 < g.1) (x4 : Int32) (x5 : Int32) (x6 : Int32) (m : aM), rec_122 z a3 x4 x5 x6 m = some (r, m') → G K M_Mod_last d bc bs 122 [.ref 242, .double 0, .double 0, .ref a3, .int x4, .int x5, .int x6] [] (g, m) Q) (z : Nat) (hz : g.1 = z) (hb : 8692 ≤ g.1) (a3 : Nat) (h3 : g.2.1 a3 = (1, 6912)) (l3 : a3 < g.1) (x4 : Int32) (x5 : Int32) (x6 : Int32) (m : aM) (hq : (∀ g', ExL g g' → g'.1 = r.2 → Q (.inl (some (.int r.1))) (g', m'))) (e : lb_Mod_last_122 F rec_122 z a3 x4 x5 x6 m = some (r, m')) (hd : 4 ≤ d) : G K M_Mod_last d bc bs 122 [.ref 242, .double 0, .double 0, .ref a3, .int x4, .int x5, .int x6] [] (g, m) Q := by
  unfold lb_Mod_last_122 at e
  refine g_aload_n k_Mod_last_122 rfl rfl ?_
  refine p_getr k_Mod_last_123 fl_Mod_87 rfl (sk_Mod s) (by decide) (sr_Mod_43 s) ?_
  refine g_iload k_Mod_last_126 rfl ?_
  obtain ⟨q1, e⟩ := o_gd_ex e
  refine p_iald k_Mod_last_128 (sa_Mod_43 s) (inb_in q1) (j := x4.toNatClampNeg) rfl ?_
  refine g_if_le (tgt := 176) k_Mod_last_129 (by decide) (fun c => ?_) (fun c => ?_)
  · rw [if_pos c] at e
    refine g_aload_n k_Mod_last_176 rfl rfl ?_
    refine g_iload k_Mod_last_177 rfl ?_
    obtain ⟨q2, e⟩ := o_gd_ex e
    refine p_zald k_Mod_last_179 h3 (inb_in q2) (j := x4.toNatClampNeg) rfl ?_
    refine g_if_eq (tgt := 188) k_Mod_last_180 (by decide) (fun c => ?_) (fun c => ?_)
    · rw [if_pos c] at e
      refine g_iload k_Mod_last_188 rfl ?_
      refine g_iret k_Mod_last_190 rfl ?_
      exact (by cases e; exact hq _ ExL.rf hz)
    · rw [if_neg c] at e
      refine g_iload k_Mod_last_183 rfl ?_
      refine g_goto (tgt := 190) k_Mod_last_185 (by decide) ?_
      refine g_iret k_Mod_last_190 rfl ?_
      exact (by cases e; exact hq _ ExL.rf hz)
  · rw [if_neg c] at e
    refine g_aload_n k_Mod_last_132 rfl rfl ?_
    refine g_iload k_Mod_last_133 rfl ?_
    obtain ⟨q3, e⟩ := o_gd_ex e
    refine p_zald k_Mod_last_135 h3 (inb_in q3) (j := x4.toNatClampNeg) rfl ?_
    refine g_if_eq (tgt := 144) k_Mod_last_136 (by decide) (fun c => ?_) (fun c => ?_)
    · rw [if_pos c] at e
      refine g_iload k_Mod_last_144 rfl ?_
      exact G.wl (wls (wls (wls (wls (wls (wld (wls wl0))))))) (t_Mod_last_146X s F rec_122 hr_122 z hz hb a3 h3 l3 x4 x6 x5 m hq e hd)
    · rw [if_neg c] at e
      refine g_iload k_Mod_last_139 rfl ?_
      refine g_goto (tgt := 146) k_Mod_last_141 (by decide) ?_
      exact G.wl (wls (wls (wls (wls (wls (wld (wls wl0))))))) (t_Mod_last_146X s F rec_122 hr_122 z hz hb a3 h3 l3 x4 x6 x6 m hq e hd)
theorem t_Mod_last_122X {K : aK} {d bc bs : Nat} {g : aG} (s : SyM g) {Q : aQ} {r : Int32 × Nat} {m' : aM} (F : Nat) : ∀ (N : Nat) (z : Nat) (hz : g.1 = z) (hb : 8692 ≤ g.1) (a3 : Nat) (h3 : g.2.1 a3 = (1, 6912)) (l3 : a3 < g.1) (x4 : Int32) (x5 : Int32) (x6 : Int32) (m : aM), (∀ g', ExL g g' → g'.1 = r.2 → Q (.inl (some (.int r.1))) (g', m')) → ll_Mod_last_122 F N z a3 x4 x5 x6 m = some (r, m') → 4 ≤ d → G K M_Mod_last d bc bs 122 [.ref 242, .double 0, .double 0, .ref a3, .int x4, .int x5, .int x6] [] (g, m) Q
  | 0, _, _, _, _, _, _, _, _, _, _ => fun _ e => nomatch e
  | N + 1, z, hz, hb, a3, h3, l3, x4, x5, x6, m => fun hq e hd => tb_Mod_last_122X s F (ll_Mod_last_122 F N) (fun z hz hb a3 h3 l3 x4 x5 x6 m e => t_Mod_last_122X s F N z hz hb a3 h3 l3 x4 x5 x6 m hq e hd) z hz hb a3 h3 l3 x4 x5 x6 m hq e hd
theorem t_Mod_last_82X {K : aK} {d bc bs : Nat} {g : aG} (s : SyM g) {Q : aQ} {r : Int32 × Nat} {m' : aM} (F : Nat) (rec_55 : Nat → Int32 → Int32 → Nat → Int32 → aM → Option ((Int32 × Nat) × aM)) (hr_55 : ∀ (z : Nat) (hz : g.1 = z) (hb : 8692 ≤ g.1) (x1 : Int32) (x2 : Int32) (a3 : Nat) (h3 : g.2.1 a3 = (1, 6912)) (l3 : a3 < g.1) (x4 : Int32) (m : aM), rec_55 z x1 x2 a3 x4 m = some (r, m') → G K M_Mod_last d bc bs 55 [.ref 242, .int x1, .int x2, .ref a3, .int x4, .double 0, .double 0] [] (g, m) Q) (z : Nat) (hz : g.1 = z) (hb : 8692 ≤ g.1) (x1 : Int32) (x2 : Int32) (a3 : Nat) (h3 : g.2.1 a3 = (1, 6912)) (l3 : a3 < g.1) (x4 : Int32) (xt0 : Int32) (xt1 : Int32) (at2 : Nat) (ht2 : g.2.1 at2 = (1, 6912)) (lt2 : at2 < g.1) (m : aM) (hq : (∀ g', ExL g g' → g'.1 = r.2 → Q (.inl (some (.int r.1))) (g', m'))) (e : b_Mod_last_82 F rec_55 z x1 x2 a3 x4 xt0 xt1 at2 m = some (r, m')) (hd : 4 ≤ d) : G K M_Mod_last d bc bs 82 [.ref 242, .int x1, .int x2, .ref a3, .int x4, .double 0, .double 0] [.int xt0, .int xt1, .ref at2] (g, m) Q := by
  unfold b_Mod_last_82 at e
  obtain ⟨q1, e⟩ := o_gd_ex e
  obtain ⟨q2, e⟩ := o_gd_ex e
  refine p_zast k_Mod_last_82 ht2 (inb_in q1) (j := xt1.toNatClampNeg) rfl (isb_or q2) ?_
  obtain ⟨m3, u_m3, e⟩ := o_let_ex e
  refine G.hm u_m3 ?_
  refine g_iinc (v := _ + 1) k_Mod_last_83 rfl rfl (by decide) ?_
  refine g_goto (tgt := 55) k_Mod_last_86 (by decide) ?_
  exact (hr_55 z hz hb x1 x2 a3 h3 l3 (x4 + 1) m3 e)
theorem tb_Mod_last_55X {K : aK} {d bc bs : Nat} {g : aG} (s : SyM g) {Q : aQ} {r : Int32 × Nat} {m' : aM} (F : Nat) (rec_55 : Nat → Int32 → Int32 → Nat → Int32 → aM → Option ((Int32 × Nat) × aM)) (hr_55 : ∀ (z : Nat) (hz : g.1 = z) (hb : 8692 ≤ g.1) (x1 : Int32) (x2 : Int32) (a3 : Nat) (h3 : g.2.1 a3 = (1, 6912)) (l3 : a3 < g.1) (x4 : Int32) (m : aM), rec_55 z x1 x2 a3 x4 m = some (r, m') → G K M_Mod_last d bc bs 55 [.ref 242, .int x1, .int x2, .ref a3, .int x4, .double 0, .double 0] [] (g, m) Q) (z : Nat) (hz : g.1 = z) (hb : 8692 ≤ g.1) (x1 : Int32) (x2 : Int32) (a3 : Nat) (h3 : g.2.1 a3 = (1, 6912)) (l3 : a3 < g.1) (x4 : Int32) (m : aM) (hq : (∀ g', ExL g g' → g'.1 = r.2 → Q (.inl (some (.int r.1))) (g', m'))) (e : lb_Mod_last_55 F rec_55 z x1 x2 a3 x4 m = some (r, m')) (hd : 4 ≤ d) : G K M_Mod_last d bc bs 55 [.ref 242, .int x1, .int x2, .ref a3, .int x4, .double 0, .double 0] [] (g, m) Q := by
  unfold lb_Mod_last_55 at e
  refine g_iload k_Mod_last_55 rfl ?_
  refine g_sipush (v := 6912) k_Mod_last_57 rfl ?_
  refine g_icmp_ge (tgt := 89) k_Mod_last_60 (by decide) (fun c => ?_) (fun c => ?_)
  · rw [if_pos c] at e
    refine g_aload_n k_Mod_last_89 rfl rfl ?_
    refine g_iconst (v := 5) k_Mod_last_90 rfl ?_
    refine g_iconst (v := 0) k_Mod_last_91 rfl ?_
    obtain ⟨y1, m2, e_y1, e⟩ := o_b2_ex e
    refine g_cv k_Mod_last_92 lv_Mod_339 (by decide +kernel) (T := F_Mod) (N := 61) (ci := 10) rfl (sk_Mod s) (s_Mod_findBest (bc := 0) (bs := 0) s F 5 0 m e_y1 (by omega)) rfl rfl (Nat.le_of_ble_eq_true rfl) (by simp [Value.category]) (by omega) (by omega) (by omega) ?_
    refine g_bipush (v := 32) k_Mod_last_95 rfl ?_
    refine g_iload_n k_Mod_last_97 rfl rfl ?_
    refine g_imul k_Mod_last_98 ?_
    refine g_iload_n k_Mod_last_99 rfl rfl ?_
    refine g_iadd k_Mod_last_100 ?_
    refine g_istore k_Mod_last_101 (by decide) ?_
    refine g_iconst (v := (-1)) k_Mod_last_103 rfl ?_
    refine g_istore k_Mod_last_104 (by decide) ?_
    refine g_aload_n k_Mod_last_106 rfl rfl ?_
    refine p_getr k_Mod_last_107 fl_Mod_87 rfl (sk_Mod s) (by decide) (sr_Mod_43 s) ?_
    refine g_iload k_Mod_last_110 rfl ?_
    obtain ⟨q3, e⟩ := o_gd_ex e
    refine p_iald k_Mod_last_112 (sa_Mod_43 s) (inb_in q3) (j := ((32 * x1) + x2).toNatClampNeg) rfl ?_
    obtain ⟨y4, u_y4, e⟩ := o_let_ex e
    refine G.vy u_y4 ?_
    refine g_iconst (v := (-1)) k_Mod_last_113 rfl ?_
    refine g_icmp_ne (tgt := 119) k_Mod_last_114 (by decide) (fun c => ?_) (fun c => ?_)
    · rw [if_pos c] at e
      refine g_iconst (v := (-1)) k_Mod_last_117 rfl ?_
      refine g_iret k_Mod_last_118 rfl ?_
      exact (by cases e; exact hq _ ExL.rf hz)
    · rw [if_neg c] at e
      refine g_iconst (v := 0) k_Mod_last_119 rfl ?_
      refine g_istore k_Mod_last_120 (by decide) ?_
      exact G.wl (wls (wld (wld (wls (wls (wls (wls wl0))))))) (t_Mod_last_122X s F F z hz hb a3 h3 l3 ((32 * x1) + x2) (-1) 0 m2 hq e hd)
  · rw [if_neg c] at e
    refine g_aload_n k_Mod_last_63 rfl rfl ?_
    refine g_iload k_Mod_last_64 rfl ?_
    refine g_aload_n k_Mod_last_66 rfl rfl ?_
    refine p_getr k_Mod_last_67 fl_Mod_87 rfl (sk_Mod s) (by decide) (sr_Mod_43 s) ?_
    refine g_iload k_Mod_last_70 rfl ?_
    obtain ⟨q5, e⟩ := o_gd_ex e
    refine p_iald k_Mod_last_72 (sa_Mod_43 s) (inb_in q5) (j := x4.toNatClampNeg) rfl ?_
    refine g_iconst (v := (-1)) k_Mod_last_73 rfl ?_
    refine g_icmp_eq (tgt := 81) k_Mod_last_74 (by decide) (fun c => ?_) (fun c => ?_)
    · rw [if_pos c] at e
      refine g_iconst (v := 0) k_Mod_last_81 rfl ?_
      exact (t_Mod_last_82X s F rec_55 hr_55 z hz hb x1 x2 a3 h3 l3 x4 0 x4 a3 h3 l3 m hq e hd)
    · rw [if_neg c] at e
      refine g_iconst (v := 1) k_Mod_last_77 rfl ?_
      refine g_goto (tgt := 82) k_Mod_last_78 (by decide) ?_
      exact (t_Mod_last_82X s F rec_55 hr_55 z hz hb x1 x2 a3 h3 l3 x4 1 x4 a3 h3 l3 m hq e hd)
theorem t_Mod_last_55X {K : aK} {d bc bs : Nat} {g : aG} (s : SyM g) {Q : aQ} {r : Int32 × Nat} {m' : aM} (F : Nat) : ∀ (N : Nat) (z : Nat) (hz : g.1 = z) (hb : 8692 ≤ g.1) (x1 : Int32) (x2 : Int32) (a3 : Nat) (h3 : g.2.1 a3 = (1, 6912)) (l3 : a3 < g.1) (x4 : Int32) (m : aM), (∀ g', ExL g g' → g'.1 = r.2 → Q (.inl (some (.int r.1))) (g', m')) → ll_Mod_last_55 F N z x1 x2 a3 x4 m = some (r, m') → 4 ≤ d → G K M_Mod_last d bc bs 55 [.ref 242, .int x1, .int x2, .ref a3, .int x4, .double 0, .double 0] [] (g, m) Q
  | 0, _, _, _, _, _, _, _, _, _, _ => fun _ e => nomatch e
  | N + 1, z, hz, hb, x1, x2, a3, h3, l3, x4, m => fun hq e hd => tb_Mod_last_55X s F (ll_Mod_last_55 F N) (fun z hz hb x1 x2 a3 h3 l3 x4 m e => t_Mod_last_55X s F N z hz hb x1 x2 a3 h3 l3 x4 m hq e hd) z hz hb x1 x2 a3 h3 l3 x4 m hq e hd
theorem t_Mod_last_20X {K : aK} {d bc bs : Nat} {g : aG} (s : SyM g) {Q : aQ} {r : Int32 × Nat} {m' : aM} (F : Nat) (z : Nat) (hz : g.1 = z) (hb : 8692 ≤ g.1) (x1 : Int32) (x2 : Int32) (xt0 : Int32) (m : aM) (hq : (∀ g', ExL g g' → g'.1 = r.2 → Q (.inl (some (.int r.1))) (g', m'))) (e : b_Mod_last_20 F z x1 x2 xt0 m = some (r, m')) (hd : 4 ≤ d) (hc : 1 ≤ bc) (hs : 6912 ≤ bs) : G K M_Mod_last d bc bs 20 [.ref 242, .int x1, .int x2, .double 0, .double 0, .double 0, .double 0] [.int xt0, .ref 242] (g, m) Q := by
  unfold b_Mod_last_20 at e
  refine g_iconst (v := 1) k_Mod_last_20 rfl ?_
  obtain ⟨y1, m2, e_y1, e⟩ := o_b2_ex e
  refine g_cv k_Mod_last_21 lv_Mod_240 (by decide +kernel) (T := F_Mod) (N := 61) (ci := 10) rfl (sk_Mod s) (s_Mod_bad (bc := 0) (bs := 0) s xt0 1 m e_y1) rfl rfl (Nat.le_of_ble_eq_true rfl) (by simp [Value.category]) (by omega) (by omega) (by omega) ?_
  refine g_if_eq (tgt := 29) k_Mod_last_24 (by decide) (fun c => ?_) (fun c => ?_)
  · rw [if_pos c] at e
    refine g_aload_n k_Mod_last_29 rfl rfl ?_
    refine g_iload_n k_Mod_last_30 rfl rfl ?_
    refine g_iload_n k_Mod_last_31 rfl rfl ?_
    obtain ⟨y3, e_y3, e⟩ := o_b_ex e
    refine g_cv k_Mod_last_32 lv_Mod_329 (by decide +kernel) (T := F_Mod) (N := 61) (ci := 10) rfl (sk_Mod s) (s_Mod_stands0 (bc := 0) (bs := 0) s F x1 x2 m2 e_y3 (by omega)) rfl rfl (Nat.le_of_ble_eq_true rfl) (by simp [Value.category]) (by omega) (by omega) (by omega) ?_
    refine g_if_ne (tgt := 40) k_Mod_last_35 (by decide) (fun c => ?_) (fun c => ?_)
    · rw [if_pos c] at e
      refine g_iconst (v := (-1)) k_Mod_last_38 rfl ?_
      refine g_iret k_Mod_last_39 rfl ?_
      exact (by cases e; exact hq _ ExL.rf hz)
    · rw [if_neg c] at e
      refine g_sipush (v := 6912) k_Mod_last_40 rfl ?_
      refine al_newX (t := 1) (N := 6912) s hz hb k_Mod_last_43 rfl (by decide) ac_boolean (by decide) (by decide) (by decide) (by omega) (by omega) (fun g s x hz hA4 => ?_)
      have hq := fun g' y => hq g' (x.tr y)
      have hb := Nat.le_trans hb x.1
      have lA4 : z < g.1 := by omega
      obtain ⟨m5, u_m5, e⟩ := o_let_ex e
      refine G.hm u_m5 ?_
      refine g_astore_n k_Mod_last_45 rfl (by decide) ?_
      refine g_aload_n k_Mod_last_46 rfl rfl ?_
      refine g_iconst (v := 0) k_Mod_last_47 rfl ?_
      refine g_iconst (v := 1) k_Mod_last_48 rfl ?_
      obtain ⟨y6, m7, e_y6, e⟩ := o_b2_ex e
      refine g_cv k_Mod_last_49 lv_Mod_339 (by decide +kernel) (T := F_Mod) (N := 61) (ci := 10) rfl (sk_Mod s) (s_Mod_findBest (bc := 0) (bs := 0) s F 0 1 m5 e_y6 (by omega)) rfl rfl (Nat.le_of_ble_eq_true rfl) (by simp [Value.category]) (by omega) (by omega) (by omega) ?_
      refine g_iconst (v := 0) k_Mod_last_52 rfl ?_
      refine g_istore k_Mod_last_53 (by decide) ?_
      exact (t_Mod_last_55X s F F (z + 1) hz hb x1 x2 z hA4 lA4 0 m7 hq e hd)
  · rw [if_neg c] at e
    refine g_iconst (v := 0) k_Mod_last_27 rfl ?_
    refine g_iret k_Mod_last_28 rfl ?_
    exact (by cases e; exact hq _ ExL.rf hz)
theorem s_Mod_lastX {K : aK} {d bc bs : Nat} {g : aG} (s : SyM g) (F : Nat) (z : Nat) (hz : g.1 = z) (hb : 8692 ≤ g.1) (x1 : Int32) (x2 : Int32) (m : aM) {r : Int32 × Nat} {m' : aM} (e : f_Mod_last F z x1 x2 m = some (r, m')) (hd : 4 ≤ d) (hc : 1 ≤ bc) (hs : 6912 ≤ bs) : SpR K M_Mod_last d bc bs [.ref 242, .int x1, .int x2] (g, m) (fun v h' => ∃ g', ExL g g' ∧ g'.1 = r.2 ∧ v = (some (.int r.1)) ∧ h' = (g', m')) := by
  refine sp_alX ok_Mod_last rfl (Nat.le_of_ble_eq_true rfl) (by simp [Value.category]) (fun Q hq => ?_)
  unfold f_Mod_last at e
  refine g_aload_n k_Mod_last_0 rfl rfl ?_
  refine g_iconst (v := 0) k_Mod_last_1 rfl ?_
  refine p_puti k_Mod_last_2 fl_Mod_131 rfl ⟨R_Mod, F_Mod, 61, rfl, Or.inl rfl⟩ (sk_Mod s) (by decide) ?_
  obtain ⟨m1, u_m1, e⟩ := o_let_ex e
  refine G.hm u_m1 ?_
  refine g_aload_n k_Mod_last_5 rfl rfl ?_
  refine g_aload_n k_Mod_last_6 rfl rfl ?_
  refine g_iload_n k_Mod_last_7 rfl rfl ?_
  refine g_iload_n k_Mod_last_8 rfl rfl ?_
  obtain ⟨y2, e_y2, e⟩ := o_b_ex e
  refine g_cv k_Mod_last_9 lv_Mod_325 (by decide +kernel) (T := F_Mod) (N := 61) (ci := 10) rfl (sk_Mod s) (s_Mod_isNode (bc := 0) (bs := 0) s x1 x2 m1 e_y2 (by omega)) rfl rfl (Nat.le_of_ble_eq_true rfl) (by simp [Value.category]) (by omega) (by omega) (by omega) ?_
  refine g_if_ne (tgt := 19) k_Mod_last_12 (by decide) (fun c => ?_) (fun c => ?_)
  · rw [if_pos c] at e
    refine g_iconst (v := 1) k_Mod_last_15 rfl ?_
    refine g_goto (tgt := 20) k_Mod_last_16 (by decide) ?_
    exact (t_Mod_last_20X s F z hz hb x1 x2 1 m1 hq e hd (by omega) (by omega))
  · rw [if_neg c] at e
    refine g_iconst (v := 0) k_Mod_last_19 rfl ?_
    exact (t_Mod_last_20X s F z hz hb x1 x2 0 m1 hq e hd (by omega) (by omega))

