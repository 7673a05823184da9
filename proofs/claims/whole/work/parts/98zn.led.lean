/-! CONSTRUCTORS: LedTables (made by wip/gen/co3.py) -/
theorem ShLen.rq {g g1 : aG} {a c : Nat} (s : ShLen g a) (q2 : ∀ b, g1.2.1 b = g.2.1 b) (q3 : ∀ b j, b ≠ c → g1.2.2.1 b j = g.2.2.1 b j) (h : a ≠ c) : ShLen g1 a := ⟨(q2 a).trans s.1, (q3 a _ h).trans s.2.1, (q2 (a + 1)).trans s.2.2.1, (q3 a _ h).trans s.2.2.2.1, (q2 (a + 2)).trans s.2.2.2.2.1, (q3 a _ h).trans s.2.2.2.2.2.1, (q2 (a + 3)).trans s.2.2.2.2.2.2.1, (q3 a _ h).trans s.2.2.2.2.2.2.2.1, (q2 (a + 4)).trans s.2.2.2.2.2.2.2.2.1, (q3 a _ h).trans s.2.2.2.2.2.2.2.2.2.1, (q2 (a + 5)).trans s.2.2.2.2.2.2.2.2.2.2.1, (q3 a _ h).trans s.2.2.2.2.2.2.2.2.2.2.2.1, (q2 (a + 6)).trans s.2.2.2.2.2.2.2.2.2.2.2.2.1, (q3 a _ h).trans s.2.2.2.2.2.2.2.2.2.2.2.2.2.1, (q2 (a + 7)).trans s.2.2.2.2.2.2.2.2.2.2.2.2.2.2.1, (q3 a _ h).trans s.2.2.2.2.2.2.2.2.2.2.2.2.2.2.2.1, (q2 (a + 8)).trans s.2.2.2.2.2.2.2.2.2.2.2.2.2.2.2.2⟩
theorem ShBox.rq {g g1 : aG} {a c : Nat} (s : ShBox g a) (q2 : ∀ b, g1.2.1 b = g.2.1 b) (q3 : ∀ b j, b ≠ c → g1.2.2.1 b j = g.2.2.1 b j) (h : a ≠ c) : ShBox g1 a := ⟨(q2 a).trans s.1, (q3 a _ h).trans s.2.1, (q2 (a + 1)).trans s.2.2.1, (q3 a _ h).trans s.2.2.2.1, (q2 (a + 2)).trans s.2.2.2.2.1, (q3 a _ h).trans s.2.2.2.2.2.1, (q2 (a + 3)).trans s.2.2.2.2.2.2.1, (q3 a _ h).trans s.2.2.2.2.2.2.2.1, (q2 (a + 4)).trans s.2.2.2.2.2.2.2.2.1, (q3 a _ h).trans s.2.2.2.2.2.2.2.2.2.1, (q2 (a + 5)).trans s.2.2.2.2.2.2.2.2.2.2.1, (q3 a _ h).trans s.2.2.2.2.2.2.2.2.2.2.2.1, (q2 (a + 6)).trans s.2.2.2.2.2.2.2.2.2.2.2.2.1, (q3 a _ h).trans s.2.2.2.2.2.2.2.2.2.2.2.2.2.1, (q2 (a + 7)).trans s.2.2.2.2.2.2.2.2.2.2.2.2.2.2⟩
theorem ShPla.rq {g g1 : aG} {a c : Nat} (s : ShPla g a) (q2 : ∀ b, g1.2.1 b = g.2.1 b) (q3 : ∀ b j, b ≠ c → g1.2.2.1 b j = g.2.2.1 b j) (h : a ≠ c) : ShPla g1 a := ⟨(q2 a).trans s.1, (q3 a _ h).trans s.2.1, (q2 (a + 1)).trans s.2.2.1, (q3 a _ h).trans s.2.2.2.1, (q2 (a + 2)).trans s.2.2.2.2.1, (q3 a _ h).trans s.2.2.2.2.2.1, (q2 (a + 3)).trans s.2.2.2.2.2.2.1, (q3 a _ h).trans s.2.2.2.2.2.2.2.1, (q2 (a + 4)).trans s.2.2.2.2.2.2.2.2.1, (q3 a _ h).trans s.2.2.2.2.2.2.2.2.2.1, (q2 (a + 5)).trans s.2.2.2.2.2.2.2.2.2.2⟩
theorem ShAsk.rq {g g1 : aG} {a c : Nat} (s : ShAsk g a) (q2 : ∀ b, g1.2.1 b = g.2.1 b) (q3 : ∀ b j, b ≠ c → g1.2.2.1 b j = g.2.2.1 b j) (h : a ≠ c) : ShAsk g1 a := ⟨(q2 a).trans s.1, (q3 a _ h).trans s.2.1, (q2 (a + 1)).trans s.2.2⟩
theorem ShTab.rq {g g1 : aG} {a c : Nat} (s : ShTab g a) (q2 : ∀ b, g1.2.1 b = g.2.1 b) (q3 : ∀ b j, b ≠ c → g1.2.2.1 b j = g.2.2.1 b j) (h : a ≠ c) : ShTab g1 a := ⟨(q2 a).trans s.1, (q3 a _ h).trans s.2.1, (q2 (a + 1)).trans s.2.2.1, (q3 a _ h).trans s.2.2.2.1, (q2 (a + 2)).trans s.2.2.2.2.1, (q3 a _ h).trans s.2.2.2.2.2.1, (q2 (a + 3)).trans s.2.2.2.2.2.2.1, (q3 a _ h).trans s.2.2.2.2.2.2.2.1, (q2 (a + 4)).trans s.2.2.2.2.2.2.2.2⟩
theorem ShRow.rq {g g1 : aG} {a c : Nat} (s : ShRow g a) (q2 : ∀ b, g1.2.1 b = g.2.1 b) (q3 : ∀ b j, b ≠ c → g1.2.2.1 b j = g.2.2.1 b j) (h : a ≠ c) : ShRow g1 a := ⟨(q2 a).trans s.1, (q3 a _ h).trans s.2.1, (q2 (a + 1)).trans s.2.2.1, (q3 a _ h).trans s.2.2.2.1, (q2 (a + 2)).trans s.2.2.2.2.1, (q3 a _ h).trans s.2.2.2.2.2.1, (q2 (a + 3)).trans s.2.2.2.2.2.2.1, (q3 a _ h).trans s.2.2.2.2.2.2.2.1, (q2 (a + 4)).trans s.2.2.2.2.2.2.2.2⟩
def f_Led_init (F : Nat) (m : aM) : Option (Int32 × aM) :=
  o_let (a_zr m 1) fun m1 =>
  o_let (a_st m1 0 1 0) fun m2 =>
  o_let (a_zr m2 2) fun m3 =>
  o_b2 (f_Len_init F 2 m3) fun y4 m4 =>
  o_let (a_zr m4 11) fun m5 =>
  o_let (a_zr m5 12) fun m6 =>
  o_b2 (f_Len_init F 12 m6) fun y7 m7 =>
  o_let (a_st m7 0 4 (-1)) fun m8 =>
  o_let (a_zr m8 21) fun m9 =>
  o_b2 (f_Box_init 21 m9) fun y10 m10 =>
  o_let (a_zr m10 29) fun m11 =>
  o_b2 (f_Pla_init F 29 m11) fun y12 m12 =>
  o_let (a_zr m12 35) fun m13 =>
  o_b2 (f_Ask_init F 35 m13) fun y14 m14 =>
  o_let (a_zr m14 37) fun m15 =>
  o_b2 (f_Tab_init 37 m15) fun y16 m16 =>
  some ((0 : Int32), m16)
theorem s_Led_init {K : aK} {d bc bs : Nat} {g : aG} (F : Nat) (hz : g.1 = 1) (hk : g.2.1 0 = (10 + 9, 10)) (m : aM) {m' : aM} {w0 : Int32} (e : f_Led_init F m = some (w0, m')) (hd : 3 ≤ d) (hc : 241 ≤ bc) (hs : 3432 ≤ bs) : SpR K M_Led_init d bc bs [.ref 0] (g, m) (fun v h' => ∃ g', v = none ∧ h' = (g', m') ∧ g'.1 = 242 ∧ Sys g' ∧ g'.2.2.1 0 7 = none ∧ g'.2.2.1 21 8 = none) := by
  refine spr_of ok_Led_init rfl (Nat.le_of_ble_eq_true rfl) (by simp [Value.category]) (fun Q hq => ?_)
  unfold f_Led_init at e
  refine g_aload_n k_Led_init_0 rfl rfl ?_
  refine g_ob k_Led_init_1 ob_Led_3 (Nat.le_of_ble_eq_true rfl) (by omega) ?_
  refine g_aload_n k_Led_init_4 rfl rfl ?_
  refine g_sipush (v := 400) k_Led_init_5 rfl ?_
  refine co_na (t := 0) (N := 400) hz k_Led_init_8 rfl (by decide) ac_int (by decide) (by decide) (by decide) (by omega) (by omega) (fun g hz x hA hN => ?_)
  have hk := (x 0 (by omega)).1.trans hk
  have k1 := hA
  obtain ⟨m1, u_m1, e⟩ := o_let_ex e
  refine G.hm u_m1 ?_
  refine co_pr k_Led_init_10 fl_Led_11 rfl ⟨R_Led, F_Led, 10, rfl, Or.inr ⟨rfl, rfl, rfl⟩⟩ hk (by decide) (fun g x => ?_)
  have hk := (x.2.1 0).trans hk
  have k1 := (x.2.1 1).trans k1
  have hz := x.1.trans hz
  have r0 := x.2.2.2
  refine g_aload_n k_Led_init_13 rfl rfl ?_
  refine g_iconst (v := 0) k_Led_init_14 rfl ?_
  refine p_puti k_Led_init_15 fl_Led_15 rfl ⟨R_Led, F_Led, 10, rfl, Or.inl rfl⟩ hk (by decide) ?_
  obtain ⟨m2, u_m2, e⟩ := o_let_ex e
  refine G.hm u_m2 ?_
  refine g_aload_n k_Led_init_18 rfl rfl ?_
  refine co_no hz k_Led_init_19 nl_Led_19 (by decide +kernel) (by omega) (by omega) (fun g hz x hA hN => ?_)
  have hk := (x 0 (by omega)).1.trans hk
  have k1 := (x 1 (by omega)).1.trans k1
  have r0 := ((x 0 (by omega)).2 0).trans r0
  have k2 := hA
  obtain ⟨m3, u_m3, e⟩ := o_let_ex e
  refine G.hm u_m3 ?_
  refine g_dup k_Led_init_22 rfl ?_
  obtain ⟨y4, m4, e_4, e⟩ := o_b2_ex e
  refine g_ciG (bc' := 8) (bs' := 916) k_Led_init_23 li_Led_21 (s_Len_init F 2 hz k2 m3 e_4 (by omega) (by omega) (by omega)) rfl rfl (Nat.le_of_ble_eq_true rfl) (by simp [Value.category]) (by omega) (by omega) (by omega) (fun g r => ?_)
  obtain ⟨hz, x, sL2⟩ := r
  have hk := (x 0 (by omega)).1.trans hk
  have k1 := (x 1 (by omega)).1.trans k1
  have r0 := ((x 0 (by omega)).2 0).trans r0
  refine co_pr k_Led_init_26 fl_Led_22 rfl ⟨R_Led, F_Led, 10, rfl, Or.inr ⟨rfl, rfl, rfl⟩⟩ hk (by decide) (fun g x => ?_)
  have hk := (x.2.1 0).trans hk
  have k1 := (x.2.1 1).trans k1
  have r0 := (x.2.2.1 0 0 (by omega)).trans r0
  have sL2 := sL2.pt x (by decide)
  have hz := x.1.trans hz
  have r2 := x.2.2.2
  refine g_aload_n k_Led_init_29 rfl rfl ?_
  refine co_no hz k_Led_init_30 nl_Led_26 (by decide +kernel) (by omega) (by omega) (fun g hz x hA hN => ?_)
  have hk := (x 0 (by omega)).1.trans hk
  have k1 := (x 1 (by omega)).1.trans k1
  have r0 := ((x 0 (by omega)).2 0).trans r0
  have sL2 := sL2.bl x (by omega)
  have r2 := ((x 0 (by omega)).2 2).trans r2
  have k11 := hA
  obtain ⟨m5, u_m5, e⟩ := o_let_ex e
  refine G.hm u_m5 ?_
  refine g_dup k_Led_init_33 rfl ?_
  refine g_aload_n k_Led_init_34 rfl rfl ?_
  refine p_getr k_Led_init_35 fl_Led_11 rfl hk (by decide) r0 ?_
  refine co_no hz k_Led_init_38 nl_Led_19 (by decide +kernel) (by omega) (by omega) (fun g hz x hA hN => ?_)
  have hk := (x 0 (by omega)).1.trans hk
  have k1 := (x 1 (by omega)).1.trans k1
  have r0 := ((x 0 (by omega)).2 0).trans r0
  have sL2 := sL2.bl x (by omega)
  have r2 := ((x 0 (by omega)).2 2).trans r2
  have k11 := (x 11 (by omega)).1.trans k11
  have k12 := hA
  obtain ⟨m6, u_m6, e⟩ := o_let_ex e
  refine G.hm u_m6 ?_
  refine g_dup k_Led_init_41 rfl ?_
  obtain ⟨y7, m7, e_7, e⟩ := o_b2_ex e
  refine g_ciG (bc' := 8) (bs' := 916) k_Led_init_42 li_Led_21 (s_Len_init F 12 hz k12 m6 e_7 (by omega) (by omega) (by omega)) rfl rfl (Nat.le_of_ble_eq_true rfl) (by simp [Value.category]) (by omega) (by omega) (by omega) (fun g r => ?_)
  obtain ⟨hz, x, sL12⟩ := r
  have hk := (x 0 (by omega)).1.trans hk
  have k1 := (x 1 (by omega)).1.trans k1
  have r0 := ((x 0 (by omega)).2 0).trans r0
  have sL2 := sL2.bl x (by omega)
  have r2 := ((x 0 (by omega)).2 2).trans r2
  have k11 := (x 11 (by omega)).1.trans k11
  refine g_ciG (bc' := 0) (bs' := 0) k_Led_init_45 li_Led_28 (s_Rea_initG 11 k11 1 12 m7 (by omega)) rfl rfl (Nat.le_of_ble_eq_true rfl) (by simp [Value.category]) (by omega) (by omega) (by omega) (fun g r => ?_)
  obtain ⟨q1, q2, q3, q4, q5⟩ := r
  have hk := (q2 0).trans hk
  have k1 := (q2 1).trans k1
  have r0 := (q3 0 0 (by decide)).trans r0
  have sL2 := sL2.rq q2 q3 (by decide)
  have r2 := (q3 0 2 (by decide)).trans r2
  have k11 := (q2 11).trans k11
  have sL12 := sL12.rq q2 q3 (by decide)
  have hz := q1.trans hz
  have ra0 := q4
  have ra5 := q5
  refine co_pr k_Led_init_48 fl_Led_31 rfl ⟨R_Led, F_Led, 10, rfl, Or.inr ⟨rfl, rfl, rfl⟩⟩ hk (by decide) (fun g x => ?_)
  have hk := (x.2.1 0).trans hk
  have k1 := (x.2.1 1).trans k1
  have r0 := (x.2.2.1 0 0 (by omega)).trans r0
  have sL2 := sL2.pt x (by decide)
  have r2 := (x.2.2.1 0 2 (by omega)).trans r2
  have k11 := (x.2.1 11).trans k11
  have sL12 := sL12.pt x (by decide)
  have ra0 := (x.2.2.1 11 0 (by omega)).trans ra0
  have ra5 := (x.2.2.1 11 5 (by omega)).trans ra5
  have hz := x.1.trans hz
  have r3 := x.2.2.2
  refine g_aload_n k_Led_init_51 rfl rfl ?_
  refine g_iconst (v := (-1)) k_Led_init_52 rfl ?_
  refine p_puti k_Led_init_53 fl_Led_35 rfl ⟨R_Led, F_Led, 10, rfl, Or.inl rfl⟩ hk (by decide) ?_
  obtain ⟨m8, u_m8, e⟩ := o_let_ex e
  refine G.hm u_m8 ?_
  refine g_aload_n k_Led_init_56 rfl rfl ?_
  refine co_no hz k_Led_init_57 nl_Led_38 (by decide +kernel) (by omega) (by omega) (fun g hz x hA hN => ?_)
  have hk := (x 0 (by omega)).1.trans hk
  have k1 := (x 1 (by omega)).1.trans k1
  have r0 := ((x 0 (by omega)).2 0).trans r0
  have sL2 := sL2.bl x (by omega)
  have r2 := ((x 0 (by omega)).2 2).trans r2
  have k11 := (x 11 (by omega)).1.trans k11
  have sL12 := sL12.bl x (by omega)
  have ra0 := ((x 11 (by omega)).2 0).trans ra0
  have ra5 := ((x 11 (by omega)).2 5).trans ra5
  have r3 := ((x 0 (by omega)).2 3).trans r3
  have k21 := hA
  obtain ⟨m9, u_m9, e⟩ := o_let_ex e
  refine G.hm u_m9 ?_
  refine g_dup k_Led_init_60 rfl ?_
  refine g_aload_n k_Led_init_61 rfl rfl ?_
  refine p_getr k_Led_init_62 fl_Led_22 rfl hk (by decide) r2 ?_
  obtain ⟨y10, m10, e_10, e⟩ := o_b2_ex e
  refine g_ciG (bc' := 7) (bs' := 28) k_Led_init_65 li_Led_40 (s_Box_init 21 hz k21 2 m9 e_10 (by omega) (by omega) (by omega)) rfl rfl (Nat.le_of_ble_eq_true rfl) (by simp [Value.category]) (by omega) (by omega) (by omega) (fun g r => ?_)
  obtain ⟨hz, x, sBox, rb0, rb8⟩ := r
  have hk := (x 0 (by omega)).1.trans hk
  have k1 := (x 1 (by omega)).1.trans k1
  have r0 := ((x 0 (by omega)).2 0).trans r0
  have sL2 := sL2.bl x (by omega)
  have r2 := ((x 0 (by omega)).2 2).trans r2
  have k11 := (x 11 (by omega)).1.trans k11
  have sL12 := sL12.bl x (by omega)
  have ra0 := ((x 11 (by omega)).2 0).trans ra0
  have ra5 := ((x 11 (by omega)).2 5).trans ra5
  have r3 := ((x 0 (by omega)).2 3).trans r3
  refine co_pr k_Led_init_68 fl_Led_43 rfl ⟨R_Led, F_Led, 10, rfl, Or.inr ⟨rfl, rfl, rfl⟩⟩ hk (by decide) (fun g x => ?_)
  have hk := (x.2.1 0).trans hk
  have k1 := (x.2.1 1).trans k1
  have r0 := (x.2.2.1 0 0 (by omega)).trans r0
  have sL2 := sL2.pt x (by decide)
  have r2 := (x.2.2.1 0 2 (by omega)).trans r2
  have k11 := (x.2.1 11).trans k11
  have sL12 := sL12.pt x (by decide)
  have ra0 := (x.2.2.1 11 0 (by omega)).trans ra0
  have ra5 := (x.2.2.1 11 5 (by omega)).trans ra5
  have r3 := (x.2.2.1 0 3 (by omega)).trans r3
  have sBox := sBox.pt x (by decide)
  have rb0 := (x.2.2.1 21 0 (by omega)).trans rb0
  have rb8 := (x.2.2.1 21 8 (by omega)).trans rb8
  have hz := x.1.trans hz
  have r5 := x.2.2.2
  refine g_aload_n k_Led_init_71 rfl rfl ?_
  refine co_no hz k_Led_init_72 nl_Led_47 (by decide +kernel) (by omega) (by omega) (fun g hz x hA hN => ?_)
  have hk := (x 0 (by omega)).1.trans hk
  have k1 := (x 1 (by omega)).1.trans k1
  have r0 := ((x 0 (by omega)).2 0).trans r0
  have sL2 := sL2.bl x (by omega)
  have r2 := ((x 0 (by omega)).2 2).trans r2
  have k11 := (x 11 (by omega)).1.trans k11
  have sL12 := sL12.bl x (by omega)
  have ra0 := ((x 11 (by omega)).2 0).trans ra0
  have ra5 := ((x 11 (by omega)).2 5).trans ra5
  have r3 := ((x 0 (by omega)).2 3).trans r3
  have sBox := sBox.bl x (by omega)
  have rb0 := ((x 21 (by omega)).2 0).trans rb0
  have rb8 := ((x 21 (by omega)).2 8).trans rb8
  have r5 := ((x 0 (by omega)).2 5).trans r5
  have k29 := hA
  obtain ⟨m11, u_m11, e⟩ := o_let_ex e
  refine G.hm u_m11 ?_
  refine g_dup k_Led_init_75 rfl ?_
  obtain ⟨y12, m12, e_12, e⟩ := o_b2_ex e
  refine g_ciG (bc' := 5) (bs' := 53) k_Led_init_76 li_Led_49 (s_Pla_init F 29 hz k29 m11 e_12 (by omega) (by omega) (by omega)) rfl rfl (Nat.le_of_ble_eq_true rfl) (by simp [Value.category]) (by omega) (by omega) (by omega) (fun g r => ?_)
  obtain ⟨hz, x, sPla⟩ := r
  have hk := (x 0 (by omega)).1.trans hk
  have k1 := (x 1 (by omega)).1.trans k1
  have r0 := ((x 0 (by omega)).2 0).trans r0
  have sL2 := sL2.bl x (by omega)
  have r2 := ((x 0 (by omega)).2 2).trans r2
  have k11 := (x 11 (by omega)).1.trans k11
  have sL12 := sL12.bl x (by omega)
  have ra0 := ((x 11 (by omega)).2 0).trans ra0
  have ra5 := ((x 11 (by omega)).2 5).trans ra5
  have r3 := ((x 0 (by omega)).2 3).trans r3
  have sBox := sBox.bl x (by omega)
  have rb0 := ((x 21 (by omega)).2 0).trans rb0
  have rb8 := ((x 21 (by omega)).2 8).trans rb8
  have r5 := ((x 0 (by omega)).2 5).trans r5
  refine co_pr k_Led_init_79 fl_Led_50 rfl ⟨R_Led, F_Led, 10, rfl, Or.inr ⟨rfl, rfl, rfl⟩⟩ hk (by decide) (fun g x => ?_)
  have hk := (x.2.1 0).trans hk
  have k1 := (x.2.1 1).trans k1
  have r0 := (x.2.2.1 0 0 (by omega)).trans r0
  have sL2 := sL2.pt x (by decide)
  have r2 := (x.2.2.1 0 2 (by omega)).trans r2
  have k11 := (x.2.1 11).trans k11
  have sL12 := sL12.pt x (by decide)
  have ra0 := (x.2.2.1 11 0 (by omega)).trans ra0
  have ra5 := (x.2.2.1 11 5 (by omega)).trans ra5
  have r3 := (x.2.2.1 0 3 (by omega)).trans r3
  have sBox := sBox.pt x (by decide)
  have rb0 := (x.2.2.1 21 0 (by omega)).trans rb0
  have rb8 := (x.2.2.1 21 8 (by omega)).trans rb8
  have r5 := (x.2.2.1 0 5 (by omega)).trans r5
  have sPla := sPla.pt x (by decide)
  have hz := x.1.trans hz
  have r6 := x.2.2.2
  refine g_aload_n k_Led_init_82 rfl rfl ?_
  refine g_null k_Led_init_83 ?_
  refine co_pn k_Led_init_84 fl_Led_54 rfl ⟨R_Led, F_Led, 10, rfl, Or.inl rfl⟩ hk (by decide) (fun g x => ?_)
  have hk := (x.2.1 0).trans hk
  have k1 := (x.2.1 1).trans k1
  have r0 := (x.2.2.1 0 0 (by omega)).trans r0
  have sL2 := sL2.pt x (by decide)
  have r2 := (x.2.2.1 0 2 (by omega)).trans r2
  have k11 := (x.2.1 11).trans k11
  have sL12 := sL12.pt x (by decide)
  have ra0 := (x.2.2.1 11 0 (by omega)).trans ra0
  have ra5 := (x.2.2.1 11 5 (by omega)).trans ra5
  have r3 := (x.2.2.1 0 3 (by omega)).trans r3
  have sBox := sBox.pt x (by decide)
  have rb0 := (x.2.2.1 21 0 (by omega)).trans rb0
  have rb8 := (x.2.2.1 21 8 (by omega)).trans rb8
  have r5 := (x.2.2.1 0 5 (by omega)).trans r5
  have sPla := sPla.pt x (by decide)
  have r6 := (x.2.2.1 0 6 (by omega)).trans r6
  have hz := x.1.trans hz
  have r7 := x.2.2.2
  refine g_aload_n k_Led_init_87 rfl rfl ?_
  refine co_no hz k_Led_init_88 nl_Led_58 (by decide +kernel) (by omega) (by omega) (fun g hz x hA hN => ?_)
  have hk := (x 0 (by omega)).1.trans hk
  have k1 := (x 1 (by omega)).1.trans k1
  have r0 := ((x 0 (by omega)).2 0).trans r0
  have sL2 := sL2.bl x (by omega)
  have r2 := ((x 0 (by omega)).2 2).trans r2
  have k11 := (x 11 (by omega)).1.trans k11
  have sL12 := sL12.bl x (by omega)
  have ra0 := ((x 11 (by omega)).2 0).trans ra0
  have ra5 := ((x 11 (by omega)).2 5).trans ra5
  have r3 := ((x 0 (by omega)).2 3).trans r3
  have sBox := sBox.bl x (by omega)
  have rb0 := ((x 21 (by omega)).2 0).trans rb0
  have rb8 := ((x 21 (by omega)).2 8).trans rb8
  have r5 := ((x 0 (by omega)).2 5).trans r5
  have sPla := sPla.bl x (by omega)
  have r6 := ((x 0 (by omega)).2 6).trans r6
  have r7 := ((x 0 (by omega)).2 7).trans r7
  have k35 := hA
  obtain ⟨m13, u_m13, e⟩ := o_let_ex e
  refine G.hm u_m13 ?_
  refine g_dup k_Led_init_91 rfl ?_
  obtain ⟨y14, m14, e_14, e⟩ := o_b2_ex e
  refine g_ciG (bc' := 1) (bs' := 128) k_Led_init_92 li_Led_60 (s_Ask_init F 35 hz k35 m13 e_14 (by omega) (by omega) (by omega)) rfl rfl (Nat.le_of_ble_eq_true rfl) (by simp [Value.category]) (by omega) (by omega) (by omega) (fun g r => ?_)
  obtain ⟨hz, x, sAsk⟩ := r
  have hk := (x 0 (by omega)).1.trans hk
  have k1 := (x 1 (by omega)).1.trans k1
  have r0 := ((x 0 (by omega)).2 0).trans r0
  have sL2 := sL2.bl x (by omega)
  have r2 := ((x 0 (by omega)).2 2).trans r2
  have k11 := (x 11 (by omega)).1.trans k11
  have sL12 := sL12.bl x (by omega)
  have ra0 := ((x 11 (by omega)).2 0).trans ra0
  have ra5 := ((x 11 (by omega)).2 5).trans ra5
  have r3 := ((x 0 (by omega)).2 3).trans r3
  have sBox := sBox.bl x (by omega)
  have rb0 := ((x 21 (by omega)).2 0).trans rb0
  have rb8 := ((x 21 (by omega)).2 8).trans rb8
  have r5 := ((x 0 (by omega)).2 5).trans r5
  have sPla := sPla.bl x (by omega)
  have r6 := ((x 0 (by omega)).2 6).trans r6
  have r7 := ((x 0 (by omega)).2 7).trans r7
  refine co_pr k_Led_init_95 fl_Led_61 rfl ⟨R_Led, F_Led, 10, rfl, Or.inr ⟨rfl, rfl, rfl⟩⟩ hk (by decide) (fun g x => ?_)
  have hk := (x.2.1 0).trans hk
  have k1 := (x.2.1 1).trans k1
  have r0 := (x.2.2.1 0 0 (by omega)).trans r0
  have sL2 := sL2.pt x (by decide)
  have r2 := (x.2.2.1 0 2 (by omega)).trans r2
  have k11 := (x.2.1 11).trans k11
  have sL12 := sL12.pt x (by decide)
  have ra0 := (x.2.2.1 11 0 (by omega)).trans ra0
  have ra5 := (x.2.2.1 11 5 (by omega)).trans ra5
  have r3 := (x.2.2.1 0 3 (by omega)).trans r3
  have sBox := sBox.pt x (by decide)
  have rb0 := (x.2.2.1 21 0 (by omega)).trans rb0
  have rb8 := (x.2.2.1 21 8 (by omega)).trans rb8
  have r5 := (x.2.2.1 0 5 (by omega)).trans r5
  have sPla := sPla.pt x (by decide)
  have r6 := (x.2.2.1 0 6 (by omega)).trans r6
  have r7 := (x.2.2.1 0 7 (by omega)).trans r7
  have sAsk := sAsk.pt x (by decide)
  have hz := x.1.trans hz
  have r8 := x.2.2.2
  refine g_aload_n k_Led_init_98 rfl rfl ?_
  refine co_no hz k_Led_init_99 nl_Led_65 (by decide +kernel) (by omega) (by omega) (fun g hz x hA hN => ?_)
  have hk := (x 0 (by omega)).1.trans hk
  have k1 := (x 1 (by omega)).1.trans k1
  have r0 := ((x 0 (by omega)).2 0).trans r0
  have sL2 := sL2.bl x (by omega)
  have r2 := ((x 0 (by omega)).2 2).trans r2
  have k11 := (x 11 (by omega)).1.trans k11
  have sL12 := sL12.bl x (by omega)
  have ra0 := ((x 11 (by omega)).2 0).trans ra0
  have ra5 := ((x 11 (by omega)).2 5).trans ra5
  have r3 := ((x 0 (by omega)).2 3).trans r3
  have sBox := sBox.bl x (by omega)
  have rb0 := ((x 21 (by omega)).2 0).trans rb0
  have rb8 := ((x 21 (by omega)).2 8).trans rb8
  have r5 := ((x 0 (by omega)).2 5).trans r5
  have sPla := sPla.bl x (by omega)
  have r6 := ((x 0 (by omega)).2 6).trans r6
  have r7 := ((x 0 (by omega)).2 7).trans r7
  have sAsk := sAsk.bl x (by omega)
  have r8 := ((x 0 (by omega)).2 8).trans r8
  have k37 := hA
  obtain ⟨m15, u_m15, e⟩ := o_let_ex e
  refine G.hm u_m15 ?_
  refine g_dup k_Led_init_102 rfl ?_
  refine g_aload_n k_Led_init_103 rfl rfl ?_
  refine p_getr k_Led_init_104 fl_Led_22 rfl hk (by decide) r2 ?_
  refine g_aload_n k_Led_init_107 rfl rfl ?_
  refine p_getr k_Led_init_108 fl_Led_61 rfl hk (by decide) r8 ?_
  obtain ⟨y16, m16, e_16, e⟩ := o_b2_ex e
  refine g_ciG (bc' := 204) (bs' := 932) k_Led_init_111 li_Led_67 (s_Tab_init 37 hz k37 2 35 m15 e_16 (by omega) (by omega) (by omega)) rfl rfl (Nat.le_of_ble_eq_true rfl) (by simp [Value.category]) (by omega) (by omega) (by omega) (fun g r => ?_)
  obtain ⟨hz, x, sTab, rt0, rt1, rows⟩ := r
  have rows : ∀ k, k < 40 → ShRow g (42 + 5 * k) ∧ g.2.2.1 38 k = some (42 + 5 * k) := rows
  have hk := (x 0 (by omega)).1.trans hk
  have k1 := (x 1 (by omega)).1.trans k1
  have r0 := ((x 0 (by omega)).2 0).trans r0
  have sL2 := sL2.bl x (by omega)
  have r2 := ((x 0 (by omega)).2 2).trans r2
  have k11 := (x 11 (by omega)).1.trans k11
  have sL12 := sL12.bl x (by omega)
  have ra0 := ((x 11 (by omega)).2 0).trans ra0
  have ra5 := ((x 11 (by omega)).2 5).trans ra5
  have r3 := ((x 0 (by omega)).2 3).trans r3
  have sBox := sBox.bl x (by omega)
  have rb0 := ((x 21 (by omega)).2 0).trans rb0
  have rb8 := ((x 21 (by omega)).2 8).trans rb8
  have r5 := ((x 0 (by omega)).2 5).trans r5
  have sPla := sPla.bl x (by omega)
  have r6 := ((x 0 (by omega)).2 6).trans r6
  have r7 := ((x 0 (by omega)).2 7).trans r7
  have sAsk := sAsk.bl x (by omega)
  have r8 := ((x 0 (by omega)).2 8).trans r8
  refine co_pr k_Led_init_114 fl_Led_70 rfl ⟨R_Led, F_Led, 10, rfl, Or.inr ⟨rfl, rfl, rfl⟩⟩ hk (by decide) (fun g x => ?_)
  have hk := (x.2.1 0).trans hk
  have k1 := (x.2.1 1).trans k1
  have r0 := (x.2.2.1 0 0 (by omega)).trans r0
  have sL2 := sL2.pt x (by decide)
  have r2 := (x.2.2.1 0 2 (by omega)).trans r2
  have k11 := (x.2.1 11).trans k11
  have sL12 := sL12.pt x (by decide)
  have ra0 := (x.2.2.1 11 0 (by omega)).trans ra0
  have ra5 := (x.2.2.1 11 5 (by omega)).trans ra5
  have r3 := (x.2.2.1 0 3 (by omega)).trans r3
  have sBox := sBox.pt x (by decide)
  have rb0 := (x.2.2.1 21 0 (by omega)).trans rb0
  have rb8 := (x.2.2.1 21 8 (by omega)).trans rb8
  have r5 := (x.2.2.1 0 5 (by omega)).trans r5
  have sPla := sPla.pt x (by decide)
  have r6 := (x.2.2.1 0 6 (by omega)).trans r6
  have r7 := (x.2.2.1 0 7 (by omega)).trans r7
  have sAsk := sAsk.pt x (by decide)
  have r8 := (x.2.2.1 0 8 (by omega)).trans r8
  have sTab := sTab.pt x (by decide)
  have rt0 := (x.2.2.1 37 0 (by omega)).trans rt0
  have rt1 := (x.2.2.1 37 1 (by omega)).trans rt1
  have rows : ∀ k, k < 40 → ShRow g (42 + 5 * k) ∧ g.2.2.1 38 k = some (42 + 5 * k) := fun k hk => ⟨(rows k hk).1.pt x (by omega), (x.2.2.1 38 k (by omega)).trans (rows k hk).2⟩
  have hz := x.1.trans hz
  have r9 := x.2.2.2
  refine g_vret k_Led_init_117 rfl ?_
  have sy : Sys _ := ⟨sL2, sL12, sBox, sPla, sAsk, sTab, rows, hk, r0, k1, k11, ra0, rb0, rt0, rt1, ra5, r2, r3, r5, r6, r8, r9⟩
  have hq := hq none (_, m') ⟨_, rfl, rfl, hz, sy, r7, rb8⟩
  exact (by cases e; exact hq)
