/-! CONSTRUCTORS of what makes its own arrays (made by wip/gen/co.py) -/
/-- below place z all is as it was -/
def Bl (z : Nat) (g g' : aG) : Prop := ∀ b, b < z → g'.2.1 b = g.2.1 b ∧ ∀ k, g'.2.2.1 b k = g.2.2.1 b k
theorem Bl.rf {z : Nat} {g : aG} : Bl z g g := fun _ _ => ⟨rfl, fun _ => rfl⟩
theorem Bl.tr {z y : Nat} {g g1 g2 : aG} (h : Bl z g g1) (k : Bl y g1 g2) (l : z ≤ y) : Bl z g g2 := fun b hb => ⟨(k b (by omega)).1.trans (h b hb).1, fun j => ((k b (by omega)).2 j).trans ((h b hb).2 j)⟩
theorem Bl.mono {z y : Nat} {g g1 : aG} (h : Bl z g g1) (l : y ≤ z) : Bl y g g1 := fun b hb => h b (by omega)
section
variable {K : aK} {M : aMI} {d bc bs pc z : Nat} {L S : List Value} {g : aG} {m : aM} {Q : aQ}
theorem co_na {atype : ArrayType} {t N : Nat} {n : Int32} (hz : g.1 = z) (hd : decode M.2.1 pc = .ok (.newarray atype, 2)) (hty : newarray.typeOf atype = a_aty t) (ht : t < 3) (hw : Cond.arrayClass (a_aty t) ∈ a_w0) (hn : ¬ n < 0) (hN : n.toNatClampNeg = N) (hB : N ≤ 60000000) (hc : 1 ≤ bc) (hs : N ≤ bs) (k' : ∀ g1 : aG, g1.1 = z + 1 → Bl z g g1 → g1.2.1 z = (t, N) → (∀ k, g1.2.2.1 z k = none) → G K M d (bc - 1) (bs - N) (pc + 2) L (.ref z :: S) (g1, a_zr m z) Q) : G K M d bc bs pc L (.int n :: S) (g, m) Q := by
  subst hz
  refine g_newa hd hty ht hw hn hN hB hc hs ?_
  exact k' (h_n (g, m) (t, N)).1 rfl (fun b hb => ⟨by simp [h_n, Nat.ne_of_lt hb], fun k => by simp [h_n, Nat.ne_of_lt hb]⟩) (by simp [h_n]) (fun k => by simp [h_n])
theorem co_no {index ci n : Nat} (hz : g.1 = z) (hd : decode M.2.1 pc = .ok (.new index, 3)) (hf : a_nl M.1 index ci n) (ht : ∀ k, k < n → a_ft ci k = .int ∨ a_ft ci k = .boolean ∨ a_isr (a_ft ci k) = true) (hc : 1 ≤ bc) (hs : n ≤ bs) (k' : ∀ g1 : aG, g1.1 = z + 1 → Bl z g g1 → g1.2.1 z = (10 + ci, n) → (∀ k, g1.2.2.1 z k = none) → G K M d (bc - 1) (bs - n) (pc + 3) L (.ref z :: S) (g1, a_zr m z) Q) : G K M d bc bs pc L S (g, m) Q := by
  subst hz
  refine g_new hd hf ht hc hs ?_
  exact k' (h_n (g, m) (10 + ci, n)).1 rfl (fun b hb => ⟨by simp [h_n, Nat.ne_of_lt hb], fun k => by simp [h_n, Nat.ne_of_lt hb]⟩) (by simp [h_n]) (fun k => by simp [h_n])
/-- a reference is set -/
def Pt1 (a k : Nat) (b : Option Nat) (g g' : aG) : Prop := g'.1 = g.1 ∧ (∀ c, g'.2.1 c = g.2.1 c) ∧ (∀ c j, ¬ (c = a ∧ j = k) → g'.2.2.1 c j = g.2.2.1 c j) ∧ g'.2.2.1 a k = b
theorem co_pr {index a ci k n b : Nat} (hd : decode M.2.1 pc = .ok (.putfield index, 3)) (hf : a_fl M.1 index ci k) (ht : a_isr (a_ft ci k) = true) (hw : a_wr M ci k) (ha : g.2.1 a = (10 + ci, n)) (hn : k < n) (k' : ∀ g1 : aG, Pt1 a k (some b) g g1 → G K M d bc bs (pc + 3) L S (g1, m) Q) : G K M d bc bs pc L (.ref b :: .ref a :: S) (g, m) Q := by
  refine g_putr hd hf ht hw ha hn ?_
  exact k' (h_r (g, m) a k (some b)).1 ⟨rfl, fun c => rfl, fun c j hc => by simp [a_sr, hc], by simp [a_sr]⟩
theorem co_pn {index a ci k n : Nat} (hd : decode M.2.1 pc = .ok (.putfield index, 3)) (hf : a_fl M.1 index ci k) (ht : a_isr (a_ft ci k) = true) (hw : a_wr M ci k) (ha : g.2.1 a = (10 + ci, n)) (hn : k < n) (k' : ∀ g1 : aG, Pt1 a k none g g1 → G K M d bc bs (pc + 3) L S (g1, m) Q) : G K M d bc bs pc L (.null :: .ref a :: S) (g, m) Q := by
  refine g_putn hd hf ht hw ha hn ?_
  exact k' (h_r (g, m) a k none).1 ⟨rfl, fun c => rfl, fun c j hc => by simp [a_sr, hc], by simp [a_sr]⟩
theorem Bl.pt {z a k : Nat} {b : Option Nat} {g g1 g2 : aG} (h : Bl z g g1) (p : Pt1 a k b g1 g2) (l : z ≤ a) : Bl z g g2 := fun c hc => ⟨(p.2.1 c).trans (h c hc).1, fun j => (p.2.2.1 c j (fun q => by omega)).trans ((h c hc).2 j)⟩
end
theorem sn_Len_addOrder {K : aK} {d bc bs : Nat} {g : aG} (a0 : Nat) (s0 : ShLen g a0) (x1 : Int32) (x2 : Int32) (m : aM) {r : Int32} {m' : aM} (e : f_Len_addOrder a0 x1 x2 m = some (r, m')) : Sp K M_Len_addOrder d bc bs [.ref a0, .int x1, .int x2] (g, m) (some (.int r)) (g, m') := by
  refine sp_of ok_Len_addOrder rfl (Nat.le_of_ble_eq_true rfl) (by simp [Value.category]) (fun Q hq => ?_)
  unfold f_Len_addOrder at e
  refine g_aload_n k_Len_addOrder_0 rfl rfl ?_
  refine p_geti k_Len_addOrder_1 fl_Len_41 rfl (sk_Len s0) (by decide) ?_
  refine g_sipush (v := 400) k_Len_addOrder_4 rfl ?_
  refine g_icmp_lt (tgt := 12) k_Len_addOrder_7 (by decide) (fun c => ?_) (fun c => ?_)
  · rw [if_pos c] at e
    refine g_aload_n k_Len_addOrder_12 rfl rfl ?_
    refine p_getr k_Len_addOrder_13 fl_Len_11 rfl (sk_Len s0) (by decide) (sr_Len_0 s0) ?_
    refine g_aload_n k_Len_addOrder_16 rfl rfl ?_
    refine p_geti k_Len_addOrder_17 fl_Len_41 rfl (sk_Len s0) (by decide) ?_
    refine g_iload_n k_Len_addOrder_20 rfl rfl ?_
    obtain ⟨q1, e⟩ := o_gd_ex e
    refine p_iast k_Len_addOrder_21 (sa_Len_0 s0) (inb_in q1) (j := (m a0 2).toNatClampNeg) rfl ?_
    obtain ⟨m2, u_m2, e⟩ := o_let_ex e
    refine G.hm u_m2 ?_
    refine g_aload_n k_Len_addOrder_22 rfl rfl ?_
    refine p_getr k_Len_addOrder_23 fl_Len_15 rfl (sk_Len s0) (by decide) (sr_Len_1 s0) ?_
    refine g_aload_n k_Len_addOrder_26 rfl rfl ?_
    refine p_geti k_Len_addOrder_27 fl_Len_41 rfl (sk_Len s0) (by decide) ?_
    refine g_iload_n k_Len_addOrder_30 rfl rfl ?_
    obtain ⟨q3, e⟩ := o_gd_ex e
    refine p_iast k_Len_addOrder_31 (sa_Len_1 s0) (inb_in q3) (j := (m2 a0 2).toNatClampNeg) rfl ?_
    obtain ⟨m4, u_m4, e⟩ := o_let_ex e
    refine G.hm u_m4 ?_
    refine g_aload_n k_Len_addOrder_32 rfl rfl ?_
    refine g_dup k_Len_addOrder_33 rfl ?_
    refine p_geti k_Len_addOrder_34 fl_Len_41 rfl (sk_Len s0) (by decide) ?_
    refine g_iconst (v := 1) k_Len_addOrder_37 rfl ?_
    refine g_iadd k_Len_addOrder_38 ?_
    refine p_puti k_Len_addOrder_39 fl_Len_41 rfl ⟨R_Len, F_Len, 11, rfl, Or.inl rfl⟩ (sk_Len s0) (by decide) ?_
    obtain ⟨m5, u_m5, e⟩ := o_let_ex e
    refine G.hm u_m5 ?_
    refine g_aload_n k_Len_addOrder_42 rfl rfl ?_
    refine p_geti k_Len_addOrder_43 fl_Len_41 rfl (sk_Len s0) (by decide) ?_
    refine g_iconst (v := 1) k_Len_addOrder_46 rfl ?_
    refine g_isub k_Len_addOrder_47 ?_
    refine g_iret k_Len_addOrder_48 rfl ?_
    exact (by cases e; exact hq)
  · rw [if_neg c] at e
    refine g_iconst (v := (-1)) k_Len_addOrder_10 rfl ?_
    refine g_iret k_Len_addOrder_11 rfl ?_
    exact (by cases e; exact hq)
def f_Lik_init (a0 : Nat) (m : aM) : Option (Int32 × aM) :=
  o_let (a_zr m (a0 + 1)) fun m1 =>
  o_let (a_zr m1 (a0 + 2)) fun m2 =>
  some ((0 : Int32), m2)
theorem s_Lik_init {K : aK} {d bc bs : Nat} {g : aG} (a0 : Nat) (hz : g.1 = a0 + 1) (hk : g.2.1 a0 = (10 + 3, 2)) (m : aM) {m' : aM} {w0 : Int32} (e : f_Lik_init a0 m = some (w0, m')) (hd : 1 ≤ d) (hc : 2 ≤ bc) (hs : 40960 ≤ bs) : SpR K M_Lik_init d bc bs [.ref a0] (g, m) (fun v h' => ∃ g', v = none ∧ h' = (g', m') ∧ g'.1 = a0 + 3 ∧ Bl a0 g g' ∧ ShLik g' a0) := by
  refine spr_of ok_Lik_init rfl (Nat.le_of_ble_eq_true rfl) (by simp [Value.category]) (fun Q hq => ?_)
  unfold f_Lik_init at e
  have hB : Bl a0 g g := Bl.rf
  refine g_aload_n k_Lik_init_0 rfl rfl ?_
  refine g_ob k_Lik_init_1 ob_Lik_3 (Nat.le_of_ble_eq_true rfl) (by omega) ?_
  refine g_aload_n k_Lik_init_4 rfl rfl ?_
  refine g_sipush (v := 8192) k_Lik_init_5 rfl ?_
  refine co_na (t := 0) (N := 8192) hz k_Lik_init_8 rfl (by decide) ac_int (by decide) (by decide) (by decide) (by omega) (by omega) (fun g hz x hA hN => ?_)
  have hk := (x _ (by omega)).1.trans hk
  have hB := hB.tr x (by omega)
  have ka1 := hA
  obtain ⟨m1, u_m1, e⟩ := o_let_ex e
  refine G.hm u_m1 ?_
  refine co_pr k_Lik_init_10 fl_Lik_11 rfl ⟨R_Lik, F_Lik, 2, rfl, Or.inr ⟨rfl, rfl, rfl⟩⟩ hk (by decide) (fun g x => ?_)
  have hk := (x.2.1 _).trans hk
  have ka1 := (x.2.1 _).trans ka1
  have hB := hB.pt x (by omega)
  have hz := x.1.trans hz
  have r0 := x.2.2.2
  refine g_aload_n k_Lik_init_13 rfl rfl ?_
  refine g_ldc k_Lik_init_14 kc_Lik_15 ?_
  refine co_na (t := 0) (N := 32768) hz k_Lik_init_16 rfl (by decide) ac_int (by decide) (by decide) (by decide) (by omega) (by omega) (fun g hz x hA hN => ?_)
  have hk := (x _ (by omega)).1.trans hk
  have ka1 := (x _ (by omega)).1.trans ka1
  have r0 := ((x _ (by omega)).2 _).trans r0
  have hB := hB.tr x (by omega)
  have ka2 := hA
  obtain ⟨m2, u_m2, e⟩ := o_let_ex e
  refine G.hm u_m2 ?_
  refine co_pr k_Lik_init_18 fl_Lik_16 rfl ⟨R_Lik, F_Lik, 2, rfl, Or.inr ⟨rfl, rfl, rfl⟩⟩ hk (by decide) (fun g x => ?_)
  have hk := (x.2.1 _).trans hk
  have ka1 := (x.2.1 _).trans ka1
  have r0 := (x.2.2.1 _ _ (by omega)).trans r0
  have ka2 := (x.2.1 _).trans ka2
  have hB := hB.pt x (by omega)
  have hz := x.1.trans hz
  have r1 := x.2.2.2
  have s0 : ShLik _ a0 := ⟨hk, r0, ka1, r1, ka2⟩
  have hq := hq none (_, m') ⟨_, rfl, rfl, hz, hB, s0⟩
  refine g_vret k_Lik_init_21 rfl ?_
  exact (by cases e; exact hq)
def b_Row_init_32 (a0 : Nat) (m : aM) : Option (Int32 × aM) :=
  o_let (a_st m a0 3 (-1)) fun m1 =>
  o_let (a_st m1 a0 4 (-1)) fun m2 =>
  o_let (a_st m2 a0 5 (-1)) fun m3 =>
  o_let (a_st m3 a0 6 (-1)) fun m4 =>
  some (0, m4)
theorem t_Row_init_32 {K : aK} {d bc bs : Nat} {g : aG} {Q : aQ} {r : Int32} {m' : aM} (a0 : Nat) (s0 : ShRow g a0) (m : aM) (hq : Q (.inl none) (g, m')) (e : b_Row_init_32 a0 m = some (r, m')) : G K M_Row_init d bc bs 32 [.ref a0] [] (g, m) Q := by
  unfold b_Row_init_32 at e
  refine g_aload_n k_Row_init_32 rfl rfl ?_
  refine g_iconst (v := (-1)) k_Row_init_33 rfl ?_
  refine p_puti k_Row_init_34 fl_Row_25 rfl ⟨R_Row, F_Row, 8, rfl, Or.inl rfl⟩ (sk_Row s0) (by decide) ?_
  obtain ⟨m1, u_m1, e⟩ := o_let_ex e
  refine G.hm u_m1 ?_
  refine g_aload_n k_Row_init_37 rfl rfl ?_
  refine g_iconst (v := (-1)) k_Row_init_38 rfl ?_
  refine p_puti k_Row_init_39 fl_Row_29 rfl ⟨R_Row, F_Row, 8, rfl, Or.inl rfl⟩ (sk_Row s0) (by decide) ?_
  obtain ⟨m2, u_m2, e⟩ := o_let_ex e
  refine G.hm u_m2 ?_
  refine g_aload_n k_Row_init_42 rfl rfl ?_
  refine g_iconst (v := (-1)) k_Row_init_43 rfl ?_
  refine p_puti k_Row_init_44 fl_Row_32 rfl ⟨R_Row, F_Row, 8, rfl, Or.inl rfl⟩ (sk_Row s0) (by decide) ?_
  obtain ⟨m3, u_m3, e⟩ := o_let_ex e
  refine G.hm u_m3 ?_
  refine g_aload_n k_Row_init_47 rfl rfl ?_
  refine g_iconst (v := (-1)) k_Row_init_48 rfl ?_
  refine p_puti k_Row_init_49 fl_Row_35 rfl ⟨R_Row, F_Row, 8, rfl, Or.inl rfl⟩ (sk_Row s0) (by decide) ?_
  obtain ⟨m4, u_m4, e⟩ := o_let_ex e
  refine G.hm u_m4 ?_
  refine g_vret k_Row_init_52 rfl ?_
  exact (by cases e; exact hq)
def f_Row_init (a0 : Nat) (m : aM) : Option (Int32 × aM) :=
  o_let (a_zr m (a0 + 1)) fun m1 =>
  o_let (a_zr m1 (a0 + 2)) fun m2 =>
  o_let (a_zr m2 (a0 + 3)) fun m3 =>
  o_let (a_zr m3 (a0 + 4)) fun m4 =>
  b_Row_init_32 a0 m4
theorem s_Row_init {K : aK} {d bc bs : Nat} {g : aG} (a0 : Nat) (hz : g.1 = a0 + 1) (hk : g.2.1 a0 = (10 + 6, 8)) (m : aM) {m' : aM} {w0 : Int32} (e : f_Row_init a0 m = some (w0, m')) (hd : 1 ≤ d) (hc : 4 ≤ bc) (hs : 14 ≤ bs) : SpR K M_Row_init d bc bs [.ref a0] (g, m) (fun v h' => ∃ g', v = none ∧ h' = (g', m') ∧ g'.1 = a0 + 5 ∧ Bl a0 g g' ∧ ShRow g' a0) := by
  refine spr_of ok_Row_init rfl (Nat.le_of_ble_eq_true rfl) (by simp [Value.category]) (fun Q hq => ?_)
  unfold f_Row_init at e
  have hB : Bl a0 g g := Bl.rf
  refine g_aload_n k_Row_init_0 rfl rfl ?_
  refine g_ob k_Row_init_1 ob_Row_3 (Nat.le_of_ble_eq_true rfl) (by omega) ?_
  refine g_aload_n k_Row_init_4 rfl rfl ?_
  refine g_iconst (v := 4) k_Row_init_5 rfl ?_
  refine co_na (t := 0) (N := 4) hz k_Row_init_6 rfl (by decide) ac_int (by decide) (by decide) (by decide) (by omega) (by omega) (fun g hz x hA hN => ?_)
  have hk := (x _ (by omega)).1.trans hk
  have hB := hB.tr x (by omega)
  have ka1 := hA
  obtain ⟨m1, u_m1, e⟩ := o_let_ex e
  refine G.hm u_m1 ?_
  refine co_pr k_Row_init_8 fl_Row_9 rfl ⟨R_Row, F_Row, 8, rfl, Or.inr ⟨rfl, rfl, rfl⟩⟩ hk (by decide) (fun g x => ?_)
  have hk := (x.2.1 _).trans hk
  have ka1 := (x.2.1 _).trans ka1
  have hB := hB.pt x (by omega)
  have hz := x.1.trans hz
  have r0 := x.2.2.2
  refine g_aload_n k_Row_init_11 rfl rfl ?_
  refine g_iconst (v := 4) k_Row_init_12 rfl ?_
  refine co_na (t := 0) (N := 4) hz k_Row_init_13 rfl (by decide) ac_int (by decide) (by decide) (by decide) (by omega) (by omega) (fun g hz x hA hN => ?_)
  have hk := (x _ (by omega)).1.trans hk
  have ka1 := (x _ (by omega)).1.trans ka1
  have r0 := ((x _ (by omega)).2 _).trans r0
  have hB := hB.tr x (by omega)
  have ka2 := hA
  obtain ⟨m2, u_m2, e⟩ := o_let_ex e
  refine G.hm u_m2 ?_
  refine co_pr k_Row_init_15 fl_Row_15 rfl ⟨R_Row, F_Row, 8, rfl, Or.inr ⟨rfl, rfl, rfl⟩⟩ hk (by decide) (fun g x => ?_)
  have hk := (x.2.1 _).trans hk
  have ka1 := (x.2.1 _).trans ka1
  have r0 := (x.2.2.1 _ _ (by omega)).trans r0
  have ka2 := (x.2.1 _).trans ka2
  have hB := hB.pt x (by omega)
  have hz := x.1.trans hz
  have r1 := x.2.2.2
  refine g_aload_n k_Row_init_18 rfl rfl ?_
  refine g_iconst (v := 4) k_Row_init_19 rfl ?_
  refine co_na (t := 0) (N := 4) hz k_Row_init_20 rfl (by decide) ac_int (by decide) (by decide) (by decide) (by omega) (by omega) (fun g hz x hA hN => ?_)
  have hk := (x _ (by omega)).1.trans hk
  have ka1 := (x _ (by omega)).1.trans ka1
  have r0 := ((x _ (by omega)).2 _).trans r0
  have ka2 := (x _ (by omega)).1.trans ka2
  have r1 := ((x _ (by omega)).2 _).trans r1
  have hB := hB.tr x (by omega)
  have ka3 := hA
  obtain ⟨m3, u_m3, e⟩ := o_let_ex e
  refine G.hm u_m3 ?_
  refine co_pr k_Row_init_22 fl_Row_18 rfl ⟨R_Row, F_Row, 8, rfl, Or.inr ⟨rfl, rfl, rfl⟩⟩ hk (by decide) (fun g x => ?_)
  have hk := (x.2.1 _).trans hk
  have ka1 := (x.2.1 _).trans ka1
  have r0 := (x.2.2.1 _ _ (by omega)).trans r0
  have ka2 := (x.2.1 _).trans ka2
  have r1 := (x.2.2.1 _ _ (by omega)).trans r1
  have ka3 := (x.2.1 _).trans ka3
  have hB := hB.pt x (by omega)
  have hz := x.1.trans hz
  have r2 := x.2.2.2
  refine g_aload_n k_Row_init_25 rfl rfl ?_
  refine g_iconst (v := 2) k_Row_init_26 rfl ?_
  refine co_na (t := 1) (N := 2) hz k_Row_init_27 rfl (by decide) ac_boolean (by decide) (by decide) (by decide) (by omega) (by omega) (fun g hz x hA hN => ?_)
  have hk := (x _ (by omega)).1.trans hk
  have ka1 := (x _ (by omega)).1.trans ka1
  have r0 := ((x _ (by omega)).2 _).trans r0
  have ka2 := (x _ (by omega)).1.trans ka2
  have r1 := ((x _ (by omega)).2 _).trans r1
  have ka3 := (x _ (by omega)).1.trans ka3
  have r2 := ((x _ (by omega)).2 _).trans r2
  have hB := hB.tr x (by omega)
  have ka4 := hA
  obtain ⟨m4, u_m4, e⟩ := o_let_ex e
  refine G.hm u_m4 ?_
  refine co_pr k_Row_init_29 fl_Row_21 rfl ⟨R_Row, F_Row, 8, rfl, Or.inr ⟨rfl, rfl, rfl⟩⟩ hk (by decide) (fun g x => ?_)
  have hk := (x.2.1 _).trans hk
  have ka1 := (x.2.1 _).trans ka1
  have r0 := (x.2.2.1 _ _ (by omega)).trans r0
  have ka2 := (x.2.1 _).trans ka2
  have r1 := (x.2.2.1 _ _ (by omega)).trans r1
  have ka3 := (x.2.1 _).trans ka3
  have r2 := (x.2.2.1 _ _ (by omega)).trans r2
  have ka4 := (x.2.1 _).trans ka4
  have hB := hB.pt x (by omega)
  have hz := x.1.trans hz
  have r7 := x.2.2.2
  have s0 : ShRow _ a0 := ⟨hk, r0, ka1, r1, ka2, r2, ka3, r7, ka4⟩
  have hq := hq none (_, m') ⟨_, rfl, rfl, hz, hB, s0⟩
  exact (t_Row_init_32 a0 s0 m4 hq e)
def lb_Ask_init_15 (F : Nat) (rec_15 : Nat → Int32 → aM → Option (Int32 × aM)) (a0 : Nat) (x1 : Int32) (m : aM) : Option (Int32 × aM) :=
  (if 128 ≤ x1 then
  some (0, m)
  else
  o_gd (inb x1 128) <|
  o_let (a_st m (a0 + 1) x1.toNatClampNeg (-1)) fun m2 =>
  rec_15 a0 (x1 + 1) m2
  )
theorem tb_Ask_init_15 {K : aK} {d bc bs : Nat} {g : aG} {Q : aQ} {r : Int32} {m' : aM} (F : Nat) (rec_15 : Nat → Int32 → aM → Option (Int32 × aM)) (hr_15 : ∀ (a0 : Nat) (s0 : ShAsk g a0) (x1 : Int32) (m : aM), rec_15 a0 x1 m = some (r, m') → G K M_Ask_init d bc bs 15 [.ref a0, .int x1] [] (g, m) Q) (a0 : Nat) (s0 : ShAsk g a0) (x1 : Int32) (m : aM) (hq : Q (.inl none) (g, m')) (e : lb_Ask_init_15 F rec_15 a0 x1 m = some (r, m')) : G K M_Ask_init d bc bs 15 [.ref a0, .int x1] [] (g, m) Q := by
  unfold lb_Ask_init_15 at e
  refine g_iload_n k_Ask_init_15 rfl rfl ?_
  refine g_sipush (v := 128) k_Ask_init_16 rfl ?_
  refine g_icmp_ge (tgt := 35) k_Ask_init_19 (by decide) (fun c => ?_) (fun c => ?_)
  · rw [if_pos c] at e
    refine g_vret k_Ask_init_35 rfl ?_
    exact (by cases e; exact hq)
  · rw [if_neg c] at e
    refine g_aload_n k_Ask_init_22 rfl rfl ?_
    refine p_getr k_Ask_init_23 fl_Ask_11 rfl (sk_Ask s0) (by decide) (sr_Ask_0 s0) ?_
    refine g_iload_n k_Ask_init_26 rfl rfl ?_
    refine g_iconst (v := (-1)) k_Ask_init_27 rfl ?_
    obtain ⟨q1, e⟩ := o_gd_ex e
    refine p_iast k_Ask_init_28 (sa_Ask_0 s0) (inb_in q1) (j := x1.toNatClampNeg) rfl ?_
    obtain ⟨m2, u_m2, e⟩ := o_let_ex e
    refine G.hm u_m2 ?_
    refine g_iinc (v := _ + 1) k_Ask_init_29 rfl rfl (by decide) ?_
    refine g_goto (tgt := 15) k_Ask_init_32 (by decide) ?_
    exact (hr_15 a0 s0 (x1 + 1) m2 e)
def ll_Ask_init_15 (F : Nat) : Nat → Nat → Int32 → aM → Option (Int32 × aM)
  | 0, _, _, _ => none
  | N + 1, a0, x1, m => lb_Ask_init_15 F (ll_Ask_init_15 F N) a0 x1 m
theorem t_Ask_init_15 {K : aK} {d bc bs : Nat} {g : aG} {Q : aQ} {r : Int32} {m' : aM} (F : Nat) : ∀ (N : Nat) (a0 : Nat) (s0 : ShAsk g a0) (x1 : Int32) (m : aM), Q (.inl none) (g, m') → ll_Ask_init_15 F N a0 x1 m = some (r, m') → G K M_Ask_init d bc bs 15 [.ref a0, .int x1] [] (g, m) Q
  | 0, _, _, _, _ => fun _ e => nomatch e
  | N + 1, a0, s0, x1, m => fun hq e => tb_Ask_init_15 F (ll_Ask_init_15 F N) (fun a0 s0 x1 m e => t_Ask_init_15 F N a0 s0 x1 m hq e) a0 s0 x1 m hq e
def b_Ask_init_13 (F : Nat) (a0 : Nat) (m : aM) : Option (Int32 × aM) :=
  ll_Ask_init_15 F F a0 0 m
theorem t_Ask_init_13 {K : aK} {d bc bs : Nat} {g : aG} {Q : aQ} {r : Int32} {m' : aM} (F : Nat) (a0 : Nat) (s0 : ShAsk g a0) (m : aM) (hq : Q (.inl none) (g, m')) (e : b_Ask_init_13 F a0 m = some (r, m')) : G K M_Ask_init d bc bs 13 [.ref a0, .double 0] [] (g, m) Q := by
  unfold b_Ask_init_13 at e
  refine g_iconst (v := 0) k_Ask_init_13 rfl ?_
  refine g_istore_n k_Ask_init_14 rfl (by decide) ?_
  exact (t_Ask_init_15 F F a0 s0 0 m hq e)
def f_Ask_init (F : Nat) (a0 : Nat) (m : aM) : Option (Int32 × aM) :=
  o_let (a_zr m (a0 + 1)) fun m1 =>
  b_Ask_init_13 F a0 m1
theorem s_Ask_init {K : aK} {d bc bs : Nat} {g : aG} (F : Nat) (a0 : Nat) (hz : g.1 = a0 + 1) (hk : g.2.1 a0 = (10 + 0, 1)) (m : aM) {m' : aM} {w0 : Int32} (e : f_Ask_init F a0 m = some (w0, m')) (hd : 1 ≤ d) (hc : 1 ≤ bc) (hs : 128 ≤ bs) : SpR K M_Ask_init d bc bs [.ref a0] (g, m) (fun v h' => ∃ g', v = none ∧ h' = (g', m') ∧ g'.1 = a0 + 2 ∧ Bl a0 g g' ∧ ShAsk g' a0) := by
  refine spr_of ok_Ask_init rfl (Nat.le_of_ble_eq_true rfl) (by simp [Value.category]) (fun Q hq => ?_)
  unfold f_Ask_init at e
  have hB : Bl a0 g g := Bl.rf
  refine g_aload_n k_Ask_init_0 rfl rfl ?_
  refine g_ob k_Ask_init_1 ob_Ask_3 (Nat.le_of_ble_eq_true rfl) (by omega) ?_
  refine g_aload_n k_Ask_init_4 rfl rfl ?_
  refine g_sipush (v := 128) k_Ask_init_5 rfl ?_
  refine co_na (t := 0) (N := 128) hz k_Ask_init_8 rfl (by decide) ac_int (by decide) (by decide) (by decide) (by omega) (by omega) (fun g hz x hA hN => ?_)
  have hk := (x _ (by omega)).1.trans hk
  have hB := hB.tr x (by omega)
  have ka1 := hA
  obtain ⟨m1, u_m1, e⟩ := o_let_ex e
  refine G.hm u_m1 ?_
  refine co_pr k_Ask_init_10 fl_Ask_11 rfl ⟨R_Ask, F_Ask, 1, rfl, Or.inr ⟨rfl, rfl, rfl⟩⟩ hk (by decide) (fun g x => ?_)
  have hk := (x.2.1 _).trans hk
  have ka1 := (x.2.1 _).trans ka1
  have hB := hB.pt x (by omega)
  have hz := x.1.trans hz
  have r0 := x.2.2.2
  have s0 : ShAsk _ a0 := ⟨hk, r0, ka1⟩
  have hq := hq none (_, m') ⟨_, rfl, rfl, hz, hB, s0⟩
  exact (t_Ask_init_13 F a0 s0 m1 hq e)
def lb_Pla_init_70 (F : Nat) (rec_70 : Nat → Int32 → aM → Option (Int32 × aM)) (a0 : Nat) (x1 : Int32) (m : aM) : Option (Int32 × aM) :=
  (if 5 ≤ x1 then
  o_let (a_st m a0 7 1) fun m1 =>
  some (0, m1)
  else
  o_gd (inb x1 5) <|
  o_let (a_st m (a0 + 3) x1.toNatClampNeg 5) fun m3 =>
  rec_70 a0 (x1 + 1) m3
  )
theorem tb_Pla_init_70 {K : aK} {d bc bs : Nat} {g : aG} {Q : aQ} {r : Int32} {m' : aM} (F : Nat) (rec_70 : Nat → Int32 → aM → Option (Int32 × aM)) (hr_70 : ∀ (a0 : Nat) (s0 : ShPla g a0) (x1 : Int32) (m : aM), rec_70 a0 x1 m = some (r, m') → G K M_Pla_init d bc bs 70 [.ref a0, .int x1] [] (g, m) Q) (a0 : Nat) (s0 : ShPla g a0) (x1 : Int32) (m : aM) (hq : Q (.inl none) (g, m')) (e : lb_Pla_init_70 F rec_70 a0 x1 m = some (r, m')) : G K M_Pla_init d bc bs 70 [.ref a0, .int x1] [] (g, m) Q := by
  unfold lb_Pla_init_70 at e
  refine g_iload_n k_Pla_init_70 rfl rfl ?_
  refine g_iconst (v := 5) k_Pla_init_71 rfl ?_
  refine g_icmp_ge (tgt := 88) k_Pla_init_72 (by decide) (fun c => ?_) (fun c => ?_)
  · rw [if_pos c] at e
    refine g_aload_n k_Pla_init_88 rfl rfl ?_
    refine g_iconst (v := 1) k_Pla_init_89 rfl ?_
    refine p_puti k_Pla_init_90 fl_Pla_28 rfl ⟨R_Pla, F_Pla, 8, rfl, Or.inl rfl⟩ (sk_Pla s0) (by decide) ?_
    obtain ⟨m1, u_m1, e⟩ := o_let_ex e
    refine G.hm u_m1 ?_
    refine g_vret k_Pla_init_93 rfl ?_
    exact (by cases e; exact hq)
  · rw [if_neg c] at e
    refine g_aload_n k_Pla_init_75 rfl rfl ?_
    refine p_getr k_Pla_init_76 fl_Pla_18 rfl (sk_Pla s0) (by decide) (sr_Pla_2 s0) ?_
    refine g_iload_n k_Pla_init_79 rfl rfl ?_
    refine g_iconst (v := 5) k_Pla_init_80 rfl ?_
    obtain ⟨q2, e⟩ := o_gd_ex e
    refine p_iast k_Pla_init_81 (sa_Pla_2 s0) (inb_in q2) (j := x1.toNatClampNeg) rfl ?_
    obtain ⟨m3, u_m3, e⟩ := o_let_ex e
    refine G.hm u_m3 ?_
    refine g_iinc (v := _ + 1) k_Pla_init_82 rfl rfl (by decide) ?_
    refine g_goto (tgt := 70) k_Pla_init_85 (by decide) ?_
    exact (hr_70 a0 s0 (x1 + 1) m3 e)
def ll_Pla_init_70 (F : Nat) : Nat → Nat → Int32 → aM → Option (Int32 × aM)
  | 0, _, _, _ => none
  | N + 1, a0, x1, m => lb_Pla_init_70 F (ll_Pla_init_70 F N) a0 x1 m
theorem t_Pla_init_70 {K : aK} {d bc bs : Nat} {g : aG} {Q : aQ} {r : Int32} {m' : aM} (F : Nat) : ∀ (N : Nat) (a0 : Nat) (s0 : ShPla g a0) (x1 : Int32) (m : aM), Q (.inl none) (g, m') → ll_Pla_init_70 F N a0 x1 m = some (r, m') → G K M_Pla_init d bc bs 70 [.ref a0, .int x1] [] (g, m) Q
  | 0, _, _, _, _ => fun _ e => nomatch e
  | N + 1, a0, s0, x1, m => fun hq e => tb_Pla_init_70 F (ll_Pla_init_70 F N) (fun a0 s0 x1 m e => t_Pla_init_70 F N a0 s0 x1 m hq e) a0 s0 x1 m hq e
def lb_Pla_init_45 (F : Nat) (rec_45 : Nat → Int32 → aM → Option (Int32 × aM)) (a0 : Nat) (x1 : Int32) (m : aM) : Option (Int32 × aM) :=
  (if 15 ≤ x1 then
  ll_Pla_init_70 F F a0 0 m
  else
  o_gd (inb x1 15) <|
  o_let (a_st m (a0 + 1) x1.toNatClampNeg ((x1 % 5) + 1)) fun m2 =>
  rec_45 a0 (x1 + 1) m2
  )
theorem tb_Pla_init_45 {K : aK} {d bc bs : Nat} {g : aG} {Q : aQ} {r : Int32} {m' : aM} (F : Nat) (rec_45 : Nat → Int32 → aM → Option (Int32 × aM)) (hr_45 : ∀ (a0 : Nat) (s0 : ShPla g a0) (x1 : Int32) (m : aM), rec_45 a0 x1 m = some (r, m') → G K M_Pla_init d bc bs 45 [.ref a0, .int x1] [] (g, m) Q) (a0 : Nat) (s0 : ShPla g a0) (x1 : Int32) (m : aM) (hq : Q (.inl none) (g, m')) (e : lb_Pla_init_45 F rec_45 a0 x1 m = some (r, m')) : G K M_Pla_init d bc bs 45 [.ref a0, .int x1] [] (g, m) Q := by
  unfold lb_Pla_init_45 at e
  refine g_iload_n k_Pla_init_45 rfl rfl ?_
  refine g_bipush (v := 15) k_Pla_init_46 rfl ?_
  refine g_icmp_ge (tgt := 68) k_Pla_init_48 (by decide) (fun c => ?_) (fun c => ?_)
  · rw [if_pos c] at e
    refine g_iconst (v := 0) k_Pla_init_68 rfl ?_
    refine g_istore_n k_Pla_init_69 rfl (by decide) ?_
    exact (t_Pla_init_70 F F a0 s0 0 m hq e)
  · rw [if_neg c] at e
    refine g_aload_n k_Pla_init_51 rfl rfl ?_
    refine p_getr k_Pla_init_52 fl_Pla_9 rfl (sk_Pla s0) (by decide) (sr_Pla_0 s0) ?_
    refine g_iload_n k_Pla_init_55 rfl rfl ?_
    refine g_iload_n k_Pla_init_56 rfl rfl ?_
    refine g_iconst (v := 5) k_Pla_init_57 rfl ?_
    refine g_irem k_Pla_init_58 (by decide) ?_
    refine g_iconst (v := 1) k_Pla_init_59 rfl ?_
    refine g_iadd k_Pla_init_60 ?_
    obtain ⟨q1, e⟩ := o_gd_ex e
    refine p_iast k_Pla_init_61 (sa_Pla_0 s0) (inb_in q1) (j := x1.toNatClampNeg) rfl ?_
    obtain ⟨m2, u_m2, e⟩ := o_let_ex e
    refine G.hm u_m2 ?_
    refine g_iinc (v := _ + 1) k_Pla_init_62 rfl rfl (by decide) ?_
    refine g_goto (tgt := 45) k_Pla_init_65 (by decide) ?_
    exact (hr_45 a0 s0 (x1 + 1) m2 e)
def ll_Pla_init_45 (F : Nat) : Nat → Nat → Int32 → aM → Option (Int32 × aM)
  | 0, _, _, _ => none
  | N + 1, a0, x1, m => lb_Pla_init_45 F (ll_Pla_init_45 F N) a0 x1 m
theorem t_Pla_init_45 {K : aK} {d bc bs : Nat} {g : aG} {Q : aQ} {r : Int32} {m' : aM} (F : Nat) : ∀ (N : Nat) (a0 : Nat) (s0 : ShPla g a0) (x1 : Int32) (m : aM), Q (.inl none) (g, m') → ll_Pla_init_45 F N a0 x1 m = some (r, m') → G K M_Pla_init d bc bs 45 [.ref a0, .int x1] [] (g, m) Q
  | 0, _, _, _, _ => fun _ e => nomatch e
  | N + 1, a0, s0, x1, m => fun hq e => tb_Pla_init_45 F (ll_Pla_init_45 F N) (fun a0 s0 x1 m e => t_Pla_init_45 F N a0 s0 x1 m hq e) a0 s0 x1 m hq e
def b_Pla_init_43 (F : Nat) (a0 : Nat) (m : aM) : Option (Int32 × aM) :=
  ll_Pla_init_45 F F a0 0 m
theorem t_Pla_init_43 {K : aK} {d bc bs : Nat} {g : aG} {Q : aQ} {r : Int32} {m' : aM} (F : Nat) (a0 : Nat) (s0 : ShPla g a0) (m : aM) (hq : Q (.inl none) (g, m')) (e : b_Pla_init_43 F a0 m = some (r, m')) : G K M_Pla_init d bc bs 43 [.ref a0, .double 0] [] (g, m) Q := by
  unfold b_Pla_init_43 at e
  refine g_iconst (v := 0) k_Pla_init_43 rfl ?_
  refine g_istore_n k_Pla_init_44 rfl (by decide) ?_
  exact (t_Pla_init_45 F F a0 s0 0 m hq e)
def f_Pla_init (F : Nat) (a0 : Nat) (m : aM) : Option (Int32 × aM) :=
  o_let (a_zr m (a0 + 1)) fun m1 =>
  o_let (a_zr m1 (a0 + 2)) fun m2 =>
  o_let (a_zr m2 (a0 + 3)) fun m3 =>
  o_let (a_zr m3 (a0 + 4)) fun m4 =>
  o_let (a_zr m4 (a0 + 5)) fun m5 =>
  b_Pla_init_43 F a0 m5
theorem s_Pla_init {K : aK} {d bc bs : Nat} {g : aG} (F : Nat) (a0 : Nat) (hz : g.1 = a0 + 1) (hk : g.2.1 a0 = (10 + 4, 8)) (m : aM) {m' : aM} {w0 : Int32} (e : f_Pla_init F a0 m = some (w0, m')) (hd : 1 ≤ d) (hc : 5 ≤ bc) (hs : 53 ≤ bs) : SpR K M_Pla_init d bc bs [.ref a0] (g, m) (fun v h' => ∃ g', v = none ∧ h' = (g', m') ∧ g'.1 = a0 + 6 ∧ Bl a0 g g' ∧ ShPla g' a0) := by
  refine spr_of ok_Pla_init rfl (Nat.le_of_ble_eq_true rfl) (by simp [Value.category]) (fun Q hq => ?_)
  unfold f_Pla_init at e
  have hB : Bl a0 g g := Bl.rf
  refine g_aload_n k_Pla_init_0 rfl rfl ?_
  refine g_ob k_Pla_init_1 ob_Pla_3 (Nat.le_of_ble_eq_true rfl) (by omega) ?_
  refine g_aload_n k_Pla_init_4 rfl rfl ?_
  refine g_bipush (v := 15) k_Pla_init_5 rfl ?_
  refine co_na (t := 0) (N := 15) hz k_Pla_init_7 rfl (by decide) ac_int (by decide) (by decide) (by decide) (by omega) (by omega) (fun g hz x hA hN => ?_)
  have hk := (x _ (by omega)).1.trans hk
  have hB := hB.tr x (by omega)
  have ka1 := hA
  obtain ⟨m1, u_m1, e⟩ := o_let_ex e
  refine G.hm u_m1 ?_
  refine co_pr k_Pla_init_9 fl_Pla_9 rfl ⟨R_Pla, F_Pla, 8, rfl, Or.inr ⟨rfl, rfl, rfl⟩⟩ hk (by decide) (fun g x => ?_)
  have hk := (x.2.1 _).trans hk
  have ka1 := (x.2.1 _).trans ka1
  have hB := hB.pt x (by omega)
  have hz := x.1.trans hz
  have r0 := x.2.2.2
  refine g_aload_n k_Pla_init_12 rfl rfl ?_
  refine g_bipush (v := 15) k_Pla_init_13 rfl ?_
  refine co_na (t := 0) (N := 15) hz k_Pla_init_15 rfl (by decide) ac_int (by decide) (by decide) (by decide) (by omega) (by omega) (fun g hz x hA hN => ?_)
  have hk := (x _ (by omega)).1.trans hk
  have ka1 := (x _ (by omega)).1.trans ka1
  have r0 := ((x _ (by omega)).2 _).trans r0
  have hB := hB.tr x (by omega)
  have ka2 := hA
  obtain ⟨m2, u_m2, e⟩ := o_let_ex e
  refine G.hm u_m2 ?_
  refine co_pr k_Pla_init_17 fl_Pla_15 rfl ⟨R_Pla, F_Pla, 8, rfl, Or.inr ⟨rfl, rfl, rfl⟩⟩ hk (by decide) (fun g x => ?_)
  have hk := (x.2.1 _).trans hk
  have ka1 := (x.2.1 _).trans ka1
  have r0 := (x.2.2.1 _ _ (by omega)).trans r0
  have ka2 := (x.2.1 _).trans ka2
  have hB := hB.pt x (by omega)
  have hz := x.1.trans hz
  have r1 := x.2.2.2
  refine g_aload_n k_Pla_init_20 rfl rfl ?_
  refine g_iconst (v := 5) k_Pla_init_21 rfl ?_
  refine co_na (t := 0) (N := 5) hz k_Pla_init_22 rfl (by decide) ac_int (by decide) (by decide) (by decide) (by omega) (by omega) (fun g hz x hA hN => ?_)
  have hk := (x _ (by omega)).1.trans hk
  have ka1 := (x _ (by omega)).1.trans ka1
  have r0 := ((x _ (by omega)).2 _).trans r0
  have ka2 := (x _ (by omega)).1.trans ka2
  have r1 := ((x _ (by omega)).2 _).trans r1
  have hB := hB.tr x (by omega)
  have ka3 := hA
  obtain ⟨m3, u_m3, e⟩ := o_let_ex e
  refine G.hm u_m3 ?_
  refine co_pr k_Pla_init_24 fl_Pla_18 rfl ⟨R_Pla, F_Pla, 8, rfl, Or.inr ⟨rfl, rfl, rfl⟩⟩ hk (by decide) (fun g x => ?_)
  have hk := (x.2.1 _).trans hk
  have ka1 := (x.2.1 _).trans ka1
  have r0 := (x.2.2.1 _ _ (by omega)).trans r0
  have ka2 := (x.2.1 _).trans ka2
  have r1 := (x.2.2.1 _ _ (by omega)).trans r1
  have ka3 := (x.2.1 _).trans ka3
  have hB := hB.pt x (by omega)
  have hz := x.1.trans hz
  have r2 := x.2.2.2
  refine g_aload_n k_Pla_init_27 rfl rfl ?_
  refine g_bipush (v := 9) k_Pla_init_28 rfl ?_
  refine co_na (t := 1) (N := 9) hz k_Pla_init_30 rfl (by decide) ac_boolean (by decide) (by decide) (by decide) (by omega) (by omega) (fun g hz x hA hN => ?_)
  have hk := (x _ (by omega)).1.trans hk
  have ka1 := (x _ (by omega)).1.trans ka1
  have r0 := ((x _ (by omega)).2 _).trans r0
  have ka2 := (x _ (by omega)).1.trans ka2
  have r1 := ((x _ (by omega)).2 _).trans r1
  have ka3 := (x _ (by omega)).1.trans ka3
  have r2 := ((x _ (by omega)).2 _).trans r2
  have hB := hB.tr x (by omega)
  have ka4 := hA
  obtain ⟨m4, u_m4, e⟩ := o_let_ex e
  refine G.hm u_m4 ?_
  refine co_pr k_Pla_init_32 fl_Pla_21 rfl ⟨R_Pla, F_Pla, 8, rfl, Or.inr ⟨rfl, rfl, rfl⟩⟩ hk (by decide) (fun g x => ?_)
  have hk := (x.2.1 _).trans hk
  have ka1 := (x.2.1 _).trans ka1
  have r0 := (x.2.2.1 _ _ (by omega)).trans r0
  have ka2 := (x.2.1 _).trans ka2
  have r1 := (x.2.2.1 _ _ (by omega)).trans r1
  have ka3 := (x.2.1 _).trans ka3
  have r2 := (x.2.2.1 _ _ (by omega)).trans r2
  have ka4 := (x.2.1 _).trans ka4
  have hB := hB.pt x (by omega)
  have hz := x.1.trans hz
  have r3 := x.2.2.2
  refine g_aload_n k_Pla_init_35 rfl rfl ?_
  refine g_bipush (v := 9) k_Pla_init_36 rfl ?_
  refine co_na (t := 1) (N := 9) hz k_Pla_init_38 rfl (by decide) ac_boolean (by decide) (by decide) (by decide) (by omega) (by omega) (fun g hz x hA hN => ?_)
  have hk := (x _ (by omega)).1.trans hk
  have ka1 := (x _ (by omega)).1.trans ka1
  have r0 := ((x _ (by omega)).2 _).trans r0
  have ka2 := (x _ (by omega)).1.trans ka2
  have r1 := ((x _ (by omega)).2 _).trans r1
  have ka3 := (x _ (by omega)).1.trans ka3
  have r2 := ((x _ (by omega)).2 _).trans r2
  have ka4 := (x _ (by omega)).1.trans ka4
  have r3 := ((x _ (by omega)).2 _).trans r3
  have hB := hB.tr x (by omega)
  have ka5 := hA
  obtain ⟨m5, u_m5, e⟩ := o_let_ex e
  refine G.hm u_m5 ?_
  refine co_pr k_Pla_init_40 fl_Pla_25 rfl ⟨R_Pla, F_Pla, 8, rfl, Or.inr ⟨rfl, rfl, rfl⟩⟩ hk (by decide) (fun g x => ?_)
  have hk := (x.2.1 _).trans hk
  have ka1 := (x.2.1 _).trans ka1
  have r0 := (x.2.2.1 _ _ (by omega)).trans r0
  have ka2 := (x.2.1 _).trans ka2
  have r1 := (x.2.2.1 _ _ (by omega)).trans r1
  have ka3 := (x.2.1 _).trans ka3
  have r2 := (x.2.2.1 _ _ (by omega)).trans r2
  have ka4 := (x.2.1 _).trans ka4
  have r3 := (x.2.2.1 _ _ (by omega)).trans r3
  have ka5 := (x.2.1 _).trans ka5
  have hB := hB.pt x (by omega)
  have hz := x.1.trans hz
  have r4 := x.2.2.2
  have s0 : ShPla _ a0 := ⟨hk, r0, ka1, r1, ka2, r2, ka3, r3, ka4, r4, ka5⟩
  have hq := hq none (_, m') ⟨_, rfl, rfl, hz, hB, s0⟩
  exact (t_Pla_init_43 F a0 s0 m5 hq e)
def lb_Len_init_71 (F : Nat) (rec_71 : Nat → Int32 → aM → Option (Int32 × aM)) (a0 : Nat) (x1 : Int32) (m : aM) : Option (Int32 × aM) :=
  (if 4 ≤ x1 then
  some (0, m)
  else
  o_b2 (f_Len_addOrder a0 2 x1 m) fun y1 m2 =>
  o_gd (inb x1 8) <|
  o_let (a_st m2 (a0 + 3) x1.toNatClampNeg y1) fun m4 =>
  o_gd (inb x1 8) <|
  o_let (a_st m4 (a0 + 4) x1.toNatClampNeg (m4 a0 2)) fun m6 =>
  o_b2 (f_Len_addOrder a0 1 x1 m6) fun y7 m8 =>
  o_gd (inb (4 + x1) 8) <|
  o_let (a_st m8 (a0 + 3) ((4 + x1).toNatClampNeg) y7) fun m10 =>
  o_gd (inb (4 + x1) 8) <|
  o_let (a_st m10 (a0 + 4) ((4 + x1).toNatClampNeg) (m10 a0 2)) fun m12 =>
  rec_71 a0 (x1 + 1) m12
  )
theorem tb_Len_init_71 {K : aK} {d bc bs : Nat} {g : aG} {Q : aQ} {r : Int32} {m' : aM} (F : Nat) (rec_71 : Nat → Int32 → aM → Option (Int32 × aM)) (hr_71 : ∀ (a0 : Nat) (s0 : ShLen g a0) (x1 : Int32) (m : aM), rec_71 a0 x1 m = some (r, m') → G K M_Len_init d bc bs 71 [.ref a0, .int x1] [] (g, m) Q) (a0 : Nat) (s0 : ShLen g a0) (x1 : Int32) (m : aM) (hq : Q (.inl none) (g, m')) (e : lb_Len_init_71 F rec_71 a0 x1 m = some (r, m')) (hd : 1 ≤ d) : G K M_Len_init d bc bs 71 [.ref a0, .int x1] [] (g, m) Q := by
  unfold lb_Len_init_71 at e
  refine g_iload_n k_Len_init_71 rfl rfl ?_
  refine g_iconst (v := 4) k_Len_init_72 rfl ?_
  refine g_icmp_ge (tgt := 130) k_Len_init_73 (by decide) (fun c => ?_) (fun c => ?_)
  · rw [if_pos c] at e
    refine g_vret k_Len_init_130 rfl ?_
    exact (by cases e; exact hq)
  · rw [if_neg c] at e
    refine g_aload_n k_Len_init_76 rfl rfl ?_
    refine p_getr k_Len_init_77 fl_Len_18 rfl (sk_Len s0) (by decide) (sr_Len_3 s0) ?_
    refine g_iload_n k_Len_init_80 rfl rfl ?_
    refine g_aload_n k_Len_init_81 rfl rfl ?_
    refine g_iconst (v := 2) k_Len_init_82 rfl ?_
    refine g_iload_n k_Len_init_83 rfl rfl ?_
    obtain ⟨y1, m2, e_y1, e⟩ := o_b2_ex e
    refine g_cv k_Len_init_84 lv_Len_37 (by decide +kernel) (T := F_Len) (N := 11) (ci := 2) rfl (sk_Len s0) (sn_Len_addOrder (bc := 0) (bs := 0) a0 s0 2 x1 m e_y1) rfl rfl (Nat.le_of_ble_eq_true rfl) (by simp [Value.category]) (by omega) (by omega) (by omega) ?_
    obtain ⟨q3, e⟩ := o_gd_ex e
    refine p_iast k_Len_init_87 (sa_Len_3 s0) (inb_in q3) (j := x1.toNatClampNeg) rfl ?_
    obtain ⟨m4, u_m4, e⟩ := o_let_ex e
    refine G.hm u_m4 ?_
    refine g_aload_n k_Len_init_88 rfl rfl ?_
    refine p_getr k_Len_init_89 fl_Len_21 rfl (sk_Len s0) (by decide) (sr_Len_4 s0) ?_
    refine g_iload_n k_Len_init_92 rfl rfl ?_
    refine g_aload_n k_Len_init_93 rfl rfl ?_
    refine p_geti k_Len_init_94 fl_Len_41 rfl (sk_Len s0) (by decide) ?_
    obtain ⟨q5, e⟩ := o_gd_ex e
    refine p_iast k_Len_init_97 (sa_Len_4 s0) (inb_in q5) (j := x1.toNatClampNeg) rfl ?_
    obtain ⟨m6, u_m6, e⟩ := o_let_ex e
    refine G.hm u_m6 ?_
    refine g_aload_n k_Len_init_98 rfl rfl ?_
    refine p_getr k_Len_init_99 fl_Len_18 rfl (sk_Len s0) (by decide) (sr_Len_3 s0) ?_
    refine g_iconst (v := 4) k_Len_init_102 rfl ?_
    refine g_iload_n k_Len_init_103 rfl rfl ?_
    refine g_iadd k_Len_init_104 ?_
    refine g_aload_n k_Len_init_105 rfl rfl ?_
    refine g_iconst (v := 1) k_Len_init_106 rfl ?_
    refine g_iload_n k_Len_init_107 rfl rfl ?_
    obtain ⟨y7, m8, e_y7, e⟩ := o_b2_ex e
    refine g_cv k_Len_init_108 lv_Len_37 (by decide +kernel) (T := F_Len) (N := 11) (ci := 2) rfl (sk_Len s0) (sn_Len_addOrder (bc := 0) (bs := 0) a0 s0 1 x1 m6 e_y7) rfl rfl (Nat.le_of_ble_eq_true rfl) (by simp [Value.category]) (by omega) (by omega) (by omega) ?_
    obtain ⟨q9, e⟩ := o_gd_ex e
    refine p_iast k_Len_init_111 (sa_Len_3 s0) (inb_in q9) (j := (4 + x1).toNatClampNeg) rfl ?_
    obtain ⟨m10, u_m10, e⟩ := o_let_ex e
    refine G.hm u_m10 ?_
    refine g_aload_n k_Len_init_112 rfl rfl ?_
    refine p_getr k_Len_init_113 fl_Len_21 rfl (sk_Len s0) (by decide) (sr_Len_4 s0) ?_
    refine g_iconst (v := 4) k_Len_init_116 rfl ?_
    refine g_iload_n k_Len_init_117 rfl rfl ?_
    refine g_iadd k_Len_init_118 ?_
    refine g_aload_n k_Len_init_119 rfl rfl ?_
    refine p_geti k_Len_init_120 fl_Len_41 rfl (sk_Len s0) (by decide) ?_
    obtain ⟨q11, e⟩ := o_gd_ex e
    refine p_iast k_Len_init_123 (sa_Len_4 s0) (inb_in q11) (j := (4 + x1).toNatClampNeg) rfl ?_
    obtain ⟨m12, u_m12, e⟩ := o_let_ex e
    refine G.hm u_m12 ?_
    refine g_iinc (v := _ + 1) k_Len_init_124 rfl rfl (by decide) ?_
    refine g_goto (tgt := 71) k_Len_init_127 (by decide) ?_
    exact (hr_71 a0 s0 (x1 + 1) m12 e)
def ll_Len_init_71 (F : Nat) : Nat → Nat → Int32 → aM → Option (Int32 × aM)
  | 0, _, _, _ => none
  | N + 1, a0, x1, m => lb_Len_init_71 F (ll_Len_init_71 F N) a0 x1 m
theorem t_Len_init_71 {K : aK} {d bc bs : Nat} {g : aG} {Q : aQ} {r : Int32} {m' : aM} (F : Nat) : ∀ (N : Nat) (a0 : Nat) (s0 : ShLen g a0) (x1 : Int32) (m : aM), Q (.inl none) (g, m') → ll_Len_init_71 F N a0 x1 m = some (r, m') → 1 ≤ d → G K M_Len_init d bc bs 71 [.ref a0, .int x1] [] (g, m) Q
  | 0, _, _, _, _ => fun _ e => nomatch e
  | N + 1, a0, s0, x1, m => fun hq e hd => tb_Len_init_71 F (ll_Len_init_71 F N) (fun a0 s0 x1 m e => t_Len_init_71 F N a0 s0 x1 m hq e hd) a0 s0 x1 m hq e hd
def b_Len_init_69 (F : Nat) (a0 : Nat) (m : aM) : Option (Int32 × aM) :=
  ll_Len_init_71 F F a0 0 m
theorem t_Len_init_69 {K : aK} {d bc bs : Nat} {g : aG} {Q : aQ} {r : Int32} {m' : aM} (F : Nat) (a0 : Nat) (s0 : ShLen g a0) (m : aM) (hq : Q (.inl none) (g, m')) (e : b_Len_init_69 F a0 m = some (r, m')) (hd : 1 ≤ d) : G K M_Len_init d bc bs 69 [.ref a0, .double 0] [] (g, m) Q := by
  unfold b_Len_init_69 at e
  refine g_iconst (v := 0) k_Len_init_69 rfl ?_
  refine g_istore_n k_Len_init_70 rfl (by decide) ?_
  exact (t_Len_init_71 F F a0 s0 0 m hq e hd)
def f_Len_init (F : Nat) (a0 : Nat) (m : aM) : Option (Int32 × aM) :=
  o_let (a_zr m (a0 + 1)) fun m1 =>
  o_let (a_zr m1 (a0 + 2)) fun m2 =>
  o_let (a_zr m2 (a0 + 3)) fun m3 =>
  o_let (a_zr m3 (a0 + 4)) fun m4 =>
  o_let (a_zr m4 (a0 + 5)) fun m5 =>
  o_let (a_zr m5 (a0 + 6)) fun m6 =>
  o_let (a_zr m6 (a0 + 7)) fun m7 =>
  o_let (a_zr m7 (a0 + 8)) fun m8 =>
  b_Len_init_69 F a0 m8
theorem s_Len_init {K : aK} {d bc bs : Nat} {g : aG} (F : Nat) (a0 : Nat) (hz : g.1 = a0 + 1) (hk : g.2.1 a0 = (10 + 2, 11)) (m : aM) {m' : aM} {w0 : Int32} (e : f_Len_init F a0 m = some (w0, m')) (hd : 1 ≤ d) (hc : 8 ≤ bc) (hs : 916 ≤ bs) : SpR K M_Len_init d bc bs [.ref a0] (g, m) (fun v h' => ∃ g', v = none ∧ h' = (g', m') ∧ g'.1 = a0 + 9 ∧ Bl a0 g g' ∧ ShLen g' a0) := by
  refine spr_of ok_Len_init rfl (Nat.le_of_ble_eq_true rfl) (by simp [Value.category]) (fun Q hq => ?_)
  unfold f_Len_init at e
  have hB : Bl a0 g g := Bl.rf
  refine g_aload_n k_Len_init_0 rfl rfl ?_
  refine g_ob k_Len_init_1 ob_Len_3 (Nat.le_of_ble_eq_true rfl) (by omega) ?_
  refine g_aload_n k_Len_init_4 rfl rfl ?_
  refine g_sipush (v := 400) k_Len_init_5 rfl ?_
  refine co_na (t := 0) (N := 400) hz k_Len_init_8 rfl (by decide) ac_int (by decide) (by decide) (by decide) (by omega) (by omega) (fun g hz x hA hN => ?_)
  have hk := (x _ (by omega)).1.trans hk
  have hB := hB.tr x (by omega)
  have ka1 := hA
  obtain ⟨m1, u_m1, e⟩ := o_let_ex e
  refine G.hm u_m1 ?_
  refine co_pr k_Len_init_10 fl_Len_11 rfl ⟨R_Len, F_Len, 11, rfl, Or.inr ⟨rfl, rfl, rfl⟩⟩ hk (by decide) (fun g x => ?_)
  have hk := (x.2.1 _).trans hk
  have ka1 := (x.2.1 _).trans ka1
  have hB := hB.pt x (by omega)
  have hz := x.1.trans hz
  have r0 := x.2.2.2
  refine g_aload_n k_Len_init_13 rfl rfl ?_
  refine g_sipush (v := 400) k_Len_init_14 rfl ?_
  refine co_na (t := 0) (N := 400) hz k_Len_init_17 rfl (by decide) ac_int (by decide) (by decide) (by decide) (by omega) (by omega) (fun g hz x hA hN => ?_)
  have hk := (x _ (by omega)).1.trans hk
  have ka1 := (x _ (by omega)).1.trans ka1
  have r0 := ((x _ (by omega)).2 _).trans r0
  have hB := hB.tr x (by omega)
  have ka2 := hA
  obtain ⟨m2, u_m2, e⟩ := o_let_ex e
  refine G.hm u_m2 ?_
  refine co_pr k_Len_init_19 fl_Len_15 rfl ⟨R_Len, F_Len, 11, rfl, Or.inr ⟨rfl, rfl, rfl⟩⟩ hk (by decide) (fun g x => ?_)
  have hk := (x.2.1 _).trans hk
  have ka1 := (x.2.1 _).trans ka1
  have r0 := (x.2.2.1 _ _ (by omega)).trans r0
  have ka2 := (x.2.1 _).trans ka2
  have hB := hB.pt x (by omega)
  have hz := x.1.trans hz
  have r1 := x.2.2.2
  refine g_aload_n k_Len_init_22 rfl rfl ?_
  refine g_bipush (v := 8) k_Len_init_23 rfl ?_
  refine co_na (t := 0) (N := 8) hz k_Len_init_25 rfl (by decide) ac_int (by decide) (by decide) (by decide) (by omega) (by omega) (fun g hz x hA hN => ?_)
  have hk := (x _ (by omega)).1.trans hk
  have ka1 := (x _ (by omega)).1.trans ka1
  have r0 := ((x _ (by omega)).2 _).trans r0
  have ka2 := (x _ (by omega)).1.trans ka2
  have r1 := ((x _ (by omega)).2 _).trans r1
  have hB := hB.tr x (by omega)
  have ka3 := hA
  obtain ⟨m3, u_m3, e⟩ := o_let_ex e
  refine G.hm u_m3 ?_
  refine co_pr k_Len_init_27 fl_Len_18 rfl ⟨R_Len, F_Len, 11, rfl, Or.inr ⟨rfl, rfl, rfl⟩⟩ hk (by decide) (fun g x => ?_)
  have hk := (x.2.1 _).trans hk
  have ka1 := (x.2.1 _).trans ka1
  have r0 := (x.2.2.1 _ _ (by omega)).trans r0
  have ka2 := (x.2.1 _).trans ka2
  have r1 := (x.2.2.1 _ _ (by omega)).trans r1
  have ka3 := (x.2.1 _).trans ka3
  have hB := hB.pt x (by omega)
  have hz := x.1.trans hz
  have r3 := x.2.2.2
  refine g_aload_n k_Len_init_30 rfl rfl ?_
  refine g_bipush (v := 8) k_Len_init_31 rfl ?_
  refine co_na (t := 0) (N := 8) hz k_Len_init_33 rfl (by decide) ac_int (by decide) (by decide) (by decide) (by omega) (by omega) (fun g hz x hA hN => ?_)
  have hk := (x _ (by omega)).1.trans hk
  have ka1 := (x _ (by omega)).1.trans ka1
  have r0 := ((x _ (by omega)).2 _).trans r0
  have ka2 := (x _ (by omega)).1.trans ka2
  have r1 := ((x _ (by omega)).2 _).trans r1
  have ka3 := (x _ (by omega)).1.trans ka3
  have r3 := ((x _ (by omega)).2 _).trans r3
  have hB := hB.tr x (by omega)
  have ka4 := hA
  obtain ⟨m4, u_m4, e⟩ := o_let_ex e
  refine G.hm u_m4 ?_
  refine co_pr k_Len_init_35 fl_Len_21 rfl ⟨R_Len, F_Len, 11, rfl, Or.inr ⟨rfl, rfl, rfl⟩⟩ hk (by decide) (fun g x => ?_)
  have hk := (x.2.1 _).trans hk
  have ka1 := (x.2.1 _).trans ka1
  have r0 := (x.2.2.1 _ _ (by omega)).trans r0
  have ka2 := (x.2.1 _).trans ka2
  have r1 := (x.2.2.1 _ _ (by omega)).trans r1
  have ka3 := (x.2.1 _).trans ka3
  have r3 := (x.2.2.1 _ _ (by omega)).trans r3
  have ka4 := (x.2.1 _).trans ka4
  have hB := hB.pt x (by omega)
  have hz := x.1.trans hz
  have r4 := x.2.2.2
  refine g_aload_n k_Len_init_38 rfl rfl ?_
  refine g_bipush (v := 16) k_Len_init_39 rfl ?_
  refine co_na (t := 0) (N := 16) hz k_Len_init_41 rfl (by decide) ac_int (by decide) (by decide) (by decide) (by omega) (by omega) (fun g hz x hA hN => ?_)
  have hk := (x _ (by omega)).1.trans hk
  have ka1 := (x _ (by omega)).1.trans ka1
  have r0 := ((x _ (by omega)).2 _).trans r0
  have ka2 := (x _ (by omega)).1.trans ka2
  have r1 := ((x _ (by omega)).2 _).trans r1
  have ka3 := (x _ (by omega)).1.trans ka3
  have r3 := ((x _ (by omega)).2 _).trans r3
  have ka4 := (x _ (by omega)).1.trans ka4
  have r4 := ((x _ (by omega)).2 _).trans r4
  have hB := hB.tr x (by omega)
  have ka5 := hA
  obtain ⟨m5, u_m5, e⟩ := o_let_ex e
  refine G.hm u_m5 ?_
  refine co_pr k_Len_init_43 fl_Len_24 rfl ⟨R_Len, F_Len, 11, rfl, Or.inr ⟨rfl, rfl, rfl⟩⟩ hk (by decide) (fun g x => ?_)
  have hk := (x.2.1 _).trans hk
  have ka1 := (x.2.1 _).trans ka1
  have r0 := (x.2.2.1 _ _ (by omega)).trans r0
  have ka2 := (x.2.1 _).trans ka2
  have r1 := (x.2.2.1 _ _ (by omega)).trans r1
  have ka3 := (x.2.1 _).trans ka3
  have r3 := (x.2.2.1 _ _ (by omega)).trans r3
  have ka4 := (x.2.1 _).trans ka4
  have r4 := (x.2.2.1 _ _ (by omega)).trans r4
  have ka5 := (x.2.1 _).trans ka5
  have hB := hB.pt x (by omega)
  have hz := x.1.trans hz
  have r5 := x.2.2.2
  refine g_aload_n k_Len_init_46 rfl rfl ?_
  refine g_bipush (v := 16) k_Len_init_47 rfl ?_
  refine co_na (t := 0) (N := 16) hz k_Len_init_49 rfl (by decide) ac_int (by decide) (by decide) (by decide) (by omega) (by omega) (fun g hz x hA hN => ?_)
  have hk := (x _ (by omega)).1.trans hk
  have ka1 := (x _ (by omega)).1.trans ka1
  have r0 := ((x _ (by omega)).2 _).trans r0
  have ka2 := (x _ (by omega)).1.trans ka2
  have r1 := ((x _ (by omega)).2 _).trans r1
  have ka3 := (x _ (by omega)).1.trans ka3
  have r3 := ((x _ (by omega)).2 _).trans r3
  have ka4 := (x _ (by omega)).1.trans ka4
  have r4 := ((x _ (by omega)).2 _).trans r4
  have ka5 := (x _ (by omega)).1.trans ka5
  have r5 := ((x _ (by omega)).2 _).trans r5
  have hB := hB.tr x (by omega)
  have ka6 := hA
  obtain ⟨m6, u_m6, e⟩ := o_let_ex e
  refine G.hm u_m6 ?_
  refine co_pr k_Len_init_51 fl_Len_27 rfl ⟨R_Len, F_Len, 11, rfl, Or.inr ⟨rfl, rfl, rfl⟩⟩ hk (by decide) (fun g x => ?_)
  have hk := (x.2.1 _).trans hk
  have ka1 := (x.2.1 _).trans ka1
  have r0 := (x.2.2.1 _ _ (by omega)).trans r0
  have ka2 := (x.2.1 _).trans ka2
  have r1 := (x.2.2.1 _ _ (by omega)).trans r1
  have ka3 := (x.2.1 _).trans ka3
  have r3 := (x.2.2.1 _ _ (by omega)).trans r3
  have ka4 := (x.2.1 _).trans ka4
  have r4 := (x.2.2.1 _ _ (by omega)).trans r4
  have ka5 := (x.2.1 _).trans ka5
  have r5 := (x.2.2.1 _ _ (by omega)).trans r5
  have ka6 := (x.2.1 _).trans ka6
  have hB := hB.pt x (by omega)
  have hz := x.1.trans hz
  have r6 := x.2.2.2
  refine g_aload_n k_Len_init_54 rfl rfl ?_
  refine g_iconst (v := 4) k_Len_init_55 rfl ?_
  refine co_na (t := 1) (N := 4) hz k_Len_init_56 rfl (by decide) ac_boolean (by decide) (by decide) (by decide) (by omega) (by omega) (fun g hz x hA hN => ?_)
  have hk := (x _ (by omega)).1.trans hk
  have ka1 := (x _ (by omega)).1.trans ka1
  have r0 := ((x _ (by omega)).2 _).trans r0
  have ka2 := (x _ (by omega)).1.trans ka2
  have r1 := ((x _ (by omega)).2 _).trans r1
  have ka3 := (x _ (by omega)).1.trans ka3
  have r3 := ((x _ (by omega)).2 _).trans r3
  have ka4 := (x _ (by omega)).1.trans ka4
  have r4 := ((x _ (by omega)).2 _).trans r4
  have ka5 := (x _ (by omega)).1.trans ka5
  have r5 := ((x _ (by omega)).2 _).trans r5
  have ka6 := (x _ (by omega)).1.trans ka6
  have r6 := ((x _ (by omega)).2 _).trans r6
  have hB := hB.tr x (by omega)
  have ka7 := hA
  obtain ⟨m7, u_m7, e⟩ := o_let_ex e
  refine G.hm u_m7 ?_
  refine co_pr k_Len_init_58 fl_Len_30 rfl ⟨R_Len, F_Len, 11, rfl, Or.inr ⟨rfl, rfl, rfl⟩⟩ hk (by decide) (fun g x => ?_)
  have hk := (x.2.1 _).trans hk
  have ka1 := (x.2.1 _).trans ka1
  have r0 := (x.2.2.1 _ _ (by omega)).trans r0
  have ka2 := (x.2.1 _).trans ka2
  have r1 := (x.2.2.1 _ _ (by omega)).trans r1
  have ka3 := (x.2.1 _).trans ka3
  have r3 := (x.2.2.1 _ _ (by omega)).trans r3
  have ka4 := (x.2.1 _).trans ka4
  have r4 := (x.2.2.1 _ _ (by omega)).trans r4
  have ka5 := (x.2.1 _).trans ka5
  have r5 := (x.2.2.1 _ _ (by omega)).trans r5
  have ka6 := (x.2.1 _).trans ka6
  have r6 := (x.2.2.1 _ _ (by omega)).trans r6
  have ka7 := (x.2.1 _).trans ka7
  have hB := hB.pt x (by omega)
  have hz := x.1.trans hz
  have r8 := x.2.2.2
  refine g_aload_n k_Len_init_61 rfl rfl ?_
  refine g_bipush (v := 64) k_Len_init_62 rfl ?_
  refine co_na (t := 0) (N := 64) hz k_Len_init_64 rfl (by decide) ac_int (by decide) (by decide) (by decide) (by omega) (by omega) (fun g hz x hA hN => ?_)
  have hk := (x _ (by omega)).1.trans hk
  have ka1 := (x _ (by omega)).1.trans ka1
  have r0 := ((x _ (by omega)).2 _).trans r0
  have ka2 := (x _ (by omega)).1.trans ka2
  have r1 := ((x _ (by omega)).2 _).trans r1
  have ka3 := (x _ (by omega)).1.trans ka3
  have r3 := ((x _ (by omega)).2 _).trans r3
  have ka4 := (x _ (by omega)).1.trans ka4
  have r4 := ((x _ (by omega)).2 _).trans r4
  have ka5 := (x _ (by omega)).1.trans ka5
  have r5 := ((x _ (by omega)).2 _).trans r5
  have ka6 := (x _ (by omega)).1.trans ka6
  have r6 := ((x _ (by omega)).2 _).trans r6
  have ka7 := (x _ (by omega)).1.trans ka7
  have r8 := ((x _ (by omega)).2 _).trans r8
  have hB := hB.tr x (by omega)
  have ka8 := hA
  obtain ⟨m8, u_m8, e⟩ := o_let_ex e
  refine G.hm u_m8 ?_
  refine co_pr k_Len_init_66 fl_Len_34 rfl ⟨R_Len, F_Len, 11, rfl, Or.inr ⟨rfl, rfl, rfl⟩⟩ hk (by decide) (fun g x => ?_)
  have hk := (x.2.1 _).trans hk
  have ka1 := (x.2.1 _).trans ka1
  have r0 := (x.2.2.1 _ _ (by omega)).trans r0
  have ka2 := (x.2.1 _).trans ka2
  have r1 := (x.2.2.1 _ _ (by omega)).trans r1
  have ka3 := (x.2.1 _).trans ka3
  have r3 := (x.2.2.1 _ _ (by omega)).trans r3
  have ka4 := (x.2.1 _).trans ka4
  have r4 := (x.2.2.1 _ _ (by omega)).trans r4
  have ka5 := (x.2.1 _).trans ka5
  have r5 := (x.2.2.1 _ _ (by omega)).trans r5
  have ka6 := (x.2.1 _).trans ka6
  have r6 := (x.2.2.1 _ _ (by omega)).trans r6
  have ka7 := (x.2.1 _).trans ka7
  have r8 := (x.2.2.1 _ _ (by omega)).trans r8
  have ka8 := (x.2.1 _).trans ka8
  have hB := hB.pt x (by omega)
  have hz := x.1.trans hz
  have r9 := x.2.2.2
  have s0 : ShLen _ a0 := ⟨hk, r0, ka1, r1, ka2, r3, ka3, r4, ka4, r5, ka5, r6, ka6, r8, ka7, r9, ka8⟩
  have hq := hq none (_, m') ⟨_, rfl, rfl, hz, hB, s0⟩
  exact (t_Len_init_69 F a0 s0 m8 hq e (by omega))
def f_Box_init (a0 : Nat) (m : aM) : Option (Int32 × aM) :=
  o_let (a_zr m (a0 + 1)) fun m1 =>
  o_let (a_zr m1 (a0 + 2)) fun m2 =>
  o_let (a_zr m2 (a0 + 3)) fun m3 =>
  o_let (a_zr m3 (a0 + 4)) fun m4 =>
  o_let (a_zr m4 (a0 + 5)) fun m5 =>
  o_let (a_zr m5 (a0 + 6)) fun m6 =>
  o_let (a_zr m6 (a0 + 7)) fun m7 =>
  some ((0 : Int32), m7)
theorem s_Box_init {K : aK} {d bc bs : Nat} {g : aG} (a0 : Nat) (hz : g.1 = a0 + 1) (hk : g.2.1 a0 = (10 + 1, 9)) (b1 : Nat) (m : aM) {m' : aM} {w0 : Int32} (e : f_Box_init a0 m = some (w0, m')) (hd : 1 ≤ d) (hc : 7 ≤ bc) (hs : 28 ≤ bs) : SpR K M_Box_init d bc bs [.ref a0, .ref b1] (g, m) (fun v h' => ∃ g', v = none ∧ h' = (g', m') ∧ g'.1 = a0 + 8 ∧ Bl a0 g g' ∧ ShBox g' a0 ∧ g'.2.2.1 a0 0 = some b1 ∧ g'.2.2.1 a0 8 = none) := by
  refine spr_of ok_Box_init rfl (Nat.le_of_ble_eq_true rfl) (by simp [Value.category]) (fun Q hq => ?_)
  unfold f_Box_init at e
  have hB : Bl a0 g g := Bl.rf
  refine g_aload_n k_Box_init_0 rfl rfl ?_
  refine g_ob k_Box_init_1 ob_Box_3 (Nat.le_of_ble_eq_true rfl) (by omega) ?_
  refine g_aload_n k_Box_init_4 rfl rfl ?_
  refine g_iconst (v := 4) k_Box_init_5 rfl ?_
  refine co_na (t := 0) (N := 4) hz k_Box_init_6 rfl (by decide) ac_int (by decide) (by decide) (by decide) (by omega) (by omega) (fun g hz x hA hN => ?_)
  have hk := (x _ (by omega)).1.trans hk
  have hB := hB.tr x (by omega)
  have ka1 := hA
  obtain ⟨m1, u_m1, e⟩ := o_let_ex e
  refine G.hm u_m1 ?_
  refine co_pr k_Box_init_8 fl_Box_9 rfl ⟨R_Box, F_Box, 9, rfl, Or.inr ⟨rfl, rfl, rfl⟩⟩ hk (by decide) (fun g x => ?_)
  have hk := (x.2.1 _).trans hk
  have ka1 := (x.2.1 _).trans ka1
  have hB := hB.pt x (by omega)
  have hz := x.1.trans hz
  have r1 := x.2.2.2
  refine g_aload_n k_Box_init_11 rfl rfl ?_
  refine g_iconst (v := 4) k_Box_init_12 rfl ?_
  refine co_na (t := 0) (N := 4) hz k_Box_init_13 rfl (by decide) ac_int (by decide) (by decide) (by decide) (by omega) (by omega) (fun g hz x hA hN => ?_)
  have hk := (x _ (by omega)).1.trans hk
  have ka1 := (x _ (by omega)).1.trans ka1
  have r1 := ((x _ (by omega)).2 _).trans r1
  have hB := hB.tr x (by omega)
  have ka2 := hA
  obtain ⟨m2, u_m2, e⟩ := o_let_ex e
  refine G.hm u_m2 ?_
  refine co_pr k_Box_init_15 fl_Box_15 rfl ⟨R_Box, F_Box, 9, rfl, Or.inr ⟨rfl, rfl, rfl⟩⟩ hk (by decide) (fun g x => ?_)
  have hk := (x.2.1 _).trans hk
  have ka1 := (x.2.1 _).trans ka1
  have r1 := (x.2.2.1 _ _ (by omega)).trans r1
  have ka2 := (x.2.1 _).trans ka2
  have hB := hB.pt x (by omega)
  have hz := x.1.trans hz
  have r2 := x.2.2.2
  refine g_aload_n k_Box_init_18 rfl rfl ?_
  refine g_iconst (v := 4) k_Box_init_19 rfl ?_
  refine co_na (t := 0) (N := 4) hz k_Box_init_20 rfl (by decide) ac_int (by decide) (by decide) (by decide) (by omega) (by omega) (fun g hz x hA hN => ?_)
  have hk := (x _ (by omega)).1.trans hk
  have ka1 := (x _ (by omega)).1.trans ka1
  have r1 := ((x _ (by omega)).2 _).trans r1
  have ka2 := (x _ (by omega)).1.trans ka2
  have r2 := ((x _ (by omega)).2 _).trans r2
  have hB := hB.tr x (by omega)
  have ka3 := hA
  obtain ⟨m3, u_m3, e⟩ := o_let_ex e
  refine G.hm u_m3 ?_
  refine co_pr k_Box_init_22 fl_Box_18 rfl ⟨R_Box, F_Box, 9, rfl, Or.inr ⟨rfl, rfl, rfl⟩⟩ hk (by decide) (fun g x => ?_)
  have hk := (x.2.1 _).trans hk
  have ka1 := (x.2.1 _).trans ka1
  have r1 := (x.2.2.1 _ _ (by omega)).trans r1
  have ka2 := (x.2.1 _).trans ka2
  have r2 := (x.2.2.1 _ _ (by omega)).trans r2
  have ka3 := (x.2.1 _).trans ka3
  have hB := hB.pt x (by omega)
  have hz := x.1.trans hz
  have r3 := x.2.2.2
  refine g_aload_n k_Box_init_25 rfl rfl ?_
  refine g_iconst (v := 4) k_Box_init_26 rfl ?_
  refine co_na (t := 0) (N := 4) hz k_Box_init_27 rfl (by decide) ac_int (by decide) (by decide) (by decide) (by omega) (by omega) (fun g hz x hA hN => ?_)
  have hk := (x _ (by omega)).1.trans hk
  have ka1 := (x _ (by omega)).1.trans ka1
  have r1 := ((x _ (by omega)).2 _).trans r1
  have ka2 := (x _ (by omega)).1.trans ka2
  have r2 := ((x _ (by omega)).2 _).trans r2
  have ka3 := (x _ (by omega)).1.trans ka3
  have r3 := ((x _ (by omega)).2 _).trans r3
  have hB := hB.tr x (by omega)
  have ka4 := hA
  obtain ⟨m4, u_m4, e⟩ := o_let_ex e
  refine G.hm u_m4 ?_
  refine co_pr k_Box_init_29 fl_Box_21 rfl ⟨R_Box, F_Box, 9, rfl, Or.inr ⟨rfl, rfl, rfl⟩⟩ hk (by decide) (fun g x => ?_)
  have hk := (x.2.1 _).trans hk
  have ka1 := (x.2.1 _).trans ka1
  have r1 := (x.2.2.1 _ _ (by omega)).trans r1
  have ka2 := (x.2.1 _).trans ka2
  have r2 := (x.2.2.1 _ _ (by omega)).trans r2
  have ka3 := (x.2.1 _).trans ka3
  have r3 := (x.2.2.1 _ _ (by omega)).trans r3
  have ka4 := (x.2.1 _).trans ka4
  have hB := hB.pt x (by omega)
  have hz := x.1.trans hz
  have r4 := x.2.2.2
  refine g_aload_n k_Box_init_32 rfl rfl ?_
  refine g_iconst (v := 4) k_Box_init_33 rfl ?_
  refine co_na (t := 0) (N := 4) hz k_Box_init_34 rfl (by decide) ac_int (by decide) (by decide) (by decide) (by omega) (by omega) (fun g hz x hA hN => ?_)
  have hk := (x _ (by omega)).1.trans hk
  have ka1 := (x _ (by omega)).1.trans ka1
  have r1 := ((x _ (by omega)).2 _).trans r1
  have ka2 := (x _ (by omega)).1.trans ka2
  have r2 := ((x _ (by omega)).2 _).trans r2
  have ka3 := (x _ (by omega)).1.trans ka3
  have r3 := ((x _ (by omega)).2 _).trans r3
  have ka4 := (x _ (by omega)).1.trans ka4
  have r4 := ((x _ (by omega)).2 _).trans r4
  have hB := hB.tr x (by omega)
  have ka5 := hA
  obtain ⟨m5, u_m5, e⟩ := o_let_ex e
  refine G.hm u_m5 ?_
  refine co_pr k_Box_init_36 fl_Box_24 rfl ⟨R_Box, F_Box, 9, rfl, Or.inr ⟨rfl, rfl, rfl⟩⟩ hk (by decide) (fun g x => ?_)
  have hk := (x.2.1 _).trans hk
  have ka1 := (x.2.1 _).trans ka1
  have r1 := (x.2.2.1 _ _ (by omega)).trans r1
  have ka2 := (x.2.1 _).trans ka2
  have r2 := (x.2.2.1 _ _ (by omega)).trans r2
  have ka3 := (x.2.1 _).trans ka3
  have r3 := (x.2.2.1 _ _ (by omega)).trans r3
  have ka4 := (x.2.1 _).trans ka4
  have r4 := (x.2.2.1 _ _ (by omega)).trans r4
  have ka5 := (x.2.1 _).trans ka5
  have hB := hB.pt x (by omega)
  have hz := x.1.trans hz
  have r5 := x.2.2.2
  refine g_aload_n k_Box_init_39 rfl rfl ?_
  refine g_iconst (v := 4) k_Box_init_40 rfl ?_
  refine co_na (t := 0) (N := 4) hz k_Box_init_41 rfl (by decide) ac_int (by decide) (by decide) (by decide) (by omega) (by omega) (fun g hz x hA hN => ?_)
  have hk := (x _ (by omega)).1.trans hk
  have ka1 := (x _ (by omega)).1.trans ka1
  have r1 := ((x _ (by omega)).2 _).trans r1
  have ka2 := (x _ (by omega)).1.trans ka2
  have r2 := ((x _ (by omega)).2 _).trans r2
  have ka3 := (x _ (by omega)).1.trans ka3
  have r3 := ((x _ (by omega)).2 _).trans r3
  have ka4 := (x _ (by omega)).1.trans ka4
  have r4 := ((x _ (by omega)).2 _).trans r4
  have ka5 := (x _ (by omega)).1.trans ka5
  have r5 := ((x _ (by omega)).2 _).trans r5
  have hB := hB.tr x (by omega)
  have ka6 := hA
  obtain ⟨m6, u_m6, e⟩ := o_let_ex e
  refine G.hm u_m6 ?_
  refine co_pr k_Box_init_43 fl_Box_27 rfl ⟨R_Box, F_Box, 9, rfl, Or.inr ⟨rfl, rfl, rfl⟩⟩ hk (by decide) (fun g x => ?_)
  have hk := (x.2.1 _).trans hk
  have ka1 := (x.2.1 _).trans ka1
  have r1 := (x.2.2.1 _ _ (by omega)).trans r1
  have ka2 := (x.2.1 _).trans ka2
  have r2 := (x.2.2.1 _ _ (by omega)).trans r2
  have ka3 := (x.2.1 _).trans ka3
  have r3 := (x.2.2.1 _ _ (by omega)).trans r3
  have ka4 := (x.2.1 _).trans ka4
  have r4 := (x.2.2.1 _ _ (by omega)).trans r4
  have ka5 := (x.2.1 _).trans ka5
  have r5 := (x.2.2.1 _ _ (by omega)).trans r5
  have ka6 := (x.2.1 _).trans ka6
  have hB := hB.pt x (by omega)
  have hz := x.1.trans hz
  have r6 := x.2.2.2
  refine g_aload_n k_Box_init_46 rfl rfl ?_
  refine g_iconst (v := 4) k_Box_init_47 rfl ?_
  refine co_na (t := 0) (N := 4) hz k_Box_init_48 rfl (by decide) ac_int (by decide) (by decide) (by decide) (by omega) (by omega) (fun g hz x hA hN => ?_)
  have hk := (x _ (by omega)).1.trans hk
  have ka1 := (x _ (by omega)).1.trans ka1
  have r1 := ((x _ (by omega)).2 _).trans r1
  have ka2 := (x _ (by omega)).1.trans ka2
  have r2 := ((x _ (by omega)).2 _).trans r2
  have ka3 := (x _ (by omega)).1.trans ka3
  have r3 := ((x _ (by omega)).2 _).trans r3
  have ka4 := (x _ (by omega)).1.trans ka4
  have r4 := ((x _ (by omega)).2 _).trans r4
  have ka5 := (x _ (by omega)).1.trans ka5
  have r5 := ((x _ (by omega)).2 _).trans r5
  have ka6 := (x _ (by omega)).1.trans ka6
  have r6 := ((x _ (by omega)).2 _).trans r6
  have hB := hB.tr x (by omega)
  have ka7 := hA
  obtain ⟨m7, u_m7, e⟩ := o_let_ex e
  refine G.hm u_m7 ?_
  refine co_pr k_Box_init_50 fl_Box_30 rfl ⟨R_Box, F_Box, 9, rfl, Or.inr ⟨rfl, rfl, rfl⟩⟩ hk (by decide) (fun g x => ?_)
  have hk := (x.2.1 _).trans hk
  have ka1 := (x.2.1 _).trans ka1
  have r1 := (x.2.2.1 _ _ (by omega)).trans r1
  have ka2 := (x.2.1 _).trans ka2
  have r2 := (x.2.2.1 _ _ (by omega)).trans r2
  have ka3 := (x.2.1 _).trans ka3
  have r3 := (x.2.2.1 _ _ (by omega)).trans r3
  have ka4 := (x.2.1 _).trans ka4
  have r4 := (x.2.2.1 _ _ (by omega)).trans r4
  have ka5 := (x.2.1 _).trans ka5
  have r5 := (x.2.2.1 _ _ (by omega)).trans r5
  have ka6 := (x.2.1 _).trans ka6
  have r6 := (x.2.2.1 _ _ (by omega)).trans r6
  have ka7 := (x.2.1 _).trans ka7
  have hB := hB.pt x (by omega)
  have hz := x.1.trans hz
  have r7 := x.2.2.2
  refine g_aload_n k_Box_init_53 rfl rfl ?_
  refine g_aload_n k_Box_init_54 rfl rfl ?_
  refine co_pr k_Box_init_55 fl_Box_33 rfl ⟨R_Box, F_Box, 9, rfl, Or.inr ⟨rfl, rfl, rfl⟩⟩ hk (by decide) (fun g x => ?_)
  have hk := (x.2.1 _).trans hk
  have ka1 := (x.2.1 _).trans ka1
  have r1 := (x.2.2.1 _ _ (by omega)).trans r1
  have ka2 := (x.2.1 _).trans ka2
  have r2 := (x.2.2.1 _ _ (by omega)).trans r2
  have ka3 := (x.2.1 _).trans ka3
  have r3 := (x.2.2.1 _ _ (by omega)).trans r3
  have ka4 := (x.2.1 _).trans ka4
  have r4 := (x.2.2.1 _ _ (by omega)).trans r4
  have ka5 := (x.2.1 _).trans ka5
  have r5 := (x.2.2.1 _ _ (by omega)).trans r5
  have ka6 := (x.2.1 _).trans ka6
  have r6 := (x.2.2.1 _ _ (by omega)).trans r6
  have ka7 := (x.2.1 _).trans ka7
  have r7 := (x.2.2.1 _ _ (by omega)).trans r7
  have hB := hB.pt x (by omega)
  have hz := x.1.trans hz
  have r0 := x.2.2.2
  refine g_aload_n k_Box_init_58 rfl rfl ?_
  refine g_null k_Box_init_59 ?_
  refine co_pn k_Box_init_60 fl_Box_37 rfl ⟨R_Box, F_Box, 9, rfl, Or.inl rfl⟩ hk (by decide) (fun g x => ?_)
  have hk := (x.2.1 _).trans hk
  have ka1 := (x.2.1 _).trans ka1
  have r1 := (x.2.2.1 _ _ (by omega)).trans r1
  have ka2 := (x.2.1 _).trans ka2
  have r2 := (x.2.2.1 _ _ (by omega)).trans r2
  have ka3 := (x.2.1 _).trans ka3
  have r3 := (x.2.2.1 _ _ (by omega)).trans r3
  have ka4 := (x.2.1 _).trans ka4
  have r4 := (x.2.2.1 _ _ (by omega)).trans r4
  have ka5 := (x.2.1 _).trans ka5
  have r5 := (x.2.2.1 _ _ (by omega)).trans r5
  have ka6 := (x.2.1 _).trans ka6
  have r6 := (x.2.2.1 _ _ (by omega)).trans r6
  have ka7 := (x.2.1 _).trans ka7
  have r7 := (x.2.2.1 _ _ (by omega)).trans r7
  have r0 := (x.2.2.1 _ _ (by omega)).trans r0
  have hB := hB.pt x (by omega)
  have hz := x.1.trans hz
  have r8 := x.2.2.2
  have s0 : ShBox _ a0 := ⟨hk, r1, ka1, r2, ka2, r3, ka3, r4, ka4, r5, ka5, r6, ka6, r7, ka7⟩
  have hq := hq none (_, m') ⟨_, rfl, rfl, hz, hB, s0, r0, r8⟩
  refine g_vret k_Box_init_63 rfl ?_
  exact (by cases e; exact hq)
def b_Way_init_61 (a0 : Nat) (m : aM) : Option (Int32 × aM) :=
  o_let (a_st m a0 7 1) fun m1 =>
  o_let (a_st m1 a0 8 0) fun m2 =>
  some (0, m2)
theorem t_Way_init_61 {K : aK} {d bc bs : Nat} {g : aG} {Q : aQ} {r : Int32} {m' : aM} (a0 : Nat) (s0 : ShWay g a0) (m : aM) (hq : Q (.inl none) (g, m')) (e : b_Way_init_61 a0 m = some (r, m')) : G K M_Way_init d bc bs 61 [.ref a0, .double 0] [] (g, m) Q := by
  unfold b_Way_init_61 at e
  refine g_aload_n k_Way_init_61 rfl rfl ?_
  refine g_iconst (v := 1) k_Way_init_62 rfl ?_
  refine p_puti k_Way_init_63 fl_Way_37 rfl ⟨R_Way, F_Way, 9, rfl, Or.inl rfl⟩ (sk_Way s0) (by decide) ?_
  obtain ⟨m1, u_m1, e⟩ := o_let_ex e
  refine G.hm u_m1 ?_
  refine g_aload_n k_Way_init_66 rfl rfl ?_
  refine g_iconst (v := 0) k_Way_init_67 rfl ?_
  refine p_puti k_Way_init_68 fl_Way_41 rfl ⟨R_Way, F_Way, 9, rfl, Or.inl rfl⟩ (sk_Way s0) (by decide) ?_
  obtain ⟨m2, u_m2, e⟩ := o_let_ex e
  refine G.hm u_m2 ?_
  refine g_vret k_Way_init_71 rfl ?_
  exact (by cases e; exact hq)
def f_Way_init (a0 : Nat) (m : aM) : Option (Int32 × aM) :=
  o_let (a_zr m (a0 + 1)) fun m1 =>
  o_let (a_zr m1 (a0 + 2)) fun m2 =>
  o_let (a_zr m2 (a0 + 3)) fun m3 =>
  o_let (a_zr m3 (a0 + 4)) fun m4 =>
  o_let (a_zr m4 (a0 + 5)) fun m5 =>
  o_let (a_zr m5 (a0 + 6)) fun m6 =>
  b_Way_init_61 a0 m6
theorem s_Way_init {K : aK} {d bc bs : Nat} {g : aG} (a0 : Nat) (hz : g.1 = a0 + 1) (hk : g.2.1 a0 = (10 + 8, 9)) (b1 : Nat) (hp : b1 = 29) (m : aM) {m' : aM} {w0 : Int32} (e : f_Way_init a0 m = some (w0, m')) (hd : 1 ≤ d) (hc : 6 ≤ bc) (hs : 27867 ≤ bs) : SpR K M_Way_init d bc bs [.ref a0, .ref b1] (g, m) (fun v h' => ∃ g', v = none ∧ h' = (g', m') ∧ g'.1 = a0 + 7 ∧ Bl a0 g g' ∧ ShWay g' a0) := by
  subst hp
  refine spr_of ok_Way_init rfl (Nat.le_of_ble_eq_true rfl) (by simp [Value.category]) (fun Q hq => ?_)
  unfold f_Way_init at e
  have hB : Bl a0 g g := Bl.rf
  refine g_aload_n k_Way_init_0 rfl rfl ?_
  refine g_ob k_Way_init_1 ob_Way_5 (Nat.le_of_ble_eq_true rfl) (by omega) ?_
  refine g_aload_n k_Way_init_4 rfl rfl ?_
  refine g_sipush (v := 6912) k_Way_init_5 rfl ?_
  refine co_na (t := 1) (N := 6912) hz k_Way_init_8 rfl (by decide) ac_boolean (by decide) (by decide) (by decide) (by omega) (by omega) (fun g hz x hA hN => ?_)
  have hk := (x _ (by omega)).1.trans hk
  have hB := hB.tr x (by omega)
  have ka1 := hA
  obtain ⟨m1, u_m1, e⟩ := o_let_ex e
  refine G.hm u_m1 ?_
  refine co_pr k_Way_init_10 fl_Way_13 rfl ⟨R_Way, F_Way, 9, rfl, Or.inr ⟨rfl, rfl, rfl⟩⟩ hk (by decide) (fun g x => ?_)
  have hk := (x.2.1 _).trans hk
  have ka1 := (x.2.1 _).trans ka1
  have hB := hB.pt x (by omega)
  have hz := x.1.trans hz
  have r1 := x.2.2.2
  refine g_aload_n k_Way_init_13 rfl rfl ?_
  refine g_sipush (v := 6912) k_Way_init_14 rfl ?_
  refine co_na (t := 0) (N := 6912) hz k_Way_init_17 rfl (by decide) ac_int (by decide) (by decide) (by decide) (by omega) (by omega) (fun g hz x hA hN => ?_)
  have hk := (x _ (by omega)).1.trans hk
  have ka1 := (x _ (by omega)).1.trans ka1
  have r1 := ((x _ (by omega)).2 _).trans r1
  have hB := hB.tr x (by omega)
  have ka2 := hA
  obtain ⟨m2, u_m2, e⟩ := o_let_ex e
  refine G.hm u_m2 ?_
  refine co_pr k_Way_init_19 fl_Way_17 rfl ⟨R_Way, F_Way, 9, rfl, Or.inr ⟨rfl, rfl, rfl⟩⟩ hk (by decide) (fun g x => ?_)
  have hk := (x.2.1 _).trans hk
  have ka1 := (x.2.1 _).trans ka1
  have r1 := (x.2.2.1 _ _ (by omega)).trans r1
  have ka2 := (x.2.1 _).trans ka2
  have hB := hB.pt x (by omega)
  have hz := x.1.trans hz
  have r2 := x.2.2.2
  refine g_aload_n k_Way_init_22 rfl rfl ?_
  refine g_sipush (v := 6912) k_Way_init_23 rfl ?_
  refine co_na (t := 0) (N := 6912) hz k_Way_init_26 rfl (by decide) ac_int (by decide) (by decide) (by decide) (by omega) (by omega) (fun g hz x hA hN => ?_)
  have hk := (x _ (by omega)).1.trans hk
  have ka1 := (x _ (by omega)).1.trans ka1
  have r1 := ((x _ (by omega)).2 _).trans r1
  have ka2 := (x _ (by omega)).1.trans ka2
  have r2 := ((x _ (by omega)).2 _).trans r2
  have hB := hB.tr x (by omega)
  have ka3 := hA
  obtain ⟨m3, u_m3, e⟩ := o_let_ex e
  refine G.hm u_m3 ?_
  refine co_pr k_Way_init_28 fl_Way_21 rfl ⟨R_Way, F_Way, 9, rfl, Or.inr ⟨rfl, rfl, rfl⟩⟩ hk (by decide) (fun g x => ?_)
  have hk := (x.2.1 _).trans hk
  have ka1 := (x.2.1 _).trans ka1
  have r1 := (x.2.2.1 _ _ (by omega)).trans r1
  have ka2 := (x.2.1 _).trans ka2
  have r2 := (x.2.2.1 _ _ (by omega)).trans r2
  have ka3 := (x.2.1 _).trans ka3
  have hB := hB.pt x (by omega)
  have hz := x.1.trans hz
  have r3 := x.2.2.2
  refine g_aload_n k_Way_init_31 rfl rfl ?_
  refine g_sipush (v := 6912) k_Way_init_32 rfl ?_
  refine co_na (t := 1) (N := 6912) hz k_Way_init_35 rfl (by decide) ac_boolean (by decide) (by decide) (by decide) (by omega) (by omega) (fun g hz x hA hN => ?_)
  have hk := (x _ (by omega)).1.trans hk
  have ka1 := (x _ (by omega)).1.trans ka1
  have r1 := ((x _ (by omega)).2 _).trans r1
  have ka2 := (x _ (by omega)).1.trans ka2
  have r2 := ((x _ (by omega)).2 _).trans r2
  have ka3 := (x _ (by omega)).1.trans ka3
  have r3 := ((x _ (by omega)).2 _).trans r3
  have hB := hB.tr x (by omega)
  have ka4 := hA
  obtain ⟨m4, u_m4, e⟩ := o_let_ex e
  refine G.hm u_m4 ?_
  refine co_pr k_Way_init_37 fl_Way_24 rfl ⟨R_Way, F_Way, 9, rfl, Or.inr ⟨rfl, rfl, rfl⟩⟩ hk (by decide) (fun g x => ?_)
  have hk := (x.2.1 _).trans hk
  have ka1 := (x.2.1 _).trans ka1
  have r1 := (x.2.2.1 _ _ (by omega)).trans r1
  have ka2 := (x.2.1 _).trans ka2
  have r2 := (x.2.2.1 _ _ (by omega)).trans r2
  have ka3 := (x.2.1 _).trans ka3
  have r3 := (x.2.2.1 _ _ (by omega)).trans r3
  have ka4 := (x.2.1 _).trans ka4
  have hB := hB.pt x (by omega)
  have hz := x.1.trans hz
  have r4 := x.2.2.2
  refine g_aload_n k_Way_init_40 rfl rfl ?_
  refine g_sipush (v := 216) k_Way_init_41 rfl ?_
  refine co_na (t := 1) (N := 216) hz k_Way_init_44 rfl (by decide) ac_boolean (by decide) (by decide) (by decide) (by omega) (by omega) (fun g hz x hA hN => ?_)
  have hk := (x _ (by omega)).1.trans hk
  have ka1 := (x _ (by omega)).1.trans ka1
  have r1 := ((x _ (by omega)).2 _).trans r1
  have ka2 := (x _ (by omega)).1.trans ka2
  have r2 := ((x _ (by omega)).2 _).trans r2
  have ka3 := (x _ (by omega)).1.trans ka3
  have r3 := ((x _ (by omega)).2 _).trans r3
  have ka4 := (x _ (by omega)).1.trans ka4
  have r4 := ((x _ (by omega)).2 _).trans r4
  have hB := hB.tr x (by omega)
  have ka5 := hA
  obtain ⟨m5, u_m5, e⟩ := o_let_ex e
  refine G.hm u_m5 ?_
  refine co_pr k_Way_init_46 fl_Way_27 rfl ⟨R_Way, F_Way, 9, rfl, Or.inr ⟨rfl, rfl, rfl⟩⟩ hk (by decide) (fun g x => ?_)
  have hk := (x.2.1 _).trans hk
  have ka1 := (x.2.1 _).trans ka1
  have r1 := (x.2.2.1 _ _ (by omega)).trans r1
  have ka2 := (x.2.1 _).trans ka2
  have r2 := (x.2.2.1 _ _ (by omega)).trans r2
  have ka3 := (x.2.1 _).trans ka3
  have r3 := (x.2.2.1 _ _ (by omega)).trans r3
  have ka4 := (x.2.1 _).trans ka4
  have r4 := (x.2.2.1 _ _ (by omega)).trans r4
  have ka5 := (x.2.1 _).trans ka5
  have hB := hB.pt x (by omega)
  have hz := x.1.trans hz
  have r5 := x.2.2.2
  refine g_aload_n k_Way_init_49 rfl rfl ?_
  refine g_iconst (v := 3) k_Way_init_50 rfl ?_
  refine co_na (t := 0) (N := 3) hz k_Way_init_51 rfl (by decide) ac_int (by decide) (by decide) (by decide) (by omega) (by omega) (fun g hz x hA hN => ?_)
  have hk := (x _ (by omega)).1.trans hk
  have ka1 := (x _ (by omega)).1.trans ka1
  have r1 := ((x _ (by omega)).2 _).trans r1
  have ka2 := (x _ (by omega)).1.trans ka2
  have r2 := ((x _ (by omega)).2 _).trans r2
  have ka3 := (x _ (by omega)).1.trans ka3
  have r3 := ((x _ (by omega)).2 _).trans r3
  have ka4 := (x _ (by omega)).1.trans ka4
  have r4 := ((x _ (by omega)).2 _).trans r4
  have ka5 := (x _ (by omega)).1.trans ka5
  have r5 := ((x _ (by omega)).2 _).trans r5
  have hB := hB.tr x (by omega)
  have ka6 := hA
  obtain ⟨m6, u_m6, e⟩ := o_let_ex e
  refine G.hm u_m6 ?_
  refine co_pr k_Way_init_53 fl_Way_30 rfl ⟨R_Way, F_Way, 9, rfl, Or.inr ⟨rfl, rfl, rfl⟩⟩ hk (by decide) (fun g x => ?_)
  have hk := (x.2.1 _).trans hk
  have ka1 := (x.2.1 _).trans ka1
  have r1 := (x.2.2.1 _ _ (by omega)).trans r1
  have ka2 := (x.2.1 _).trans ka2
  have r2 := (x.2.2.1 _ _ (by omega)).trans r2
  have ka3 := (x.2.1 _).trans ka3
  have r3 := (x.2.2.1 _ _ (by omega)).trans r3
  have ka4 := (x.2.1 _).trans ka4
  have r4 := (x.2.2.1 _ _ (by omega)).trans r4
  have ka5 := (x.2.1 _).trans ka5
  have r5 := (x.2.2.1 _ _ (by omega)).trans r5
  have ka6 := (x.2.1 _).trans ka6
  have hB := hB.pt x (by omega)
  have hz := x.1.trans hz
  have r6 := x.2.2.2
  refine g_aload_n k_Way_init_56 rfl rfl ?_
  refine g_aload_n k_Way_init_57 rfl rfl ?_
  refine co_pr k_Way_init_58 fl_Way_33 rfl ⟨R_Way, F_Way, 9, rfl, Or.inr ⟨rfl, rfl, rfl⟩⟩ hk (by decide) (fun g x => ?_)
  have hk := (x.2.1 _).trans hk
  have ka1 := (x.2.1 _).trans ka1
  have r1 := (x.2.2.1 _ _ (by omega)).trans r1
  have ka2 := (x.2.1 _).trans ka2
  have r2 := (x.2.2.1 _ _ (by omega)).trans r2
  have ka3 := (x.2.1 _).trans ka3
  have r3 := (x.2.2.1 _ _ (by omega)).trans r3
  have ka4 := (x.2.1 _).trans ka4
  have r4 := (x.2.2.1 _ _ (by omega)).trans r4
  have ka5 := (x.2.1 _).trans ka5
  have r5 := (x.2.2.1 _ _ (by omega)).trans r5
  have ka6 := (x.2.1 _).trans ka6
  have r6 := (x.2.2.1 _ _ (by omega)).trans r6
  have hB := hB.pt x (by omega)
  have hz := x.1.trans hz
  have r0 := x.2.2.2
  have s0 : ShWay _ a0 := ⟨hk, r1, ka1, r2, ka2, r3, ka3, r4, ka4, r5, ka5, r6, ka6, r0⟩
  have hq := hq none (_, m') ⟨_, rfl, rfl, hz, hB, s0⟩
  exact G.wl (wls (wld wl0)) (t_Way_init_61 a0 s0 m6 hq e)
def f_Rea_init (a0 : Nat) (m : aM) : Option (Int32 × aM) :=
  some ((0 : Int32), m)
theorem s_Rea_init {K : aK} {d bc bs : Nat} {g : aG} (a0 : Nat) (hz : g.1 = a0 + 1) (hk : g.2.1 a0 = (10 + 5, 8)) (b1 : Nat) (b2 : Nat) (m : aM) {m' : aM} {w0 : Int32} (e : f_Rea_init a0 m = some (w0, m')) (hd : 1 ≤ d) (hc : 0 ≤ bc) (hs : 0 ≤ bs) : SpR K M_Rea_init d bc bs [.ref a0, .ref b1, .ref b2] (g, m) (fun v h' => ∃ g', v = none ∧ h' = (g', m') ∧ g'.1 = a0 + 1 ∧ Bl a0 g g' ∧ g'.2.1 a0 = (10 + 5, 8) ∧ g'.2.2.1 a0 0 = some b1 ∧ g'.2.2.1 a0 5 = some b2) := by
  refine spr_of ok_Rea_init rfl (Nat.le_of_ble_eq_true rfl) (by simp [Value.category]) (fun Q hq => ?_)
  unfold f_Rea_init at e
  have hB : Bl a0 g g := Bl.rf
  refine g_aload_n k_Rea_init_0 rfl rfl ?_
  refine g_ob k_Rea_init_1 ob_Rea_3 (Nat.le_of_ble_eq_true rfl) (by omega) ?_
  refine g_aload_n k_Rea_init_4 rfl rfl ?_
  refine g_aload_n k_Rea_init_5 rfl rfl ?_
  refine co_pr k_Rea_init_6 fl_Rea_9 rfl ⟨R_Rea, F_Rea, 8, rfl, Or.inr ⟨rfl, rfl, rfl⟩⟩ hk (by decide) (fun g x => ?_)
  have hk := (x.2.1 _).trans hk
  have hB := hB.pt x (by omega)
  have hz := x.1.trans hz
  have r0 := x.2.2.2
  refine g_aload_n k_Rea_init_9 rfl rfl ?_
  refine g_aload_n k_Rea_init_10 rfl rfl ?_
  refine co_pr k_Rea_init_11 fl_Rea_15 rfl ⟨R_Rea, F_Rea, 8, rfl, Or.inr ⟨rfl, rfl, rfl⟩⟩ hk (by decide) (fun g x => ?_)
  have hk := (x.2.1 _).trans hk
  have r0 := (x.2.2.1 _ _ (by omega)).trans r0
  have hB := hB.pt x (by omega)
  have hz := x.1.trans hz
  have r5 := x.2.2.2
  have hq := hq none (_, m') ⟨_, rfl, rfl, hz, hB, hk, r0, r5⟩
  refine g_vret k_Rea_init_14 rfl ?_
  exact (by cases e; exact hq)
