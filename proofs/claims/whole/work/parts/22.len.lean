/-! Lens -/
def n_add (m : aM) (a u : Nat) (q x : Int32) : aM := a_st (a_st (a_st m (a + 1) u q) (a + 2) u x) a 2 (nI (u + 1))
theorem s_Len_addOrder {K : aK} {d bc bs : Nat} {g : aG} {m : aM} {a : Nat} (s : ShLen g a) (q : Int32) (x : Int32) {u : Nat} (hu : m a 2 = nI u) (h4 : u < 400) : Sp K M_Len_addOrder d bc bs [.ref a, .int q, .int x] (g, m) (some (.int (nI u))) (g, n_add m a u q x) := by
  refine sp_of ok_Len_addOrder rfl (Nat.le_of_ble_eq_true rfl) (by simp [Value.category]) (fun Q hq => ?_)
  refine g_aload_n k_Len_addOrder_0 rfl rfl ?_
  refine p_geti k_Len_addOrder_1 fl_Len_41 rfl (sk_Len s) (by decide) ?_
  refine g_sipush (v := 400) k_Len_addOrder_4 rfl ?_
  refine g_icmp_lt (tgt := 12) k_Len_addOrder_7 (by decide) (fun c_7 => ?_) (fun c_7 => ?_)
  · refine g_aload_n k_Len_addOrder_12 rfl rfl ?_
    refine p_getr k_Len_addOrder_13 fl_Len_11 rfl (sk_Len s) (by decide) (sr_Len_0 s) ?_
    refine g_aload_n k_Len_addOrder_16 rfl rfl ?_
    refine p_geti k_Len_addOrder_17 fl_Len_41 rfl (sk_Len s) (by decide) ?_
    refine g_iload_n k_Len_addOrder_20 rfl rfl ?_
    refine p_iast k_Len_addOrder_21 (sa_Len_0 s) (by rw [hu]; exact vp_in_nI h4 (by decide)) (j := u) (by rw [hu]; exact nI_clamp (by omega)) ?_
    refine g_aload_n k_Len_addOrder_22 rfl rfl ?_
    refine p_getr k_Len_addOrder_23 fl_Len_15 rfl (sk_Len s) (by decide) (sr_Len_1 s) ?_
    refine g_aload_n k_Len_addOrder_26 rfl rfl ?_
    refine p_geti k_Len_addOrder_27 fl_Len_41 rfl (sk_Len s) (by decide) ?_
    refine g_iload_n k_Len_addOrder_30 rfl rfl ?_
    refine p_iast k_Len_addOrder_31 (sa_Len_1 s) (by rw [a_st_no (by omega), hu]; exact vp_in_nI h4 (by decide)) (j := u) (by rw [a_st_no (by omega), hu]; exact nI_clamp (by omega)) ?_
    refine g_aload_n k_Len_addOrder_32 rfl rfl ?_
    refine g_dup k_Len_addOrder_33 rfl ?_
    refine p_geti k_Len_addOrder_34 fl_Len_41 rfl (sk_Len s) (by decide) ?_
    refine g_iconst (v := 1) k_Len_addOrder_37 rfl ?_
    refine g_iadd k_Len_addOrder_38 ?_
    refine G.v (y := nI (u + 1)) (by rw [a_st_no (by omega), a_st_no (by omega), hu]; exact (nI_succ u).symm) ?_
    refine p_puti k_Len_addOrder_39 fl_Len_41 rfl ⟨R_Len, F_Len, 11, rfl, Or.inl rfl⟩ (sk_Len s) (by decide) ?_
    refine g_aload_n k_Len_addOrder_42 rfl rfl ?_
    refine p_geti k_Len_addOrder_43 fl_Len_41 rfl (sk_Len s) (by decide) ?_
    refine g_iconst (v := 1) k_Len_addOrder_46 rfl ?_
    refine g_isub k_Len_addOrder_47 ?_
    refine G.v (y := nI u) (by rw [a_st_self]; exact nI_pred u) ?_
    refine g_iret k_Len_addOrder_48 rfl ?_
    exact hq
  · exact absurd (by rw [hu]; exact nI_lt h4 (by decide)) c_7
theorem s_Len_here {K : aK} {d bc bs : Nat} {g : aG} {m : aM} {a : Nat} (s : ShLen g a) : Sp K M_Len_here d bc bs [.ref a] (g, m) (some (.int (m a 2))) (g, m) := by
  refine sp_of ok_Len_here rfl (Nat.le_of_ble_eq_true rfl) (by simp [Value.category]) (fun Q hq => ?_)
  refine g_aload_n k_Len_here_0 rfl rfl ?_
  refine p_geti k_Len_here_1 fl_Len_41 rfl (sk_Len s) (by decide) ?_
  refine g_iret k_Len_here_4 rfl ?_
  exact hq
def n_jump (m : aM) (a : Nat) (j : Int32) : aM := if j < 0 then m else if m a 2 ≤ j then m else a_st m (a + 2) j.toNatClampNeg (m a 2)
theorem s_Len_jumpHere {K : aK} {d bc bs : Nat} {g : aG} {m : aM} {a : Nat} (s : ShLen g a) (j : Int32) {u : Nat} (hu : m a 2 = nI u) (h4 : u ≤ 400) : Sp K M_Len_jumpHere d bc bs [.ref a, .int j] (g, m) none (g, n_jump m a j) := by
  refine sp_of ok_Len_jumpHere rfl (Nat.le_of_ble_eq_true rfl) (by simp [Value.category]) (fun Q hq => ?_)
  unfold n_jump at hq
  refine g_iload_n k_Len_jumpHere_0 rfl rfl ?_
  refine g_if_lt (tgt := 22) k_Len_jumpHere_1 (by decide) (fun c_1 => ?_) (fun c_1 => ?_)
  · refine g_vret k_Len_jumpHere_22 rfl ?_
    simpa only [if_pos c_1] using hq
  · refine g_iload_n k_Len_jumpHere_4 rfl rfl ?_
    refine g_aload_n k_Len_jumpHere_5 rfl rfl ?_
    refine p_geti k_Len_jumpHere_6 fl_Len_41 rfl (sk_Len s) (by decide) ?_
    refine g_icmp_ge (tgt := 22) k_Len_jumpHere_9 (by decide) (fun c_9 => ?_) (fun c_9 => ?_)
    · refine g_vret k_Len_jumpHere_22 rfl ?_
      simpa only [if_neg c_1, if_pos c_9] using hq
    · refine g_aload_n k_Len_jumpHere_12 rfl rfl ?_
      refine p_getr k_Len_jumpHere_13 fl_Len_15 rfl (sk_Len s) (by decide) (sr_Len_1 s) ?_
      refine g_iload_n k_Len_jumpHere_16 rfl rfl ?_
      refine g_aload_n k_Len_jumpHere_17 rfl rfl ?_
      refine p_geti k_Len_jumpHere_18 fl_Len_41 rfl (sk_Len s) (by decide) ?_
      refine p_iast k_Len_jumpHere_21 (sa_Len_1 s) (by rw [hu] at c_9; exact in_of c_1 (fun q => c_9 (by rw [i_le] at q ⊢; rw [nI_toInt (by omega)] at q ⊢; omega)) (by decide)) rfl ?_
      refine g_vret k_Len_jumpHere_22 rfl ?_
      simpa only [if_neg c_1, if_neg c_9] using hq
def n_endL (m : aM) (a : Nat) (l st : Int32) : aM := if l < 0 then m else if 8 ≤ l then m else a_st (a_st m (a + 3) l.toNatClampNeg st) (a + 4) l.toNatClampNeg (m a 2)
theorem s_Len_endLetter {K : aK} {d bc bs : Nat} {g : aG} {m : aM} {a : Nat} (s : ShLen g a) (l : Int32) (st : Int32) : Sp K M_Len_endLetter d bc bs [.ref a, .int l, .int st] (g, m) none (g, n_endL m a l st) := by
  refine sp_of ok_Len_endLetter rfl (Nat.le_of_ble_eq_true rfl) (by simp [Value.category]) (fun Q hq => ?_)
  unfold n_endL at hq
  refine g_iload_n k_Len_endLetter_0 rfl rfl ?_
  refine g_if_lt (tgt := 27) k_Len_endLetter_1 (by decide) (fun c_1 => ?_) (fun c_1 => ?_)
  · refine g_vret k_Len_endLetter_27 rfl ?_
    simpa only [if_pos c_1] using hq
  · refine g_iload_n k_Len_endLetter_4 rfl rfl ?_
    refine g_bipush (v := 8) k_Len_endLetter_5 rfl ?_
    refine g_icmp_ge (tgt := 27) k_Len_endLetter_7 (by decide) (fun c_7 => ?_) (fun c_7 => ?_)
    · refine g_vret k_Len_endLetter_27 rfl ?_
      simpa only [if_neg c_1, if_pos c_7] using hq
    · refine g_aload_n k_Len_endLetter_10 rfl rfl ?_
      refine p_getr k_Len_endLetter_11 fl_Len_18 rfl (sk_Len s) (by decide) (sr_Len_3 s) ?_
      refine g_iload_n k_Len_endLetter_14 rfl rfl ?_
      refine g_iload_n k_Len_endLetter_15 rfl rfl ?_
      refine p_iast k_Len_endLetter_16 (sa_Len_3 s) (in_of c_1 c_7 (by decide)) rfl ?_
      refine g_aload_n k_Len_endLetter_17 rfl rfl ?_
      refine p_getr k_Len_endLetter_18 fl_Len_21 rfl (sk_Len s) (by decide) (sr_Len_4 s) ?_
      refine g_iload_n k_Len_endLetter_21 rfl rfl ?_
      refine g_aload_n k_Len_endLetter_22 rfl rfl ?_
      refine p_geti k_Len_endLetter_23 fl_Len_41 rfl (sk_Len s) (by decide) ?_
      refine G.v (y := m a 2) (a_st_no (by omega)) ?_
      refine p_iast k_Len_endLetter_26 (sa_Len_4 s) (in_of c_1 c_7 (by decide)) rfl ?_
      refine g_vret k_Len_endLetter_27 rfl ?_
      simpa only [if_neg c_1, if_neg c_7] using hq
def n_endW (m : aM) (a w : Nat) (st : Int32) : aM := if w < 16 then a_st (a_st (a_st m (a + 5) w st) (a + 6) w (m a 2)) a 7 (nI (w + 1)) else m
theorem s_Len_endLaw {K : aK} {d bc bs : Nat} {g : aG} {m : aM} {a : Nat} (s : ShLen g a) (st : Int32) {w : Nat} (hw : m a 7 = nI w) (h6 : w < 16) : Sp K M_Len_endLaw d bc bs [.ref a, .int st] (g, m) none (g, n_endW m a w st) := by
  refine sp_of ok_Len_endLaw rfl (Nat.le_of_ble_eq_true rfl) (by simp [Value.category]) (fun Q hq => ?_)
  unfold n_endW at hq
  refine g_aload_n k_Len_endLaw_0 rfl rfl ?_
  refine p_geti k_Len_endLaw_1 fl_Len_45 rfl (sk_Len s) (by decide) ?_
  refine g_bipush (v := 16) k_Len_endLaw_4 rfl ?_
  refine g_icmp_ge (tgt := 42) k_Len_endLaw_6 (by decide) (fun c_6 => ?_) (fun c_6 => ?_)
  · exact absurd c_6 (by rw [hw]; exact nI_ge h6 (by decide))
  · refine g_aload_n k_Len_endLaw_9 rfl rfl ?_
    refine p_getr k_Len_endLaw_10 fl_Len_24 rfl (sk_Len s) (by decide) (sr_Len_5 s) ?_
    refine g_aload_n k_Len_endLaw_13 rfl rfl ?_
    refine p_geti k_Len_endLaw_14 fl_Len_45 rfl (sk_Len s) (by decide) ?_
    refine g_iload_n k_Len_endLaw_17 rfl rfl ?_
    refine p_iast k_Len_endLaw_18 (sa_Len_5 s) (by rw [hw]; exact vp_in_nI h6 (by decide)) (j := w) (by rw [hw]; exact nI_clamp (by omega)) ?_
    refine g_aload_n k_Len_endLaw_19 rfl rfl ?_
    refine p_getr k_Len_endLaw_20 fl_Len_27 rfl (sk_Len s) (by decide) (sr_Len_6 s) ?_
    refine g_aload_n k_Len_endLaw_23 rfl rfl ?_
    refine p_geti k_Len_endLaw_24 fl_Len_45 rfl (sk_Len s) (by decide) ?_
    refine g_aload_n k_Len_endLaw_27 rfl rfl ?_
    refine p_geti k_Len_endLaw_28 fl_Len_41 rfl (sk_Len s) (by decide) ?_
    refine G.v (y := m a 2) (a_st_no (by omega)) ?_
    refine p_iast k_Len_endLaw_31 (sa_Len_6 s) (by rw [a_st_no (by omega), hw]; exact vp_in_nI h6 (by decide)) (j := w) (by rw [a_st_no (by omega), hw]; exact nI_clamp (by omega)) ?_
    refine g_aload_n k_Len_endLaw_32 rfl rfl ?_
    refine g_dup k_Len_endLaw_33 rfl ?_
    refine p_geti k_Len_endLaw_34 fl_Len_45 rfl (sk_Len s) (by decide) ?_
    refine g_iconst (v := 1) k_Len_endLaw_37 rfl ?_
    refine g_iadd k_Len_endLaw_38 ?_
    refine G.v (y := nI (w + 1)) (by rw [a_st_no (by omega), a_st_no (by omega), hw]; exact (nI_succ w).symm) ?_
    refine p_puti k_Len_endLaw_39 fl_Len_45 rfl ⟨R_Len, F_Len, 11, rfl, Or.inl rfl⟩ (sk_Len s) (by decide) ?_
    refine g_vret k_Len_endLaw_42 rfl ?_
    simpa only [if_pos h6] using hq
def n_keep (m : aM) (a : Nat) (l : Int32) : aM := if l < 0 then m else if 4 ≤ l then m else a_st m (a + 7) l.toNatClampNeg 1
def n_kept (m : aM) (a : Nat) (l : Int32) : Int32 := if l < 0 then 0 else if 4 ≤ l then 0 else if m (a + 7) l.toNatClampNeg = 0 then 0 else 1
theorem s_Len_keepLetter {K : aK} {d bc bs : Nat} {g : aG} {m : aM} {a : Nat} (s : ShLen g a) (l : Int32) : Sp K M_Len_keepLetter d bc bs [.ref a, .int l] (g, m) none (g, n_keep m a l) := by
  refine sp_of ok_Len_keepLetter rfl (Nat.le_of_ble_eq_true rfl) (by simp [Value.category]) (fun Q hq => ?_)
  unfold n_keep at hq
  refine g_iload_n k_Len_keepLetter_0 rfl rfl ?_
  refine g_if_lt (tgt := 16) k_Len_keepLetter_1 (by decide) (fun c_1 => ?_) (fun c_1 => ?_)
  · refine g_vret k_Len_keepLetter_16 rfl ?_
    simpa only [if_pos c_1] using hq
  · refine g_iload_n k_Len_keepLetter_4 rfl rfl ?_
    refine g_iconst (v := 4) k_Len_keepLetter_5 rfl ?_
    refine g_icmp_ge (tgt := 16) k_Len_keepLetter_6 (by decide) (fun c_6 => ?_) (fun c_6 => ?_)
    · refine g_vret k_Len_keepLetter_16 rfl ?_
      simpa only [if_neg c_1, if_pos c_6] using hq
    · refine g_aload_n k_Len_keepLetter_9 rfl rfl ?_
      refine p_getr k_Len_keepLetter_10 fl_Len_30 rfl (sk_Len s) (by decide) (sr_Len_8 s) ?_
      refine g_iload_n k_Len_keepLetter_13 rfl rfl ?_
      refine g_iconst (v := 1) k_Len_keepLetter_14 rfl ?_
      refine p_zast k_Len_keepLetter_15 (sa_Len_8 s) (in_of c_1 c_6 (by decide)) rfl (by simp) ?_
      refine g_vret k_Len_keepLetter_16 rfl ?_
      simpa only [if_neg c_1, if_neg c_6] using hq
theorem s_Len_isKept {K : aK} {d bc bs : Nat} {g : aG} {m : aM} {a : Nat} (s : ShLen g a) (l : Int32) : Sp K M_Len_isKept d bc bs [.ref a, .int l] (g, m) (some (.int (n_kept m a l))) (g, m) := by
  refine sp_of ok_Len_isKept rfl (Nat.le_of_ble_eq_true rfl) (by simp [Value.category]) (fun Q hq => ?_)
  unfold n_kept at hq
  refine g_iload_n k_Len_isKept_0 rfl rfl ?_
  refine g_if_lt (tgt := 22) k_Len_isKept_1 (by decide) (fun c_1 => ?_) (fun c_1 => ?_)
  · refine g_iconst (v := 0) k_Len_isKept_22 rfl ?_
    refine g_zret k_Len_isKept_23 rfl (by simp) ?_
    simpa only [if_pos c_1] using hq
  · refine g_iload_n k_Len_isKept_4 rfl rfl ?_
    refine g_iconst (v := 4) k_Len_isKept_5 rfl ?_
    refine g_icmp_ge (tgt := 22) k_Len_isKept_6 (by decide) (fun c_6 => ?_) (fun c_6 => ?_)
    · refine g_iconst (v := 0) k_Len_isKept_22 rfl ?_
      refine g_zret k_Len_isKept_23 rfl (by simp) ?_
      simpa only [if_neg c_1, if_pos c_6] using hq
    · refine g_aload_n k_Len_isKept_9 rfl rfl ?_
      refine p_getr k_Len_isKept_10 fl_Len_30 rfl (sk_Len s) (by decide) (sr_Len_8 s) ?_
      refine g_iload_n k_Len_isKept_13 rfl rfl ?_
      refine p_zald k_Len_isKept_14 (sa_Len_8 s) (in_of c_1 c_6 (by decide)) rfl ?_
      refine g_if_eq (tgt := 22) k_Len_isKept_15 (by decide) (fun c_15 => ?_) (fun c_15 => ?_)
      · refine g_iconst (v := 0) k_Len_isKept_22 rfl ?_
        refine g_zret k_Len_isKept_23 rfl (by simp) ?_
        simpa only [if_neg c_1, if_neg c_6, if_pos c_15] using hq
      · refine g_iconst (v := 1) k_Len_isKept_18 rfl ?_
        refine g_goto (tgt := 23) k_Len_isKept_19 (by decide) ?_
        refine g_zret k_Len_isKept_23 rfl (by simp) ?_
        simpa only [if_neg c_1, if_neg c_6, if_neg c_15] using hq
def w_at (x : Int32) (f : Nat → Int32) : Int32 := if x < 0 then 0 else if 4 ≤ x then 0 else f x.toNatClampNeg
def w_val (q x : Int32) (ol fr : Nat → Int32) : Int32 := if q = 0 then x else if q = 1 then w_at x ol else w_at x fr
theorem s_Len_valueOf {K : aK} {d bc bs : Nat} {g : aG} {m : aM} {po pf : Nat} (ho : g.2.1 po = (0, 4)) (hf : g.2.1 pf = (0, 4)) (q x : Int32) : Sp K M_Len_valueOf d bc bs [.int q, .int x, .ref po, .ref pf] (g, m) (some (.int (w_val q x (m po) (m pf)))) (g, m) := by
  refine sp_of ok_Len_valueOf rfl (Nat.le_of_ble_eq_true rfl) (by simp [Value.category]) (fun Q hq => ?_)
  unfold w_val w_at at hq
  refine g_iload_n k_Len_valueOf_0 rfl rfl ?_
  refine g_if_ne (tgt := 6) k_Len_valueOf_1 (by decide) (fun c_1 => ?_) (fun c_1 => ?_)
  · refine g_iload_n k_Len_valueOf_4 rfl rfl ?_
    refine g_iret k_Len_valueOf_5 rfl ?_
    simpa only [if_pos c_1] using hq
  · refine g_iload_n k_Len_valueOf_6 rfl rfl ?_
    refine g_iconst (v := 1) k_Len_valueOf_7 rfl ?_
    refine g_icmp_ne (tgt := 15) k_Len_valueOf_8 (by decide) (fun c_8 => ?_) (fun c_8 => ?_)
    · refine g_aload_n k_Len_valueOf_11 rfl rfl ?_
      refine g_goto (tgt := 16) k_Len_valueOf_12 (by decide) ?_
      refine g_astore k_Len_valueOf_16 (by decide) ?_
      refine g_iload_n k_Len_valueOf_18 rfl rfl ?_
      refine g_if_lt (tgt := 36) k_Len_valueOf_19 (by decide) (fun c_19 => ?_) (fun c_19 => ?_)
      · refine g_iconst (v := 0) k_Len_valueOf_36 rfl ?_
        refine g_iret k_Len_valueOf_37 rfl ?_
        simpa only [if_neg c_1, if_pos c_8, if_pos c_19] using hq
      · refine g_iload_n k_Len_valueOf_22 rfl rfl ?_
        refine g_aload k_Len_valueOf_23 rfl ?_
        refine p_alen (v := 4) k_Len_valueOf_25 ho (by decide) rfl ?_
        refine g_icmp_ge (tgt := 36) k_Len_valueOf_26 (by decide) (fun c_26 => ?_) (fun c_26 => ?_)
        · refine g_iconst (v := 0) k_Len_valueOf_36 rfl ?_
          refine g_iret k_Len_valueOf_37 rfl ?_
          simpa only [if_neg c_1, if_pos c_8, if_neg c_19, if_pos c_26] using hq
        · refine g_aload k_Len_valueOf_29 rfl ?_
          refine g_iload_n k_Len_valueOf_31 rfl rfl ?_
          refine p_iald k_Len_valueOf_32 ho (in_of c_19 c_26 (by decide)) rfl ?_
          refine g_goto (tgt := 37) k_Len_valueOf_33 (by decide) ?_
          refine g_iret k_Len_valueOf_37 rfl ?_
          simpa only [if_neg c_1, if_pos c_8, if_neg c_19, if_neg c_26] using hq
    · refine g_aload_n k_Len_valueOf_15 rfl rfl ?_
      refine g_astore k_Len_valueOf_16 (by decide) ?_
      refine g_iload_n k_Len_valueOf_18 rfl rfl ?_
      refine g_if_lt (tgt := 36) k_Len_valueOf_19 (by decide) (fun c_19 => ?_) (fun c_19 => ?_)
      · refine g_iconst (v := 0) k_Len_valueOf_36 rfl ?_
        refine g_iret k_Len_valueOf_37 rfl ?_
        simpa only [if_neg c_1, if_neg c_8, if_pos c_19] using hq
      · refine g_iload_n k_Len_valueOf_22 rfl rfl ?_
        refine g_aload k_Len_valueOf_23 rfl ?_
        refine p_alen (v := 4) k_Len_valueOf_25 hf (by decide) rfl ?_
        refine g_icmp_ge (tgt := 36) k_Len_valueOf_26 (by decide) (fun c_26 => ?_) (fun c_26 => ?_)
        · refine g_iconst (v := 0) k_Len_valueOf_36 rfl ?_
          refine g_iret k_Len_valueOf_37 rfl ?_
          simpa only [if_neg c_1, if_neg c_8, if_neg c_19, if_pos c_26] using hq
        · refine g_aload k_Len_valueOf_29 rfl ?_
          refine g_iload_n k_Len_valueOf_31 rfl rfl ?_
          refine p_iald k_Len_valueOf_32 hf (in_of c_19 c_26 (by decide)) rfl ?_
          refine g_goto (tgt := 37) k_Len_valueOf_33 (by decide) ?_
          refine g_iret k_Len_valueOf_37 rfl ?_
          simpa only [if_neg c_1, if_neg c_8, if_neg c_19, if_neg c_26] using hq
def w_join (q l r : Int32) : Int32 := if q = 6 then l + r else if q = 7 then l - r else if q = 8 then l * r else if q = 9 then (if r = 0 then 0 else l / r) else if q = 10 then (if r < l then r else l) else if q = 11 then (if l < r then r else l) else if q = 12 then (if r ≤ l then 0 else 1) else if q = 13 then (if l ≤ r then 0 else 1) else if q = 14 then (if l = r then 1 else 0) else if q = 15 then l &&& r else l ||| r
theorem s_Len_join {K : aK} {d bc bs : Nat} {h : aH} (q l r : Int32) (hd : 1 ≤ d) : Sp K M_Len_join d bc bs [.int q, .int l, .int r] h (some (.int (w_join q l r))) h := by
  refine sp_of ok_Len_join rfl (Nat.le_of_ble_eq_true rfl) (by simp [Value.category]) (fun Q hq => ?_)
  unfold w_join at hq
  refine g_iload_n k_Len_join_0 rfl rfl ?_
  by_cases s_6 : q = 6
  · refine g_tabIn (off := 55) (tgt := 56) k_Len_join_1 (by rw [s_6]; decide) (by rw [s_6]; decide) (by rw [s_6]; rfl) (by decide) ?_
    refine g_iload_n k_Len_join_56 rfl rfl ?_
    refine g_iload_n k_Len_join_57 rfl rfl ?_
    refine g_iadd k_Len_join_58 ?_
    refine g_iret k_Len_join_59 rfl ?_
    simpa only [if_pos s_6] using hq
  by_cases s_7 : q = 7
  · refine g_tabIn (off := 59) (tgt := 60) k_Len_join_1 (by rw [s_7]; decide) (by rw [s_7]; decide) (by rw [s_7]; rfl) (by decide) ?_
    refine g_iload_n k_Len_join_60 rfl rfl ?_
    refine g_iload_n k_Len_join_61 rfl rfl ?_
    refine g_isub k_Len_join_62 ?_
    refine g_iret k_Len_join_63 rfl ?_
    simpa only [if_neg s_6, if_pos s_7] using hq
  by_cases s_8 : q = 8
  · refine g_tabIn (off := 63) (tgt := 64) k_Len_join_1 (by rw [s_8]; decide) (by rw [s_8]; decide) (by rw [s_8]; rfl) (by decide) ?_
    refine g_iload_n k_Len_join_64 rfl rfl ?_
    refine g_iload_n k_Len_join_65 rfl rfl ?_
    refine g_imul k_Len_join_66 ?_
    refine g_iret k_Len_join_67 rfl ?_
    simpa only [if_neg s_6, if_neg s_7, if_pos s_8] using hq
  by_cases s_9 : q = 9
  · refine g_tabIn (off := 67) (tgt := 68) k_Len_join_1 (by rw [s_9]; decide) (by rw [s_9]; decide) (by rw [s_9]; rfl) (by decide) ?_
    refine g_iload_n k_Len_join_68 rfl rfl ?_
    refine g_if_ne (tgt := 76) k_Len_join_69 (by decide) (fun c_69 => ?_) (fun c_69 => ?_)
    · refine g_iconst (v := 0) k_Len_join_72 rfl ?_
      refine g_goto (tgt := 79) k_Len_join_73 (by decide) ?_
      refine g_iret k_Len_join_79 rfl ?_
      simpa only [if_neg s_6, if_neg s_7, if_neg s_8, if_pos s_9, if_pos c_69] using hq
    · refine g_iload_n k_Len_join_76 rfl rfl ?_
      refine g_iload_n k_Len_join_77 rfl rfl ?_
      refine g_idiv k_Len_join_78 c_69 ?_
      refine g_iret k_Len_join_79 rfl ?_
      simpa only [if_neg s_6, if_neg s_7, if_neg s_8, if_pos s_9, if_neg c_69] using hq
  by_cases s_10 : q = 10
  · refine g_tabIn (off := 79) (tgt := 80) k_Len_join_1 (by rw [s_10]; decide) (by rw [s_10]; decide) (by rw [s_10]; rfl) (by decide) ?_
    refine g_iload_n k_Len_join_80 rfl rfl ?_
    refine g_iload_n k_Len_join_81 rfl rfl ?_
    refine g_mn k_Len_join_82 mw_Len_68 (Nat.le_of_ble_eq_true rfl) (by omega) ?_
    refine g_iret k_Len_join_85 rfl ?_
    simpa only [if_neg s_6, if_neg s_7, if_neg s_8, if_neg s_9, if_pos s_10] using hq
  by_cases s_11 : q = 11
  · refine g_tabIn (off := 85) (tgt := 86) k_Len_join_1 (by rw [s_11]; decide) (by rw [s_11]; decide) (by rw [s_11]; rfl) (by decide) ?_
    refine g_iload_n k_Len_join_86 rfl rfl ?_
    refine g_iload_n k_Len_join_87 rfl rfl ?_
    refine g_mx k_Len_join_88 mw_Len_73 (Nat.le_of_ble_eq_true rfl) (by omega) ?_
    refine g_iret k_Len_join_91 rfl ?_
    simpa only [if_neg s_6, if_neg s_7, if_neg s_8, if_neg s_9, if_neg s_10, if_pos s_11] using hq
  by_cases s_12 : q = 12
  · refine g_tabIn (off := 91) (tgt := 92) k_Len_join_1 (by rw [s_12]; decide) (by rw [s_12]; decide) (by rw [s_12]; rfl) (by decide) ?_
    refine g_iload_n k_Len_join_92 rfl rfl ?_
    refine g_iload_n k_Len_join_93 rfl rfl ?_
    refine g_icmp_ge (tgt := 101) k_Len_join_94 (by decide) (fun c_94 => ?_) (fun c_94 => ?_)
    · refine g_iconst (v := 0) k_Len_join_101 rfl ?_
      refine g_iret k_Len_join_102 rfl ?_
      simpa only [if_neg s_6, if_neg s_7, if_neg s_8, if_neg s_9, if_neg s_10, if_neg s_11, if_pos s_12, if_pos c_94] using hq
    · refine g_iconst (v := 1) k_Len_join_97 rfl ?_
      refine g_goto (tgt := 102) k_Len_join_98 (by decide) ?_
      refine g_iret k_Len_join_102 rfl ?_
      simpa only [if_neg s_6, if_neg s_7, if_neg s_8, if_neg s_9, if_neg s_10, if_neg s_11, if_pos s_12, if_neg c_94] using hq
  by_cases s_13 : q = 13
  · refine g_tabIn (off := 102) (tgt := 103) k_Len_join_1 (by rw [s_13]; decide) (by rw [s_13]; decide) (by rw [s_13]; rfl) (by decide) ?_
    refine g_iload_n k_Len_join_103 rfl rfl ?_
    refine g_iload_n k_Len_join_104 rfl rfl ?_
    refine g_icmp_le (tgt := 112) k_Len_join_105 (by decide) (fun c_105 => ?_) (fun c_105 => ?_)
    · refine g_iconst (v := 0) k_Len_join_112 rfl ?_
      refine g_iret k_Len_join_113 rfl ?_
      simpa only [if_neg s_6, if_neg s_7, if_neg s_8, if_neg s_9, if_neg s_10, if_neg s_11, if_neg s_12, if_pos s_13, if_pos c_105] using hq
    · refine g_iconst (v := 1) k_Len_join_108 rfl ?_
      refine g_goto (tgt := 113) k_Len_join_109 (by decide) ?_
      refine g_iret k_Len_join_113 rfl ?_
      simpa only [if_neg s_6, if_neg s_7, if_neg s_8, if_neg s_9, if_neg s_10, if_neg s_11, if_neg s_12, if_pos s_13, if_neg c_105] using hq
  by_cases s_14 : q = 14
  · refine g_tabIn (off := 113) (tgt := 114) k_Len_join_1 (by rw [s_14]; decide) (by rw [s_14]; decide) (by rw [s_14]; rfl) (by decide) ?_
    refine g_iload_n k_Len_join_114 rfl rfl ?_
    refine g_iload_n k_Len_join_115 rfl rfl ?_
    refine g_icmp_ne (tgt := 123) k_Len_join_116 (by decide) (fun c_116 => ?_) (fun c_116 => ?_)
    · refine g_iconst (v := 1) k_Len_join_119 rfl ?_
      refine g_goto (tgt := 124) k_Len_join_120 (by decide) ?_
      refine g_iret k_Len_join_124 rfl ?_
      simpa only [if_neg s_6, if_neg s_7, if_neg s_8, if_neg s_9, if_neg s_10, if_neg s_11, if_neg s_12, if_neg s_13, if_pos s_14, if_pos c_116] using hq
    · refine g_iconst (v := 0) k_Len_join_123 rfl ?_
      refine g_iret k_Len_join_124 rfl ?_
      simpa only [if_neg s_6, if_neg s_7, if_neg s_8, if_neg s_9, if_neg s_10, if_neg s_11, if_neg s_12, if_neg s_13, if_pos s_14, if_neg c_116] using hq
  by_cases s_15 : q = 15
  · refine g_tabIn (off := 124) (tgt := 125) k_Len_join_1 (by rw [s_15]; decide) (by rw [s_15]; decide) (by rw [s_15]; rfl) (by decide) ?_
    refine g_iload_n k_Len_join_125 rfl rfl ?_
    refine g_iload_n k_Len_join_126 rfl rfl ?_
    refine g_iand k_Len_join_127 ?_
    refine g_iret k_Len_join_128 rfl ?_
    simpa only [if_neg s_6, if_neg s_7, if_neg s_8, if_neg s_9, if_neg s_10, if_neg s_11, if_neg s_12, if_neg s_13, if_neg s_14, if_pos s_15] using hq
  refine g_tabOut (tgt := 129) k_Len_join_1 (by have t_6 := lv_neT (a := 6) s_6 rfl; have t_7 := lv_neT (a := 7) s_7 rfl; have t_8 := lv_neT (a := 8) s_8 rfl; have t_9 := lv_neT (a := 9) s_9 rfl; have t_10 := lv_neT (a := 10) s_10 rfl; have t_11 := lv_neT (a := 11) s_11 rfl; have t_12 := lv_neT (a := 12) s_12 rfl; have t_13 := lv_neT (a := 13) s_13 rfl; have t_14 := lv_neT (a := 14) s_14 rfl; have t_15 := lv_neT (a := 15) s_15 rfl; omega) (by decide) ?_
  refine g_iload_n k_Len_join_129 rfl rfl ?_
  refine g_iload_n k_Len_join_130 rfl rfl ?_
  refine g_ior k_Len_join_131 ?_
  refine g_iret k_Len_join_132 rfl ?_
  simpa only [if_neg s_6, if_neg s_7, if_neg s_8, if_neg s_9, if_neg s_10, if_neg s_11, if_neg s_12, if_neg s_13, if_neg s_14, if_neg s_15] using hq
