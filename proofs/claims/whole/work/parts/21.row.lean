/-! Row -/
def r_broken (m : aM) (a : Nat) : Int32 := if m a 3 = -1 then 0 else if m a 4 = -1 then 0 else 1
def r_heal (m : aM) (a : Nat) : aM := a_st (a_st m a 4 (-1)) a 5 (-1)
def r_break (m : aM) (a : Nat) (p t : Int32) : aM := if r_broken m a = 0 then a_st (a_st m a 4 t) a 5 p else m
def r_hasOld (m : aM) (a : Nat) : Int32 := if m a 3 = 0 then 1 else if m a 3 = 1 then 1 else if m a 3 = 3 then 1 else 0
def r_hasNew (m : aM) (a : Nat) : Int32 := if m a 3 = 1 then 1 else if m a 3 = 2 then 1 else 0
def r_isW (m : aM) (a : Nat) (f t : Int32) : Int32 := if m a 6 = t then if f < 0 then 0 else if 2 ≤ f then 0 else if m (a + 4) f.toNatClampNeg = 0 then 0 else 1 else 0
def r_noteW1 (m : aM) (a : Nat) (f : Int32) : aM := if f < 0 then m else if 2 ≤ f then m else a_st m (a + 4) f.toNatClampNeg 1
def r_noteW (m : aM) (a : Nat) (f t : Int32) : aM := if m a 6 = t then r_noteW1 m a f else r_noteW1 (a_st (a_st (a_st m (a + 4) 0 0) (a + 4) 1 0) a 6 t) a f
theorem s_Row_isBroken {K : aK} {d bc bs : Nat} {g : aG} {m : aM} {a : Nat} (s : ShRow g a) : Sp K M_Row_isBroken d bc bs [.ref a] (g, m) (some (.int (r_broken m a))) (g, m) := by
  refine sp_of ok_Row_isBroken rfl (Nat.le_of_ble_eq_true rfl) (by simp [Value.category]) (fun Q hq => ?_)
  unfold r_broken at hq
  refine g_aload_n k_Row_isBroken_0 rfl rfl ?_
  refine p_geti k_Row_isBroken_1 fl_Row_25 rfl (sk_Row s) (by decide) ?_
  refine g_iconst (v := (-1)) k_Row_isBroken_4 rfl ?_
  refine g_icmp_eq (tgt := 20) k_Row_isBroken_5 (by decide) (fun c_5 => ?_) (fun c_5 => ?_)
  · refine g_iconst (v := 0) k_Row_isBroken_20 rfl ?_
    refine g_zret k_Row_isBroken_21 rfl (by simp) ?_
    simpa only [if_pos c_5] using hq
  · refine g_aload_n k_Row_isBroken_8 rfl rfl ?_
    refine p_geti k_Row_isBroken_9 fl_Row_29 rfl (sk_Row s) (by decide) ?_
    refine g_iconst (v := (-1)) k_Row_isBroken_12 rfl ?_
    refine g_icmp_eq (tgt := 20) k_Row_isBroken_13 (by decide) (fun c_13 => ?_) (fun c_13 => ?_)
    · refine g_iconst (v := 0) k_Row_isBroken_20 rfl ?_
      refine g_zret k_Row_isBroken_21 rfl (by simp) ?_
      simpa only [if_neg c_5, if_pos c_13] using hq
    · refine g_iconst (v := 1) k_Row_isBroken_16 rfl ?_
      refine g_goto (tgt := 21) k_Row_isBroken_17 (by decide) ?_
      refine g_zret k_Row_isBroken_21 rfl (by simp) ?_
      simpa only [if_neg c_5, if_neg c_13] using hq
theorem s_Row_brokenSince {K : aK} {d bc bs : Nat} {g : aG} {m : aM} {a : Nat} (s : ShRow g a) : Sp K M_Row_brokenSince d bc bs [.ref a] (g, m) (some (.int (m a 4))) (g, m) := by
  refine sp_of ok_Row_brokenSince rfl (Nat.le_of_ble_eq_true rfl) (by simp [Value.category]) (fun Q hq => ?_)
  refine g_aload_n k_Row_brokenSince_0 rfl rfl ?_
  refine p_geti k_Row_brokenSince_1 fl_Row_29 rfl (sk_Row s) (by decide) ?_
  refine g_iret k_Row_brokenSince_4 rfl ?_
  exact hq
theorem s_Row_brokenBy {K : aK} {d bc bs : Nat} {g : aG} {m : aM} {a : Nat} (s : ShRow g a) : Sp K M_Row_brokenBy d bc bs [.ref a] (g, m) (some (.int (m a 5))) (g, m) := by
  refine sp_of ok_Row_brokenBy rfl (Nat.le_of_ble_eq_true rfl) (by simp [Value.category]) (fun Q hq => ?_)
  refine g_aload_n k_Row_brokenBy_0 rfl rfl ?_
  refine p_geti k_Row_brokenBy_1 fl_Row_32 rfl (sk_Row s) (by decide) ?_
  refine g_iret k_Row_brokenBy_4 rfl ?_
  exact hq
theorem s_Row_heal {K : aK} {d bc bs : Nat} {g : aG} {m : aM} {a : Nat} (s : ShRow g a) : Sp K M_Row_heal d bc bs [.ref a] (g, m) none (g, r_heal m a) := by
  refine sp_of ok_Row_heal rfl (Nat.le_of_ble_eq_true rfl) (by simp [Value.category]) (fun Q hq => ?_)
  refine g_aload_n k_Row_heal_0 rfl rfl ?_
  refine g_iconst (v := (-1)) k_Row_heal_1 rfl ?_
  refine p_puti k_Row_heal_2 fl_Row_29 rfl ⟨R_Row, F_Row, 8, rfl, Or.inl rfl⟩ (sk_Row s) (by decide) ?_
  refine g_aload_n k_Row_heal_5 rfl rfl ?_
  refine g_iconst (v := (-1)) k_Row_heal_6 rfl ?_
  refine p_puti k_Row_heal_7 fl_Row_32 rfl ⟨R_Row, F_Row, 8, rfl, Or.inl rfl⟩ (sk_Row s) (by decide) ?_
  refine g_vret k_Row_heal_10 rfl ?_
  exact hq
theorem s_Row_hasOld {K : aK} {d bc bs : Nat} {g : aG} {m : aM} {a : Nat} (s : ShRow g a) : Sp K M_Row_hasOld d bc bs [.ref a] (g, m) (some (.int (r_hasOld m a))) (g, m) := by
  refine sp_of ok_Row_hasOld rfl (Nat.le_of_ble_eq_true rfl) (by simp [Value.category]) (fun Q hq => ?_)
  unfold r_hasOld at hq
  refine g_aload_n k_Row_hasOld_0 rfl rfl ?_
  refine p_geti k_Row_hasOld_1 fl_Row_25 rfl (sk_Row s) (by decide) ?_
  refine g_if_eq (tgt := 23) k_Row_hasOld_4 (by decide) (fun c_4 => ?_) (fun c_4 => ?_)
  · refine g_iconst (v := 1) k_Row_hasOld_23 rfl ?_
    refine g_goto (tgt := 28) k_Row_hasOld_24 (by decide) ?_
    refine g_zret k_Row_hasOld_28 rfl (by simp) ?_
    simpa only [if_pos c_4] using hq
  · refine g_aload_n k_Row_hasOld_7 rfl rfl ?_
    refine p_geti k_Row_hasOld_8 fl_Row_25 rfl (sk_Row s) (by decide) ?_
    refine g_iconst (v := 1) k_Row_hasOld_11 rfl ?_
    refine g_icmp_eq (tgt := 23) k_Row_hasOld_12 (by decide) (fun c_12 => ?_) (fun c_12 => ?_)
    · refine g_iconst (v := 1) k_Row_hasOld_23 rfl ?_
      refine g_goto (tgt := 28) k_Row_hasOld_24 (by decide) ?_
      refine g_zret k_Row_hasOld_28 rfl (by simp) ?_
      simpa only [if_neg c_4, if_pos c_12] using hq
    · refine g_aload_n k_Row_hasOld_15 rfl rfl ?_
      refine p_geti k_Row_hasOld_16 fl_Row_25 rfl (sk_Row s) (by decide) ?_
      refine g_iconst (v := 3) k_Row_hasOld_19 rfl ?_
      refine g_icmp_ne (tgt := 27) k_Row_hasOld_20 (by decide) (fun c_20 => ?_) (fun c_20 => ?_)
      · refine g_iconst (v := 1) k_Row_hasOld_23 rfl ?_
        refine g_goto (tgt := 28) k_Row_hasOld_24 (by decide) ?_
        refine g_zret k_Row_hasOld_28 rfl (by simp) ?_
        simpa only [if_neg c_4, if_neg c_12, if_pos c_20] using hq
      · refine g_iconst (v := 0) k_Row_hasOld_27 rfl ?_
        refine g_zret k_Row_hasOld_28 rfl (by simp) ?_
        simpa only [if_neg c_4, if_neg c_12, if_neg c_20] using hq
theorem s_Row_hasNew {K : aK} {d bc bs : Nat} {g : aG} {m : aM} {a : Nat} (s : ShRow g a) : Sp K M_Row_hasNew d bc bs [.ref a] (g, m) (some (.int (r_hasNew m a))) (g, m) := by
  refine sp_of ok_Row_hasNew rfl (Nat.le_of_ble_eq_true rfl) (by simp [Value.category]) (fun Q hq => ?_)
  unfold r_hasNew at hq
  refine g_aload_n k_Row_hasNew_0 rfl rfl ?_
  refine p_geti k_Row_hasNew_1 fl_Row_25 rfl (sk_Row s) (by decide) ?_
  refine g_iconst (v := 1) k_Row_hasNew_4 rfl ?_
  refine g_icmp_eq (tgt := 16) k_Row_hasNew_5 (by decide) (fun c_5 => ?_) (fun c_5 => ?_)
  · refine g_iconst (v := 1) k_Row_hasNew_16 rfl ?_
    refine g_goto (tgt := 21) k_Row_hasNew_17 (by decide) ?_
    refine g_zret k_Row_hasNew_21 rfl (by simp) ?_
    simpa only [if_pos c_5] using hq
  · refine g_aload_n k_Row_hasNew_8 rfl rfl ?_
    refine p_geti k_Row_hasNew_9 fl_Row_25 rfl (sk_Row s) (by decide) ?_
    refine g_iconst (v := 2) k_Row_hasNew_12 rfl ?_
    refine g_icmp_ne (tgt := 20) k_Row_hasNew_13 (by decide) (fun c_13 => ?_) (fun c_13 => ?_)
    · refine g_iconst (v := 1) k_Row_hasNew_16 rfl ?_
      refine g_goto (tgt := 21) k_Row_hasNew_17 (by decide) ?_
      refine g_zret k_Row_hasNew_21 rfl (by simp) ?_
      simpa only [if_neg c_5, if_pos c_13] using hq
    · refine g_iconst (v := 0) k_Row_hasNew_20 rfl ?_
      refine g_zret k_Row_hasNew_21 rfl (by simp) ?_
      simpa only [if_neg c_5, if_neg c_13] using hq
theorem s_Row_breakBy {K : aK} {d bc bs : Nat} {g : aG} {m : aM} {a : Nat} (s : ShRow g a) (p : Int32) (t : Int32) (hd : 1 ≤ d) : Sp K M_Row_breakBy d bc bs [.ref a, .int p, .int t] (g, m) none (g, r_break m a p t) := by
  refine sp_of ok_Row_breakBy rfl (Nat.le_of_ble_eq_true rfl) (by simp [Value.category]) (fun Q hq => ?_)
  unfold r_break at hq
  refine g_aload_n k_Row_breakBy_0 rfl rfl ?_
  refine g_cv k_Row_breakBy_1 lv_Row_41 (by decide +kernel) (T := F_Row) (N := 8) (ci := 6) rfl (sk_Row s) (s_Row_isBroken s (bc := 0) (bs := 0)) rfl rfl (Nat.le_of_ble_eq_true rfl) (by simp [Value.category]) (by omega) (by omega) (by omega) ?_
  refine g_if_ne (tgt := 17) k_Row_breakBy_4 (by decide) (fun c_4 => ?_) (fun c_4 => ?_)
  · refine g_aload_n k_Row_breakBy_7 rfl rfl ?_
    refine g_iload_n k_Row_breakBy_8 rfl rfl ?_
    refine p_puti k_Row_breakBy_9 fl_Row_29 rfl ⟨R_Row, F_Row, 8, rfl, Or.inl rfl⟩ (sk_Row s) (by decide) ?_
    refine g_aload_n k_Row_breakBy_12 rfl rfl ?_
    refine g_iload_n k_Row_breakBy_13 rfl rfl ?_
    refine p_puti k_Row_breakBy_14 fl_Row_32 rfl ⟨R_Row, F_Row, 8, rfl, Or.inl rfl⟩ (sk_Row s) (by decide) ?_
    refine g_vret k_Row_breakBy_17 rfl ?_
    simpa only [if_pos c_4] using hq
  · refine g_vret k_Row_breakBy_17 rfl ?_
    simpa only [if_neg c_4] using hq
theorem s_Row_isWritten {K : aK} {d bc bs : Nat} {g : aG} {m : aM} {a : Nat} (s : ShRow g a) (f : Int32) (t : Int32) : Sp K M_Row_isWritten d bc bs [.ref a, .int f, .int t] (g, m) (some (.int (r_isW m a f t))) (g, m) := by
  refine sp_of ok_Row_isWritten rfl (Nat.le_of_ble_eq_true rfl) (by simp [Value.category]) (fun Q hq => ?_)
  unfold r_isW at hq
  refine g_aload_n k_Row_isWritten_0 rfl rfl ?_
  refine p_geti k_Row_isWritten_1 fl_Row_35 rfl (sk_Row s) (by decide) ?_
  refine g_iload_n k_Row_isWritten_4 rfl rfl ?_
  refine g_icmp_ne (tgt := 34) k_Row_isWritten_5 (by decide) (fun c_5 => ?_) (fun c_5 => ?_)
  · refine g_iload_n k_Row_isWritten_8 rfl rfl ?_
    refine g_if_lt (tgt := 34) k_Row_isWritten_9 (by decide) (fun c_9 => ?_) (fun c_9 => ?_)
    · refine g_iconst (v := 0) k_Row_isWritten_34 rfl ?_
      refine g_zret k_Row_isWritten_35 rfl (by simp) ?_
      simpa only [if_pos c_5, if_pos c_9] using hq
    · refine g_iload_n k_Row_isWritten_12 rfl rfl ?_
      refine g_aload_n k_Row_isWritten_13 rfl rfl ?_
      refine p_getr k_Row_isWritten_14 fl_Row_21 rfl (sk_Row s) (by decide) (sr_Row_7 s) ?_
      refine p_alen (v := 2) k_Row_isWritten_17 (sa_Row_7 s) (by decide) rfl ?_
      refine g_icmp_ge (tgt := 34) k_Row_isWritten_18 (by decide) (fun c_18 => ?_) (fun c_18 => ?_)
      · refine g_iconst (v := 0) k_Row_isWritten_34 rfl ?_
        refine g_zret k_Row_isWritten_35 rfl (by simp) ?_
        simpa only [if_pos c_5, if_neg c_9, if_pos c_18] using hq
      · refine g_aload_n k_Row_isWritten_21 rfl rfl ?_
        refine p_getr k_Row_isWritten_22 fl_Row_21 rfl (sk_Row s) (by decide) (sr_Row_7 s) ?_
        refine g_iload_n k_Row_isWritten_25 rfl rfl ?_
        refine p_zald k_Row_isWritten_26 (sa_Row_7 s) (in_of c_9 c_18 (by decide)) rfl ?_
        refine g_if_eq (tgt := 34) k_Row_isWritten_27 (by decide) (fun c_27 => ?_) (fun c_27 => ?_)
        · refine g_iconst (v := 0) k_Row_isWritten_34 rfl ?_
          refine g_zret k_Row_isWritten_35 rfl (by simp) ?_
          simpa only [if_pos c_5, if_neg c_9, if_neg c_18, if_pos c_27] using hq
        · refine g_iconst (v := 1) k_Row_isWritten_30 rfl ?_
          refine g_goto (tgt := 35) k_Row_isWritten_31 (by decide) ?_
          refine g_zret k_Row_isWritten_35 rfl (by simp) ?_
          simpa only [if_pos c_5, if_neg c_9, if_neg c_18, if_neg c_27] using hq
  · refine g_iconst (v := 0) k_Row_isWritten_34 rfl ?_
    refine g_zret k_Row_isWritten_35 rfl (by simp) ?_
    simpa only [if_neg c_5] using hq
theorem s_Row_noteWritten {K : aK} {d bc bs : Nat} {g : aG} {m : aM} {a : Nat} (s : ShRow g a) (f : Int32) (t : Int32) : Sp K M_Row_noteWritten d bc bs [.ref a, .int f, .int t] (g, m) none (g, r_noteW m a f t) := by
  refine sp_of ok_Row_noteWritten rfl (Nat.le_of_ble_eq_true rfl) (by simp [Value.category]) (fun Q hq => ?_)
  unfold r_noteW r_noteW1 at hq
  refine g_aload_n k_Row_noteWritten_0 rfl rfl ?_
  refine p_geti k_Row_noteWritten_1 fl_Row_35 rfl (sk_Row s) (by decide) ?_
  refine g_iload_n k_Row_noteWritten_4 rfl rfl ?_
  refine g_icmp_eq (tgt := 27) k_Row_noteWritten_5 (by decide) (fun c_5 => ?_) (fun c_5 => ?_)
  · refine g_iload_n k_Row_noteWritten_27 rfl rfl ?_
    refine g_if_lt (tgt := 47) k_Row_noteWritten_28 (by decide) (fun c_28 => ?_) (fun c_28 => ?_)
    · refine g_vret k_Row_noteWritten_47 rfl ?_
      simpa only [if_pos c_5, if_pos c_28] using hq
    · refine g_iload_n k_Row_noteWritten_31 rfl rfl ?_
      refine g_aload_n k_Row_noteWritten_32 rfl rfl ?_
      refine p_getr k_Row_noteWritten_33 fl_Row_21 rfl (sk_Row s) (by decide) (sr_Row_7 s) ?_
      refine p_alen (v := 2) k_Row_noteWritten_36 (sa_Row_7 s) (by decide) rfl ?_
      refine g_icmp_ge (tgt := 47) k_Row_noteWritten_37 (by decide) (fun c_37 => ?_) (fun c_37 => ?_)
      · refine g_vret k_Row_noteWritten_47 rfl ?_
        simpa only [if_pos c_5, if_neg c_28, if_pos c_37] using hq
      · refine g_aload_n k_Row_noteWritten_40 rfl rfl ?_
        refine p_getr k_Row_noteWritten_41 fl_Row_21 rfl (sk_Row s) (by decide) (sr_Row_7 s) ?_
        refine g_iload_n k_Row_noteWritten_44 rfl rfl ?_
        refine g_iconst (v := 1) k_Row_noteWritten_45 rfl ?_
        refine p_zast k_Row_noteWritten_46 (sa_Row_7 s) (in_of c_28 c_37 (by decide)) rfl (by simp) ?_
        refine g_vret k_Row_noteWritten_47 rfl ?_
        simpa only [if_pos c_5, if_neg c_28, if_neg c_37] using hq
  · refine g_aload_n k_Row_noteWritten_8 rfl rfl ?_
    refine p_getr k_Row_noteWritten_9 fl_Row_21 rfl (sk_Row s) (by decide) (sr_Row_7 s) ?_
    refine g_iconst (v := 0) k_Row_noteWritten_12 rfl ?_
    refine g_iconst (v := 0) k_Row_noteWritten_13 rfl ?_
    refine p_zast k_Row_noteWritten_14 (sa_Row_7 s) (vp_in_nI (n := 0) (N := 2) (by decide) (by decide)) (j := 0) rfl (by simp) ?_
    refine g_aload_n k_Row_noteWritten_15 rfl rfl ?_
    refine p_getr k_Row_noteWritten_16 fl_Row_21 rfl (sk_Row s) (by decide) (sr_Row_7 s) ?_
    refine g_iconst (v := 1) k_Row_noteWritten_19 rfl ?_
    refine g_iconst (v := 0) k_Row_noteWritten_20 rfl ?_
    refine p_zast k_Row_noteWritten_21 (sa_Row_7 s) (vp_in_nI (n := 1) (N := 2) (by decide) (by decide)) (j := 1) rfl (by simp) ?_
    refine g_aload_n k_Row_noteWritten_22 rfl rfl ?_
    refine g_iload_n k_Row_noteWritten_23 rfl rfl ?_
    refine p_puti k_Row_noteWritten_24 fl_Row_35 rfl ⟨R_Row, F_Row, 8, rfl, Or.inl rfl⟩ (sk_Row s) (by decide) ?_
    refine g_iload_n k_Row_noteWritten_27 rfl rfl ?_
    refine g_if_lt (tgt := 47) k_Row_noteWritten_28 (by decide) (fun c_28 => ?_) (fun c_28 => ?_)
    · refine g_vret k_Row_noteWritten_47 rfl ?_
      simpa only [if_neg c_5, if_pos c_28] using hq
    · refine g_iload_n k_Row_noteWritten_31 rfl rfl ?_
      refine g_aload_n k_Row_noteWritten_32 rfl rfl ?_
      refine p_getr k_Row_noteWritten_33 fl_Row_21 rfl (sk_Row s) (by decide) (sr_Row_7 s) ?_
      refine p_alen (v := 2) k_Row_noteWritten_36 (sa_Row_7 s) (by decide) rfl ?_
      refine g_icmp_ge (tgt := 47) k_Row_noteWritten_37 (by decide) (fun c_37 => ?_) (fun c_37 => ?_)
      · refine g_vret k_Row_noteWritten_47 rfl ?_
        simpa only [if_neg c_5, if_neg c_28, if_pos c_37] using hq
      · refine g_aload_n k_Row_noteWritten_40 rfl rfl ?_
        refine p_getr k_Row_noteWritten_41 fl_Row_21 rfl (sk_Row s) (by decide) (sr_Row_7 s) ?_
        refine g_iload_n k_Row_noteWritten_44 rfl rfl ?_
        refine g_iconst (v := 1) k_Row_noteWritten_45 rfl ?_
        refine p_zast k_Row_noteWritten_46 (sa_Row_7 s) (in_of c_28 c_37 (by decide)) rfl (by simp) ?_
        refine g_vret k_Row_noteWritten_47 rfl ?_
        simpa only [if_neg c_5, if_neg c_28, if_neg c_37] using hq
def fill0 (m : aM) (a : Nat) : Nat → aM
  | 0 => m
  | n + 1 => a_st (a_st (a_st (fill0 m a n) (a + 1) n 0) (a + 2) n 0) (a + 3) n 0
def r_begin (m : aM) (a : Nat) : aM := r_heal (a_st (a_st (fill0 m a 4) a 3 0) a 6 (-1)) a
theorem l_Row_begin {K : aK} {d bc bs : Nat} {g : aG} {m : aM} {a : Nat} (s : ShRow g a) (hd : 1 ≤ d) {Q : aQ} (hq : Q (.inl none) (g, r_begin m a)) : ∀ (n i : Nat), i + n = 4 → G K M_Row_begin d bc bs 2 [.ref a, .int (nI i)] [] (g, fill0 m a i) Q := by
  intro n
  induction n with
  | zero =>
    intro i hi
    obtain rfl : i = 4 := by omega
    refine g_iload_n k_Row_begin_2 rfl rfl ?_
    refine g_iconst (v := 4) k_Row_begin_3 rfl ?_
    refine g_icmp_ge (tgt := 34) k_Row_begin_4 (by decide) (fun c_4 => ?_) (fun c_4 => ?_)
    · refine g_aload_n k_Row_begin_34 rfl rfl ?_
      refine g_iconst (v := 0) k_Row_begin_35 rfl ?_
      refine p_puti k_Row_begin_36 fl_Row_25 rfl ⟨R_Row, F_Row, 8, rfl, Or.inl rfl⟩ (sk_Row s) (by decide) ?_
      refine g_aload_n k_Row_begin_39 rfl rfl ?_
      refine g_iconst (v := (-1)) k_Row_begin_40 rfl ?_
      refine p_puti k_Row_begin_41 fl_Row_35 rfl ⟨R_Row, F_Row, 8, rfl, Or.inl rfl⟩ (sk_Row s) (by decide) ?_
      refine g_aload_n k_Row_begin_44 rfl rfl ?_
      refine g_cv k_Row_begin_45 lv_Row_38 (by decide +kernel) (T := F_Row) (N := 8) (ci := 6) rfl (sk_Row s) (s_Row_heal s (bc := 0) (bs := 0)) rfl rfl (Nat.le_of_ble_eq_true rfl) (by simp [Value.category]) (by omega) (by omega) (by omega) ?_
      refine g_vret k_Row_begin_48 rfl ?_
      exact hq
    · exact absurd (nI_le (Nat.le_refl 4) (by decide)) c_4
  | succ n ih =>
    intro i hi
    have hi4 : i < 4 := by omega
    refine g_iload_n k_Row_begin_2 rfl rfl ?_
    refine g_iconst (v := 4) k_Row_begin_3 rfl ?_
    refine g_icmp_ge (tgt := 34) k_Row_begin_4 (by decide) (fun c_4 => ?_) (fun c_4 => ?_)
    · exact absurd c_4 (nI_ge hi4 (by decide))
    · refine g_aload_n k_Row_begin_7 rfl rfl ?_
      refine p_getr k_Row_begin_8 fl_Row_9 rfl (sk_Row s) (by decide) (sr_Row_0 s) ?_
      refine g_iload_n k_Row_begin_11 rfl rfl ?_
      refine g_iconst (v := 0) k_Row_begin_12 rfl ?_
      refine p_iast k_Row_begin_13 (sa_Row_0 s) (vp_in_nI hi4 (by decide)) (j := i) (nI_clamp (by omega)) ?_
      refine g_aload_n k_Row_begin_14 rfl rfl ?_
      refine p_getr k_Row_begin_15 fl_Row_15 rfl (sk_Row s) (by decide) (sr_Row_1 s) ?_
      refine g_iload_n k_Row_begin_18 rfl rfl ?_
      refine g_iconst (v := 0) k_Row_begin_19 rfl ?_
      refine p_iast k_Row_begin_20 (sa_Row_1 s) (vp_in_nI hi4 (by decide)) (j := i) (nI_clamp (by omega)) ?_
      refine g_aload_n k_Row_begin_21 rfl rfl ?_
      refine p_getr k_Row_begin_22 fl_Row_18 rfl (sk_Row s) (by decide) (sr_Row_2 s) ?_
      refine g_iload_n k_Row_begin_25 rfl rfl ?_
      refine g_iconst (v := 0) k_Row_begin_26 rfl ?_
      refine p_iast k_Row_begin_27 (sa_Row_2 s) (vp_in_nI hi4 (by decide)) (j := i) (nI_clamp (by omega)) ?_
      refine g_iinc k_Row_begin_28 rfl (nIx i) (by decide) ?_
      refine g_goto (tgt := 2) k_Row_begin_31 (by decide) ?_
      exact ih (i + 1) (by omega)
theorem s_Row_begin {K : aK} {d bc bs : Nat} {g : aG} {m : aM} {a : Nat} (s : ShRow g a) (hd : 1 ≤ d) : Sp K M_Row_begin d bc bs [.ref a] (g, m) none (g, r_begin m a) := by
  refine sp_of ok_Row_begin rfl (Nat.le_of_ble_eq_true rfl) (by simp [Value.category]) (fun Q hq => ?_)
  refine g_iconst (v := 0) k_Row_begin_0 rfl ?_
  refine g_istore_n k_Row_begin_1 rfl (by decide) ?_
  exact l_Row_begin s hd hq 4 0 rfl
