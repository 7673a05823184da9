/-! Plan -/
theorem in_of2 {x : Int32} {n : Nat} (h0 : ¬ x < 0) (h1 : x < nI n) (hn : n < 2 ^ 31) : vp_in x n := in_of h0 (fun q => by rw [i_le] at q; rw [i_lt] at h1; omega) hn
def v_Pla_addChange (m : aM) (a : Nat) : Int32 := (if (m a 5) < 3 then (((m a 5) + 1) - 1) else (-1))
def u_Pla_addChange (m : aM) (a : Nat) : aM := (if (m a 5) < 3 then (a_st (a_st m a 5 ((m a 5) + 1)) a 7 ((m a 7) + 1)) else m)
theorem s_Pla_addChange {K : aK} {d bc bs : Nat} {g : aG} {m : aM} (a : Nat) (s : ShPla g a) : Sp K M_Pla_addChange d bc bs [.ref a] (g, m) (some (.int (v_Pla_addChange m a))) (g, u_Pla_addChange m a) := by
  refine sp_of ok_Pla_addChange rfl (Nat.le_of_ble_eq_true rfl) (by simp [Value.category]) (fun Q hq => ?_)
  unfold v_Pla_addChange u_Pla_addChange at hq
  refine g_aload_n k_Pla_addChange_0 rfl rfl ?_
  refine p_geti k_Pla_addChange_1 fl_Pla_32 rfl (sk_Pla s) (by decide) ?_
  refine g_iconst (v := 3) k_Pla_addChange_4 rfl ?_
  refine g_icmp_lt (tgt := 10) k_Pla_addChange_5 (by decide) (fun c_5 => ?_) (fun c_5 => ?_)
  · refine g_aload_n k_Pla_addChange_10 rfl rfl ?_
    refine g_dup k_Pla_addChange_11 rfl ?_
    refine p_geti k_Pla_addChange_12 fl_Pla_32 rfl (sk_Pla s) (by decide) ?_
    refine g_iconst (v := 1) k_Pla_addChange_15 rfl ?_
    refine g_iadd k_Pla_addChange_16 ?_
    refine p_puti k_Pla_addChange_17 fl_Pla_32 rfl ⟨R_Pla, F_Pla, 8, rfl, Or.inl rfl⟩ (sk_Pla s) (by decide) ?_
    refine g_aload_n k_Pla_addChange_20 rfl rfl ?_
    refine g_dup k_Pla_addChange_21 rfl ?_
    refine p_geti k_Pla_addChange_22 fl_Pla_28 rfl (sk_Pla s) (by decide) ?_
    refine G.v (y := m a 7) (by simp [a_st]) ?_
    refine g_iconst (v := 1) k_Pla_addChange_25 rfl ?_
    refine g_iadd k_Pla_addChange_26 ?_
    refine p_puti k_Pla_addChange_27 fl_Pla_28 rfl ⟨R_Pla, F_Pla, 8, rfl, Or.inl rfl⟩ (sk_Pla s) (by decide) ?_
    refine g_aload_n k_Pla_addChange_30 rfl rfl ?_
    refine p_geti k_Pla_addChange_31 fl_Pla_32 rfl (sk_Pla s) (by decide) ?_
    refine G.v (y := ((m a 5) + 1)) (by simp [a_st]) ?_
    refine g_iconst (v := 1) k_Pla_addChange_34 rfl ?_
    refine g_isub k_Pla_addChange_35 ?_
    refine g_iret k_Pla_addChange_36 rfl ?_
    simpa only [if_pos c_5] using hq
  · refine g_iconst (v := (-1)) k_Pla_addChange_8 rfl ?_
    refine g_iret k_Pla_addChange_9 rfl ?_
    simpa only [if_neg c_5] using hq
def v_Pla_addProgram (m : aM) (a : Nat) : Int32 := (if (m a 6) < 5 then (((m a 6) + 1) - 1) else (-1))
def u_Pla_addProgram (m : aM) (a : Nat) : aM := (if (m a 6) < 5 then (a_st (a_st m a 6 ((m a 6) + 1)) a 7 ((m a 7) + 1)) else m)
theorem s_Pla_addProgram {K : aK} {d bc bs : Nat} {g : aG} {m : aM} (a : Nat) (s : ShPla g a) : Sp K M_Pla_addProgram d bc bs [.ref a] (g, m) (some (.int (v_Pla_addProgram m a))) (g, u_Pla_addProgram m a) := by
  refine sp_of ok_Pla_addProgram rfl (Nat.le_of_ble_eq_true rfl) (by simp [Value.category]) (fun Q hq => ?_)
  unfold v_Pla_addProgram u_Pla_addProgram at hq
  refine g_aload_n k_Pla_addProgram_0 rfl rfl ?_
  refine p_geti k_Pla_addProgram_1 fl_Pla_35 rfl (sk_Pla s) (by decide) ?_
  refine g_iconst (v := 5) k_Pla_addProgram_4 rfl ?_
  refine g_icmp_lt (tgt := 10) k_Pla_addProgram_5 (by decide) (fun c_5 => ?_) (fun c_5 => ?_)
  · refine g_aload_n k_Pla_addProgram_10 rfl rfl ?_
    refine g_dup k_Pla_addProgram_11 rfl ?_
    refine p_geti k_Pla_addProgram_12 fl_Pla_35 rfl (sk_Pla s) (by decide) ?_
    refine g_iconst (v := 1) k_Pla_addProgram_15 rfl ?_
    refine g_iadd k_Pla_addProgram_16 ?_
    refine p_puti k_Pla_addProgram_17 fl_Pla_35 rfl ⟨R_Pla, F_Pla, 8, rfl, Or.inl rfl⟩ (sk_Pla s) (by decide) ?_
    refine g_aload_n k_Pla_addProgram_20 rfl rfl ?_
    refine g_dup k_Pla_addProgram_21 rfl ?_
    refine p_geti k_Pla_addProgram_22 fl_Pla_28 rfl (sk_Pla s) (by decide) ?_
    refine G.v (y := m a 7) (by simp [a_st]) ?_
    refine g_iconst (v := 1) k_Pla_addProgram_25 rfl ?_
    refine g_iadd k_Pla_addProgram_26 ?_
    refine p_puti k_Pla_addProgram_27 fl_Pla_28 rfl ⟨R_Pla, F_Pla, 8, rfl, Or.inl rfl⟩ (sk_Pla s) (by decide) ?_
    refine g_aload_n k_Pla_addProgram_30 rfl rfl ?_
    refine p_geti k_Pla_addProgram_31 fl_Pla_35 rfl (sk_Pla s) (by decide) ?_
    refine G.v (y := ((m a 6) + 1)) (by simp [a_st]) ?_
    refine g_iconst (v := 1) k_Pla_addProgram_34 rfl ?_
    refine g_isub k_Pla_addProgram_35 ?_
    refine g_iret k_Pla_addProgram_36 rfl ?_
    simpa only [if_pos c_5] using hq
  · refine g_iconst (v := (-1)) k_Pla_addProgram_8 rfl ?_
    refine g_iret k_Pla_addProgram_9 rfl ?_
    simpa only [if_neg c_5] using hq
def v_Pla_holdAt (m : aM) (a : Nat) (c : Int32) (st : Int32) : Int32 := (if ((c * 5) + st) < 0 then 0 else (if 15 ≤ ((c * 5) + st) then 0 else (m (a + 1) (((c * 5) + st).toNatClampNeg))))
theorem s_Pla_holdAt {K : aK} {d bc bs : Nat} {g : aG} {m : aM} (a : Nat) (c : Int32) (st : Int32) (s : ShPla g a) : Sp K M_Pla_holdAt d bc bs [.ref a, .int c, .int st] (g, m) (some (.int (v_Pla_holdAt m a c st))) (g, m) := by
  refine sp_of ok_Pla_holdAt rfl (Nat.le_of_ble_eq_true rfl) (by simp [Value.category]) (fun Q hq => ?_)
  refine g_iload_n k_Pla_holdAt_0 rfl rfl ?_
  refine g_iconst (v := 5) k_Pla_holdAt_1 rfl ?_
  refine g_imul k_Pla_holdAt_2 ?_
  refine g_iload_n k_Pla_holdAt_3 rfl rfl ?_
  refine g_iadd k_Pla_holdAt_4 ?_
  refine g_istore_n k_Pla_holdAt_5 rfl (by decide) ?_
  refine g_iload_n k_Pla_holdAt_6 rfl rfl ?_
  have hJ_29 : G K M_Pla_holdAt d bc bs 29 [.ref a, .int c, .int st, .int ((c * 5) + st)] [.int (if ((c * 5) + st) < 0 then 0 else (if 15 ≤ ((c * 5) + st) then 0 else (m (a + 1) (((c * 5) + st).toNatClampNeg))))] (g, m) Q := by
    refine g_iret k_Pla_holdAt_29 rfl ?_
    exact hq
  refine g_if_lt (tgt := 28) k_Pla_holdAt_7 (by decide) (fun c_7 => ?_) (fun c_7 => ?_)
  · refine g_iconst (v := 0) k_Pla_holdAt_28 rfl ?_
    exact G.jn (by first | rfl | simp only [if_pos c_7]) (by first | rfl | simp only [if_pos c_7]) (by first | rfl | simp only [if_pos c_7]) hJ_29
  · refine g_iload_n k_Pla_holdAt_10 rfl rfl ?_
    refine g_aload_n k_Pla_holdAt_11 rfl rfl ?_
    refine p_getr k_Pla_holdAt_12 fl_Pla_9 rfl (sk_Pla s) (by decide) (sr_Pla_0 s) ?_
    refine p_alen (v := 15) k_Pla_holdAt_15 (sa_Pla_0 s) (by decide) rfl ?_
    refine g_icmp_ge (tgt := 28) k_Pla_holdAt_16 (by decide) (fun c_16 => ?_) (fun c_16 => ?_)
    · refine g_iconst (v := 0) k_Pla_holdAt_28 rfl ?_
      exact G.jn (by first | rfl | simp only [if_neg c_7, if_pos c_16]) (by first | rfl | simp only [if_neg c_7, if_pos c_16]) (by first | rfl | simp only [if_neg c_7, if_pos c_16]) hJ_29
    · refine g_aload_n k_Pla_holdAt_19 rfl rfl ?_
      refine p_getr k_Pla_holdAt_20 fl_Pla_9 rfl (sk_Pla s) (by decide) (sr_Pla_0 s) ?_
      refine g_iload_n k_Pla_holdAt_23 rfl rfl ?_
      refine p_iald k_Pla_holdAt_24 (sa_Pla_0 s) (in_of c_7 c_16 (by decide)) (j := ((c * 5) + st).toNatClampNeg) rfl ?_
      refine g_goto (tgt := 29) k_Pla_holdAt_25 (by decide) ?_
      exact G.jn (by first | rfl | simp only [if_neg c_7, if_neg c_16]) (by first | rfl | simp only [if_neg c_7, if_neg c_16]) (by first | rfl | simp only [if_neg c_7, if_neg c_16]) hJ_29
def v_Pla_priceOf (m : aM) (a : Nat) (p : Int32) : Int32 := (if p < 0 then 0 else (if 5 ≤ p then 0 else (m (a + 3) p.toNatClampNeg)))
theorem s_Pla_priceOf {K : aK} {d bc bs : Nat} {g : aG} {m : aM} (a : Nat) (p : Int32) (s : ShPla g a) : Sp K M_Pla_priceOf d bc bs [.ref a, .int p] (g, m) (some (.int (v_Pla_priceOf m a p))) (g, m) := by
  refine sp_of ok_Pla_priceOf rfl (Nat.le_of_ble_eq_true rfl) (by simp [Value.category]) (fun Q hq => ?_)
  refine g_iload_n k_Pla_priceOf_0 rfl rfl ?_
  have hJ_23 : G K M_Pla_priceOf d bc bs 23 [.ref a, .int p] [.int (if p < 0 then 0 else (if 5 ≤ p then 0 else (m (a + 3) p.toNatClampNeg)))] (g, m) Q := by
    refine g_iret k_Pla_priceOf_23 rfl ?_
    exact hq
  refine g_if_lt (tgt := 22) k_Pla_priceOf_1 (by decide) (fun c_1 => ?_) (fun c_1 => ?_)
  · refine g_iconst (v := 0) k_Pla_priceOf_22 rfl ?_
    exact G.jn (by first | rfl | simp only [if_pos c_1]) (by first | rfl | simp only [if_pos c_1]) (by first | rfl | simp only [if_pos c_1]) hJ_23
  · refine g_iload_n k_Pla_priceOf_4 rfl rfl ?_
    refine g_aload_n k_Pla_priceOf_5 rfl rfl ?_
    refine p_getr k_Pla_priceOf_6 fl_Pla_18 rfl (sk_Pla s) (by decide) (sr_Pla_2 s) ?_
    refine p_alen (v := 5) k_Pla_priceOf_9 (sa_Pla_2 s) (by decide) rfl ?_
    refine g_icmp_ge (tgt := 22) k_Pla_priceOf_10 (by decide) (fun c_10 => ?_) (fun c_10 => ?_)
    · refine g_iconst (v := 0) k_Pla_priceOf_22 rfl ?_
      exact G.jn (by first | rfl | simp only [if_neg c_1, if_pos c_10]) (by first | rfl | simp only [if_neg c_1, if_pos c_10]) (by first | rfl | simp only [if_neg c_1, if_pos c_10]) hJ_23
    · refine g_aload_n k_Pla_priceOf_13 rfl rfl ?_
      refine p_getr k_Pla_priceOf_14 fl_Pla_18 rfl (sk_Pla s) (by decide) (sr_Pla_2 s) ?_
      refine g_iload_n k_Pla_priceOf_17 rfl rfl ?_
      refine p_iald k_Pla_priceOf_18 (sa_Pla_2 s) (in_of c_1 c_10 (by decide)) (j := p.toNatClampNeg) rfl ?_
      refine g_goto (tgt := 23) k_Pla_priceOf_19 (by decide) ?_
      exact G.jn (by first | rfl | simp only [if_neg c_1, if_neg c_10]) (by first | rfl | simp only [if_neg c_1, if_neg c_10]) (by first | rfl | simp only [if_neg c_1, if_neg c_10]) hJ_23
def v_Pla_power (m : aM)  (c : Int32) : Int32 := (if c < 0 then 1 else (if 4 ≤ c then 1 else (a_pow c.toNatClampNeg)))
theorem s_Pla_power {K : aK} {d bc bs : Nat} {g : aG} {m : aM}  (c : Int32)  : Sp K M_Pla_power d bc bs [.int c] (g, m) (some (.int (v_Pla_power m c))) (g, m) := by
  refine sp_of ok_Pla_power rfl (Nat.le_of_ble_eq_true rfl) (by simp [Value.category]) (fun Q hq => ?_)
  refine g_iload_n k_Pla_power_0 rfl rfl ?_
  have hJ_21 : G K M_Pla_power d bc bs 21 [.int c] [.int (if c < 0 then 1 else (if 4 ≤ c then 1 else (a_pow c.toNatClampNeg)))] (g, m) Q := by
    refine g_iret k_Pla_power_21 rfl ?_
    exact hq
  refine g_if_lt (tgt := 20) k_Pla_power_1 (by decide) (fun c_1 => ?_) (fun c_1 => ?_)
  · refine g_iconst (v := 1) k_Pla_power_20 rfl ?_
    exact G.jn (by first | rfl | simp only [if_pos c_1]) (by first | rfl | simp only [if_pos c_1]) (by first | rfl | simp only [if_pos c_1]) hJ_21
  · refine g_iload_n k_Pla_power_4 rfl rfl ?_
    refine g_pow k_Pla_power_5 fp_Pla_59 ?_
    refine g_powlen k_Pla_power_8 ?_
    refine g_icmp_ge (tgt := 20) k_Pla_power_9 (by decide) (fun c_9 => ?_) (fun c_9 => ?_)
    · refine g_iconst (v := 1) k_Pla_power_20 rfl ?_
      exact G.jn (by first | rfl | simp only [if_neg c_1, if_pos c_9]) (by first | rfl | simp only [if_neg c_1, if_pos c_9]) (by first | rfl | simp only [if_neg c_1, if_pos c_9]) hJ_21
    · refine g_pow k_Pla_power_12 fp_Pla_59 ?_
      refine g_iload_n k_Pla_power_15 rfl rfl ?_
      refine g_powld k_Pla_power_16 (in_of c_1 c_9 (by decide)) ?_
      refine g_goto (tgt := 21) k_Pla_power_17 (by decide) ?_
      exact G.jn (by first | rfl | simp only [if_neg c_1, if_neg c_9]) (by first | rfl | simp only [if_neg c_1, if_neg c_9]) (by first | rfl | simp only [if_neg c_1, if_neg c_9]) hJ_21
def v_Pla_manyNodes (m : aM) (a : Nat) : Int32 := (v_Pla_power m  (m a 5))
theorem s_Pla_manyNodes {K : aK} {d bc bs : Nat} {g : aG} {m : aM} (a : Nat) (s : ShPla g a) (hd : 1 ≤ d) : Sp K M_Pla_manyNodes d bc bs [.ref a] (g, m) (some (.int (v_Pla_manyNodes m a))) (g, m) := by
  refine sp_of ok_Pla_manyNodes rfl (Nat.le_of_ble_eq_true rfl) (by simp [Value.category]) (fun Q hq => ?_)
  refine g_aload_n k_Pla_manyNodes_0 rfl rfl ?_
  refine p_geti k_Pla_manyNodes_1 fl_Pla_32 rfl (sk_Pla s) (by decide) ?_
  refine g_cs k_Pla_manyNodes_4 ls_Pla_55 (by decide +kernel) (s_Pla_power (bc := 0) (bs := 0) (m := m) (m a 5) ) rfl rfl (Nat.le_of_ble_eq_true rfl) (by simp [Value.category]) (by omega) (by omega) (by omega) ?_
  refine g_iret k_Pla_manyNodes_7 rfl ?_
  exact hq
def v_Pla_manySets (m : aM) (a : Nat) : Int32 := ((1 : Int32) <<< ((m a 6) &&& 31))
theorem s_Pla_manySets {K : aK} {d bc bs : Nat} {g : aG} {m : aM} (a : Nat) (s : ShPla g a) : Sp K M_Pla_manySets d bc bs [.ref a] (g, m) (some (.int (v_Pla_manySets m a))) (g, m) := by
  refine sp_of ok_Pla_manySets rfl (Nat.le_of_ble_eq_true rfl) (by simp [Value.category]) (fun Q hq => ?_)
  refine g_iconst (v := 1) k_Pla_manySets_0 rfl ?_
  refine g_aload_n k_Pla_manySets_1 rfl rfl ?_
  refine p_geti k_Pla_manySets_2 fl_Pla_35 rfl (sk_Pla s) (by decide) ?_
  refine g_ishl k_Pla_manySets_5 ?_
  refine g_iret k_Pla_manySets_6 rfl ?_
  exact hq
def v_Pla_isUnderWay (m : aM)  (st : Int32) : Int32 := (if st < 1 then 0 else (if 4 < st then 0 else 1))
theorem s_Pla_isUnderWay {K : aK} {d bc bs : Nat} {g : aG} {m : aM}  (st : Int32)  : Sp K M_Pla_isUnderWay d bc bs [.int st] (g, m) (some (.int (v_Pla_isUnderWay m st))) (g, m) := by
  refine sp_of ok_Pla_isUnderWay rfl (Nat.le_of_ble_eq_true rfl) (by simp [Value.category]) (fun Q hq => ?_)
  refine g_iload_n k_Pla_isUnderWay_0 rfl rfl ?_
  refine g_iconst (v := 1) k_Pla_isUnderWay_1 rfl ?_
  have hJ_15 : G K M_Pla_isUnderWay d bc bs 15 [.int st] [.int (if st < 1 then 0 else (if 4 < st then 0 else 1))] (g, m) Q := by
    refine g_zret k_Pla_isUnderWay_15 rfl (by simp) ?_
    exact hq
  refine g_icmp_lt (tgt := 14) k_Pla_isUnderWay_2 (by decide) (fun c_2 => ?_) (fun c_2 => ?_)
  · refine g_iconst (v := 0) k_Pla_isUnderWay_14 rfl ?_
    exact G.jn (by first | rfl | simp only [if_pos c_2]) (by first | rfl | simp only [if_pos c_2]) (by first | rfl | simp only [if_pos c_2]) hJ_15
  · refine g_iload_n k_Pla_isUnderWay_5 rfl rfl ?_
    refine g_iconst (v := 4) k_Pla_isUnderWay_6 rfl ?_
    refine g_icmp_gt (tgt := 14) k_Pla_isUnderWay_7 (by decide) (fun c_7 => ?_) (fun c_7 => ?_)
    · refine g_iconst (v := 0) k_Pla_isUnderWay_14 rfl ?_
      exact G.jn (by first | rfl | simp only [if_neg c_2, if_pos c_7]) (by first | rfl | simp only [if_neg c_2, if_pos c_7]) (by first | rfl | simp only [if_neg c_2, if_pos c_7]) hJ_15
    · refine g_iconst (v := 1) k_Pla_isUnderWay_10 rfl ?_
      refine g_goto (tgt := 15) k_Pla_isUnderWay_11 (by decide) ?_
      exact G.jn (by first | rfl | simp only [if_neg c_2, if_neg c_7]) (by first | rfl | simp only [if_neg c_2, if_neg c_7]) (by first | rfl | simp only [if_neg c_2, if_neg c_7]) hJ_15
def v_Pla_stageOf (m : aM)  (n : Int32) (c : Int32) : Int32 := (if (v_Pla_power m  c) = 0 then 0 else ((n / (v_Pla_power m  c)) % 6))
theorem s_Pla_stageOf {K : aK} {d bc bs : Nat} {g : aG} {m : aM}  (n : Int32) (c : Int32)  (hd : 1 ≤ d) : Sp K M_Pla_stageOf d bc bs [.int n, .int c] (g, m) (some (.int (v_Pla_stageOf m n c))) (g, m) := by
  refine sp_of ok_Pla_stageOf rfl (Nat.le_of_ble_eq_true rfl) (by simp [Value.category]) (fun Q hq => ?_)
  refine g_iload_n k_Pla_stageOf_0 rfl rfl ?_
  refine g_cs k_Pla_stageOf_1 ls_Pla_55 (by decide +kernel) (s_Pla_power (bc := 0) (bs := 0) (m := m) c ) rfl rfl (Nat.le_of_ble_eq_true rfl) (by simp [Value.category]) (by omega) (by omega) (by omega) ?_
  refine g_istore_n k_Pla_stageOf_4 rfl (by decide) ?_
  refine g_iload_n k_Pla_stageOf_5 rfl rfl ?_
  have hJ_19 : G K M_Pla_stageOf d bc bs 19 [.int n, .int c, .int (v_Pla_power m  c)] [.int (if (v_Pla_power m  c) = 0 then 0 else ((n / (v_Pla_power m  c)) % 6))] (g, m) Q := by
    refine g_iret k_Pla_stageOf_19 rfl ?_
    exact hq
  refine g_if_ne (tgt := 13) k_Pla_stageOf_6 (by decide) (fun c_6 => ?_) (fun c_6 => ?_)
  · refine g_iconst (v := 0) k_Pla_stageOf_9 rfl ?_
    refine g_goto (tgt := 19) k_Pla_stageOf_10 (by decide) ?_
    exact G.jn (by first | rfl | simp only [if_pos c_6]) (by first | rfl | simp only [if_pos c_6]) (by first | rfl | simp only [if_pos c_6]) hJ_19
  · refine g_iload_n k_Pla_stageOf_13 rfl rfl ?_
    refine g_iload_n k_Pla_stageOf_14 rfl rfl ?_
    refine g_idiv k_Pla_stageOf_15 c_6 ?_
    refine g_bipush (v := 6) k_Pla_stageOf_16 rfl ?_
    refine g_irem k_Pla_stageOf_18 (by decide) ?_
    exact G.jn (by first | rfl | simp only [if_neg c_6]) (by first | rfl | simp only [if_neg c_6]) (by first | rfl | simp only [if_neg c_6]) hJ_19
def v_Pla_tell_15 (m : aM) (a b : Nat) (i : Int32) (v : Int32) : Int32 := (if i < 0 then (-1) else (if i < 15 then (m b i.toNatClampNeg) else (-1)))
def u_Pla_tell_15 (m : aM) (a b : Nat) (i : Int32) (v : Int32) : aM := (if i < 0 then m else (if i < 15 then (a_st (a_st m b i.toNatClampNeg v) a 7 (((a_st m b i.toNatClampNeg v) a 7) + 1)) else m))
theorem s_Pla_tell_15 {K : aK} {d bc bs : Nat} {g : aG} {m : aM} (a b : Nat) (i : Int32) (v : Int32) (s : ShPla g a) (hb : g.2.1 b = (0, 15)) : Sp K M_Pla_tell d bc bs [.ref a, .ref b, .int i, .int v] (g, m) (some (.int (v_Pla_tell_15 m a b i v))) (g, u_Pla_tell_15 m a b i v) := by
  refine sp_of ok_Pla_tell rfl (Nat.le_of_ble_eq_true rfl) (by simp [Value.category]) (fun Q hq => ?_)
  unfold v_Pla_tell_15 u_Pla_tell_15 at hq
  refine g_iload_n k_Pla_tell_0 rfl rfl ?_
  refine g_if_lt (tgt := 10) k_Pla_tell_1 (by decide) (fun c_1 => ?_) (fun c_1 => ?_)
  · refine g_iconst (v := (-1)) k_Pla_tell_10 rfl ?_
    refine g_iret k_Pla_tell_11 rfl ?_
    simpa only [if_pos c_1] using hq
  · refine g_iload_n k_Pla_tell_4 rfl rfl ?_
    refine g_aload_n k_Pla_tell_5 rfl rfl ?_
    refine p_alen (v := 15) k_Pla_tell_6 hb (by decide) rfl ?_
    refine g_icmp_lt (tgt := 12) k_Pla_tell_7 (by decide) (fun c_7 => ?_) (fun c_7 => ?_)
    · refine g_aload_n k_Pla_tell_12 rfl rfl ?_
      refine g_iload_n k_Pla_tell_13 rfl rfl ?_
      refine p_iald k_Pla_tell_14 hb (in_of2 c_1 c_7 (by decide)) (j := i.toNatClampNeg) rfl ?_
      refine g_istore k_Pla_tell_15 (by decide) ?_
      refine g_aload_n k_Pla_tell_17 rfl rfl ?_
      refine g_iload_n k_Pla_tell_18 rfl rfl ?_
      refine g_iload_n k_Pla_tell_19 rfl rfl ?_
      refine p_iast k_Pla_tell_20 hb (in_of2 c_1 c_7 (by decide)) (j := i.toNatClampNeg) rfl ?_
      refine g_aload_n k_Pla_tell_21 rfl rfl ?_
      refine g_dup k_Pla_tell_22 rfl ?_
      refine p_geti k_Pla_tell_23 fl_Pla_28 rfl (sk_Pla s) (by decide) ?_
      refine g_iconst (v := 1) k_Pla_tell_26 rfl ?_
      refine g_iadd k_Pla_tell_27 ?_
      refine p_puti k_Pla_tell_28 fl_Pla_28 rfl ⟨R_Pla, F_Pla, 8, rfl, Or.inl rfl⟩ (sk_Pla s) (by decide) ?_
      refine g_iload k_Pla_tell_31 rfl ?_
      refine g_iret k_Pla_tell_33 rfl ?_
      simpa only [if_neg c_1, if_pos c_7] using hq
    · refine g_iconst (v := (-1)) k_Pla_tell_10 rfl ?_
      refine g_iret k_Pla_tell_11 rfl ?_
      simpa only [if_neg c_1, if_neg c_7] using hq
def v_Pla_tell_5 (m : aM) (a b : Nat) (i : Int32) (v : Int32) : Int32 := (if i < 0 then (-1) else (if i < 5 then (m b i.toNatClampNeg) else (-1)))
def u_Pla_tell_5 (m : aM) (a b : Nat) (i : Int32) (v : Int32) : aM := (if i < 0 then m else (if i < 5 then (a_st (a_st m b i.toNatClampNeg v) a 7 (((a_st m b i.toNatClampNeg v) a 7) + 1)) else m))
theorem s_Pla_tell_5 {K : aK} {d bc bs : Nat} {g : aG} {m : aM} (a b : Nat) (i : Int32) (v : Int32) (s : ShPla g a) (hb : g.2.1 b = (0, 5)) : Sp K M_Pla_tell d bc bs [.ref a, .ref b, .int i, .int v] (g, m) (some (.int (v_Pla_tell_5 m a b i v))) (g, u_Pla_tell_5 m a b i v) := by
  refine sp_of ok_Pla_tell rfl (Nat.le_of_ble_eq_true rfl) (by simp [Value.category]) (fun Q hq => ?_)
  unfold v_Pla_tell_5 u_Pla_tell_5 at hq
  refine g_iload_n k_Pla_tell_0 rfl rfl ?_
  refine g_if_lt (tgt := 10) k_Pla_tell_1 (by decide) (fun c_1 => ?_) (fun c_1 => ?_)
  · refine g_iconst (v := (-1)) k_Pla_tell_10 rfl ?_
    refine g_iret k_Pla_tell_11 rfl ?_
    simpa only [if_pos c_1] using hq
  · refine g_iload_n k_Pla_tell_4 rfl rfl ?_
    refine g_aload_n k_Pla_tell_5 rfl rfl ?_
    refine p_alen (v := 5) k_Pla_tell_6 hb (by decide) rfl ?_
    refine g_icmp_lt (tgt := 12) k_Pla_tell_7 (by decide) (fun c_7 => ?_) (fun c_7 => ?_)
    · refine g_aload_n k_Pla_tell_12 rfl rfl ?_
      refine g_iload_n k_Pla_tell_13 rfl rfl ?_
      refine p_iald k_Pla_tell_14 hb (in_of2 c_1 c_7 (by decide)) (j := i.toNatClampNeg) rfl ?_
      refine g_istore k_Pla_tell_15 (by decide) ?_
      refine g_aload_n k_Pla_tell_17 rfl rfl ?_
      refine g_iload_n k_Pla_tell_18 rfl rfl ?_
      refine g_iload_n k_Pla_tell_19 rfl rfl ?_
      refine p_iast k_Pla_tell_20 hb (in_of2 c_1 c_7 (by decide)) (j := i.toNatClampNeg) rfl ?_
      refine g_aload_n k_Pla_tell_21 rfl rfl ?_
      refine g_dup k_Pla_tell_22 rfl ?_
      refine p_geti k_Pla_tell_23 fl_Pla_28 rfl (sk_Pla s) (by decide) ?_
      refine g_iconst (v := 1) k_Pla_tell_26 rfl ?_
      refine g_iadd k_Pla_tell_27 ?_
      refine p_puti k_Pla_tell_28 fl_Pla_28 rfl ⟨R_Pla, F_Pla, 8, rfl, Or.inl rfl⟩ (sk_Pla s) (by decide) ?_
      refine g_iload k_Pla_tell_31 rfl ?_
      refine g_iret k_Pla_tell_33 rfl ?_
      simpa only [if_neg c_1, if_pos c_7] using hq
    · refine g_iconst (v := (-1)) k_Pla_tell_10 rfl ?_
      refine g_iret k_Pla_tell_11 rfl ?_
      simpa only [if_neg c_1, if_neg c_7] using hq
def v_Pla_tellPair_9 (m : aM) (a b : Nat) (x : Int32) (y : Int32) : Int32 := (if ((x * 3) + y) < 0 then 0 else (if 9 ≤ ((x * 3) + y) then 0 else (if (m b (((x * 3) + y).toNatClampNeg)) = 0 then 1 else 0)))
def u_Pla_tellPair_9 (m : aM) (a b : Nat) (x : Int32) (y : Int32) : aM := (if ((x * 3) + y) < 0 then m else (if 9 ≤ ((x * 3) + y) then m else (if (m b (((x * 3) + y).toNatClampNeg)) = 0 then (a_st (a_st m b (((x * 3) + y).toNatClampNeg) 1) a 7 (((a_st m b (((x * 3) + y).toNatClampNeg) 1) a 7) + 1)) else m)))
theorem s_Pla_tellPair_9 {K : aK} {d bc bs : Nat} {g : aG} {m : aM} (a b : Nat) (x : Int32) (y : Int32) (s : ShPla g a) (hb : g.2.1 b = (1, 9)) : Sp K M_Pla_tellPair d bc bs [.ref a, .ref b, .int x, .int y] (g, m) (some (.int (v_Pla_tellPair_9 m a b x y))) (g, u_Pla_tellPair_9 m a b x y) := by
  refine sp_of ok_Pla_tellPair rfl (Nat.le_of_ble_eq_true rfl) (by simp [Value.category]) (fun Q hq => ?_)
  unfold v_Pla_tellPair_9 u_Pla_tellPair_9 at hq
  refine g_iload_n k_Pla_tellPair_0 rfl rfl ?_
  refine g_iconst (v := 3) k_Pla_tellPair_1 rfl ?_
  refine g_imul k_Pla_tellPair_2 ?_
  refine g_iload_n k_Pla_tellPair_3 rfl rfl ?_
  refine g_iadd k_Pla_tellPair_4 ?_
  refine g_istore k_Pla_tellPair_5 (by decide) ?_
  refine g_iload k_Pla_tellPair_7 rfl ?_
  refine g_if_lt (tgt := 26) k_Pla_tellPair_9 (by decide) (fun c_9 => ?_) (fun c_9 => ?_)
  · refine g_iconst (v := 0) k_Pla_tellPair_26 rfl ?_
    refine g_zret k_Pla_tellPair_27 rfl (by simp) ?_
    simpa only [if_pos c_9] using hq
  · refine g_iload k_Pla_tellPair_12 rfl ?_
    refine g_aload_n k_Pla_tellPair_14 rfl rfl ?_
    refine p_alen (v := 9) k_Pla_tellPair_15 hb (by decide) rfl ?_
    refine g_icmp_ge (tgt := 26) k_Pla_tellPair_16 (by decide) (fun c_16 => ?_) (fun c_16 => ?_)
    · refine g_iconst (v := 0) k_Pla_tellPair_26 rfl ?_
      refine g_zret k_Pla_tellPair_27 rfl (by simp) ?_
      simpa only [if_neg c_9, if_pos c_16] using hq
    · refine g_aload_n k_Pla_tellPair_19 rfl rfl ?_
      refine g_iload k_Pla_tellPair_20 rfl ?_
      refine p_zald k_Pla_tellPair_22 hb (in_of c_9 c_16 (by decide)) (j := ((x * 3) + y).toNatClampNeg) rfl ?_
      refine g_if_eq (tgt := 28) k_Pla_tellPair_23 (by decide) (fun c_23 => ?_) (fun c_23 => ?_)
      · refine g_aload_n k_Pla_tellPair_28 rfl rfl ?_
        refine g_iload k_Pla_tellPair_29 rfl ?_
        refine g_iconst (v := 1) k_Pla_tellPair_31 rfl ?_
        refine p_zast k_Pla_tellPair_32 hb (in_of c_9 c_16 (by decide)) (j := ((x * 3) + y).toNatClampNeg) rfl (by simp) ?_
        refine g_aload_n k_Pla_tellPair_33 rfl rfl ?_
        refine g_dup k_Pla_tellPair_34 rfl ?_
        refine p_geti k_Pla_tellPair_35 fl_Pla_28 rfl (sk_Pla s) (by decide) ?_
        refine g_iconst (v := 1) k_Pla_tellPair_38 rfl ?_
        refine g_iadd k_Pla_tellPair_39 ?_
        refine p_puti k_Pla_tellPair_40 fl_Pla_28 rfl ⟨R_Pla, F_Pla, 8, rfl, Or.inl rfl⟩ (sk_Pla s) (by decide) ?_
        refine g_iconst (v := 1) k_Pla_tellPair_43 rfl ?_
        refine g_zret k_Pla_tellPair_44 rfl (by simp) ?_
        simpa only [if_neg c_9, if_neg c_16, if_pos c_23] using hq
      · refine g_iconst (v := 0) k_Pla_tellPair_26 rfl ?_
        refine g_zret k_Pla_tellPair_27 rfl (by simp) ?_
        simpa only [if_neg c_9, if_neg c_16, if_neg c_23] using hq
theorem z_Pla_tellPair {m : aM} {a b : Nat} {x y : Int32} : v_Pla_tellPair_9 m a b x y = 0 ∨ v_Pla_tellPair_9 m a b x y = 1 := by
  unfold v_Pla_tellPair_9
  split
  · exact Or.inl rfl
  · split
    · exact Or.inl rfl
    · split
      · exact Or.inr rfl
      · exact Or.inl rfl
def v_Pla_tellHold (m : aM) (a : Nat) (c : Int32) (st : Int32) (v : Int32) : Int32 := (v_Pla_tell_15 m a (a + 1) ((c * 5) + st) v)
def u_Pla_tellHold (m : aM) (a : Nat) (c : Int32) (st : Int32) (v : Int32) : aM := (u_Pla_tell_15 m a (a + 1) ((c * 5) + st) v)
theorem s_Pla_tellHold {K : aK} {d bc bs : Nat} {g : aG} {m : aM} (a : Nat) (c : Int32) (st : Int32) (v : Int32) (s : ShPla g a) (hd : 1 ≤ d) : Sp K M_Pla_tellHold d bc bs [.ref a, .int c, .int st, .int v] (g, m) (some (.int (v_Pla_tellHold m a c st v))) (g, u_Pla_tellHold m a c st v) := by
  refine sp_of ok_Pla_tellHold rfl (Nat.le_of_ble_eq_true rfl) (by simp [Value.category]) (fun Q hq => ?_)
  refine g_aload_n k_Pla_tellHold_0 rfl rfl ?_
  refine g_aload_n k_Pla_tellHold_1 rfl rfl ?_
  refine p_getr k_Pla_tellHold_2 fl_Pla_9 rfl (sk_Pla s) (by decide) (sr_Pla_0 s) ?_
  refine g_iload_n k_Pla_tellHold_5 rfl rfl ?_
  refine g_iconst (v := 5) k_Pla_tellHold_6 rfl ?_
  refine g_imul k_Pla_tellHold_7 ?_
  refine g_iload_n k_Pla_tellHold_8 rfl rfl ?_
  refine g_iadd k_Pla_tellHold_9 ?_
  refine g_iload_n k_Pla_tellHold_10 rfl rfl ?_
  refine g_cv k_Pla_tellHold_11 lv_Pla_38 (by decide +kernel) (T := F_Pla) (N := 8) (ci := 4) rfl (sk_Pla s) (s_Pla_tell_15 (bc := 0) (bs := 0) (m := m) a (a + 1) ((c * 5) + st) v s (sa_Pla_0 s)) rfl rfl (Nat.le_of_ble_eq_true rfl) (by simp [Value.category]) (by omega) (by omega) (by omega) ?_
  refine g_iret k_Pla_tellHold_14 rfl ?_
  exact hq
def v_Pla_tellNeed (m : aM) (a : Nat) (p : Int32) (c : Int32) (k : Int32) : Int32 := (v_Pla_tell_15 m a (a + 2) ((p * 3) + c) k)
def u_Pla_tellNeed (m : aM) (a : Nat) (p : Int32) (c : Int32) (k : Int32) : aM := (u_Pla_tell_15 m a (a + 2) ((p * 3) + c) k)
theorem s_Pla_tellNeed {K : aK} {d bc bs : Nat} {g : aG} {m : aM} (a : Nat) (p : Int32) (c : Int32) (k : Int32) (s : ShPla g a) (hd : 1 ≤ d) : Sp K M_Pla_tellNeed d bc bs [.ref a, .int p, .int c, .int k] (g, m) (some (.int (v_Pla_tellNeed m a p c k))) (g, u_Pla_tellNeed m a p c k) := by
  refine sp_of ok_Pla_tellNeed rfl (Nat.le_of_ble_eq_true rfl) (by simp [Value.category]) (fun Q hq => ?_)
  refine g_aload_n k_Pla_tellNeed_0 rfl rfl ?_
  refine g_aload_n k_Pla_tellNeed_1 rfl rfl ?_
  refine p_getr k_Pla_tellNeed_2 fl_Pla_15 rfl (sk_Pla s) (by decide) (sr_Pla_1 s) ?_
  refine g_iload_n k_Pla_tellNeed_5 rfl rfl ?_
  refine g_iconst (v := 3) k_Pla_tellNeed_6 rfl ?_
  refine g_imul k_Pla_tellNeed_7 ?_
  refine g_iload_n k_Pla_tellNeed_8 rfl rfl ?_
  refine g_iadd k_Pla_tellNeed_9 ?_
  refine g_iload_n k_Pla_tellNeed_10 rfl rfl ?_
  refine g_cv k_Pla_tellNeed_11 lv_Pla_38 (by decide +kernel) (T := F_Pla) (N := 8) (ci := 4) rfl (sk_Pla s) (s_Pla_tell_15 (bc := 0) (bs := 0) (m := m) a (a + 2) ((p * 3) + c) k s (sa_Pla_1 s)) rfl rfl (Nat.le_of_ble_eq_true rfl) (by simp [Value.category]) (by omega) (by omega) (by omega) ?_
  refine g_iret k_Pla_tellNeed_14 rfl ?_
  exact hq
def v_Pla_tellPrice (m : aM) (a : Nat) (p : Int32) (v : Int32) : Int32 := (v_Pla_tell_5 m a (a + 3) p v)
def u_Pla_tellPrice (m : aM) (a : Nat) (p : Int32) (v : Int32) : aM := (u_Pla_tell_5 m a (a + 3) p v)
theorem s_Pla_tellPrice {K : aK} {d bc bs : Nat} {g : aG} {m : aM} (a : Nat) (p : Int32) (v : Int32) (s : ShPla g a) (hd : 1 ≤ d) : Sp K M_Pla_tellPrice d bc bs [.ref a, .int p, .int v] (g, m) (some (.int (v_Pla_tellPrice m a p v))) (g, u_Pla_tellPrice m a p v) := by
  refine sp_of ok_Pla_tellPrice rfl (Nat.le_of_ble_eq_true rfl) (by simp [Value.category]) (fun Q hq => ?_)
  refine g_aload_n k_Pla_tellPrice_0 rfl rfl ?_
  refine g_aload_n k_Pla_tellPrice_1 rfl rfl ?_
  refine p_getr k_Pla_tellPrice_2 fl_Pla_18 rfl (sk_Pla s) (by decide) (sr_Pla_2 s) ?_
  refine g_iload_n k_Pla_tellPrice_5 rfl rfl ?_
  refine g_iload_n k_Pla_tellPrice_6 rfl rfl ?_
  refine g_cv k_Pla_tellPrice_7 lv_Pla_38 (by decide +kernel) (T := F_Pla) (N := 8) (ci := 4) rfl (sk_Pla s) (s_Pla_tell_5 (bc := 0) (bs := 0) (m := m) a (a + 3) p v s (sa_Pla_2 s)) rfl rfl (Nat.le_of_ble_eq_true rfl) (by simp [Value.category]) (by omega) (by omega) (by omega) ?_
  refine g_iret k_Pla_tellPrice_10 rfl ?_
  exact hq
def v_Pla_tellOrder (m : aM) (a : Nat) (x : Int32) (y : Int32) : Int32 := (v_Pla_tellPair_9 m a (a + 4) x y)
def u_Pla_tellOrder (m : aM) (a : Nat) (x : Int32) (y : Int32) : aM := (u_Pla_tellPair_9 m a (a + 4) x y)
theorem s_Pla_tellOrder {K : aK} {d bc bs : Nat} {g : aG} {m : aM} (a : Nat) (x : Int32) (y : Int32) (s : ShPla g a) (hd : 1 ≤ d) : Sp K M_Pla_tellOrder d bc bs [.ref a, .int x, .int y] (g, m) (some (.int (v_Pla_tellOrder m a x y))) (g, u_Pla_tellOrder m a x y) := by
  refine sp_of ok_Pla_tellOrder rfl (Nat.le_of_ble_eq_true rfl) (by simp [Value.category]) (fun Q hq => ?_)
  refine g_aload_n k_Pla_tellOrder_0 rfl rfl ?_
  refine g_aload_n k_Pla_tellOrder_1 rfl rfl ?_
  refine p_getr k_Pla_tellOrder_2 fl_Pla_21 rfl (sk_Pla s) (by decide) (sr_Pla_3 s) ?_
  refine g_iload_n k_Pla_tellOrder_5 rfl rfl ?_
  refine g_iload_n k_Pla_tellOrder_6 rfl rfl ?_
  refine g_cv k_Pla_tellOrder_7 lv_Pla_42 (by decide +kernel) (T := F_Pla) (N := 8) (ci := 4) rfl (sk_Pla s) (s_Pla_tellPair_9 (bc := 0) (bs := 0) (m := m) a (a + 4) x y s (sa_Pla_3 s)) rfl rfl (Nat.le_of_ble_eq_true rfl) (by simp [Value.category]) (by omega) (by omega) (by omega) ?_
  refine g_zret k_Pla_tellOrder_10 rfl z_Pla_tellPair ?_
  exact hq
def v_Pla_tellBar (m : aM) (a : Nat) (x : Int32) (y : Int32) : Int32 := (v_Pla_tellPair_9 m a (a + 5) (if y < x then y else x) (if x < y then y else x))
def u_Pla_tellBar (m : aM) (a : Nat) (x : Int32) (y : Int32) : aM := (u_Pla_tellPair_9 m a (a + 5) (if y < x then y else x) (if x < y then y else x))
theorem s_Pla_tellBar {K : aK} {d bc bs : Nat} {g : aG} {m : aM} (a : Nat) (x : Int32) (y : Int32) (s : ShPla g a) (hd : 1 ≤ d) : Sp K M_Pla_tellBar d bc bs [.ref a, .int x, .int y] (g, m) (some (.int (v_Pla_tellBar m a x y))) (g, u_Pla_tellBar m a x y) := by
  refine sp_of ok_Pla_tellBar rfl (Nat.le_of_ble_eq_true rfl) (by simp [Value.category]) (fun Q hq => ?_)
  refine g_aload_n k_Pla_tellBar_0 rfl rfl ?_
  refine g_aload_n k_Pla_tellBar_1 rfl rfl ?_
  refine p_getr k_Pla_tellBar_2 fl_Pla_25 rfl (sk_Pla s) (by decide) (sr_Pla_4 s) ?_
  refine g_iload_n k_Pla_tellBar_5 rfl rfl ?_
  refine g_iload_n k_Pla_tellBar_6 rfl rfl ?_
  refine g_mn k_Pla_tellBar_7 mw_Pla_46 (Nat.le_of_ble_eq_true rfl) (by omega) ?_
  refine g_iload_n k_Pla_tellBar_10 rfl rfl ?_
  refine g_iload_n k_Pla_tellBar_11 rfl rfl ?_
  refine g_mx k_Pla_tellBar_12 mw_Pla_52 (Nat.le_of_ble_eq_true rfl) (by omega) ?_
  refine g_cv k_Pla_tellBar_15 lv_Pla_42 (by decide +kernel) (T := F_Pla) (N := 8) (ci := 4) rfl (sk_Pla s) (s_Pla_tellPair_9 (bc := 0) (bs := 0) (m := m) a (a + 5) (if y < x then y else x) (if x < y then y else x) s (sa_Pla_4 s)) rfl rfl (Nat.le_of_ble_eq_true rfl) (by simp [Value.category]) (by omega) (by omega) (by omega) ?_
  refine g_zret k_Pla_tellBar_18 rfl z_Pla_tellPair ?_
  exact hq
def lv_Pla_stagesFor_6 (a np : Nat) (c rw : Int32) : Nat → Nat → Int32 → aM → Int32
  | 0, i, st, m => st
  | n + 1, i, st, m => (lv_Pla_stagesFor_6 a np c rw n (i + 1) (if (if (((nI i) * 3) + c) < 0 then 0 else (if 15 ≤ (((nI i) * 3) + c) then 0 else (m (a + 2) ((((nI i) * 3) + c).toNatClampNeg)))) = 2 then (st &&& 60) else (if (if (((nI i) * 3) + c) < 0 then 0 else (if 15 ≤ (((nI i) * 3) + c) then 0 else (m (a + 2) ((((nI i) * 3) + c).toNatClampNeg)))) = 1 then (if (if (((rw : Int32) >>> ((nI i) &&& 31)) &&& 1) = 1 then 1 else 0) = 0 then (if (if (((nI i) * 3) + c) < 0 then 0 else (if 15 ≤ (((nI i) * 3) + c) then 0 else (m (a + 2) ((((nI i) * 3) + c).toNatClampNeg)))) = 1 then (st &&& 15) else st) else (st &&& 60)) else (if (if (((nI i) * 3) + c) < 0 then 0 else (if 15 ≤ (((nI i) * 3) + c) then 0 else (m (a + 2) ((((nI i) * 3) + c).toNatClampNeg)))) = 1 then (st &&& 15) else st))) m)
theorem l_Pla_stagesFor_6 {K : aK} {d bc bs : Nat} {g : aG} (a np : Nat) (c rw : Int32) (s : ShPla g a) (h5 : np ≤ 5) {Q : aQ} : ∀ (n i : Nat) (m : aM) (st : Int32) (v5 : Value) (v6 : Value) (v7 : Value), i + n = np → m a 6 = nI np → Q (.inl (some (.int (lv_Pla_stagesFor_6 a np c rw n i st m)))) (g, m) → G K M_Pla_stagesFor d bc bs 6 [.ref a, .int c, .int rw, .int st, .int (nI i), v5, v6, v7] [] (g, m) Q := by
  intro n
  induction n with
  | zero =>
    intro i m st v5 v6 v7 hi hinv hq
    have hN : i = np := by omega
    refine g_iload k_Pla_stagesFor_6 rfl ?_
    refine g_aload_n k_Pla_stagesFor_8 rfl rfl ?_
    refine p_geti k_Pla_stagesFor_9 fl_Pla_35 rfl (sk_Pla s) (by decide) ?_
    refine g_icmp_ge (tgt := 110) k_Pla_stagesFor_12 (by decide) (fun c_12 => ?_) (fun c_12 => ?_)
    · refine g_iload_n k_Pla_stagesFor_110 rfl rfl ?_
      refine g_iret k_Pla_stagesFor_111 rfl ?_
      simpa only [lv_Pla_stagesFor_6, if_pos c_12] using hq
    · exact absurd (by rw [hinv, hN]; exact nI_le (Nat.le_refl _) (by omega)) c_12
  | succ n ih =>
    intro i m st v5 v6 v7 hi hinv hq
    have hN : i < np := by omega
    refine g_iload k_Pla_stagesFor_6 rfl ?_
    refine g_aload_n k_Pla_stagesFor_8 rfl rfl ?_
    refine p_geti k_Pla_stagesFor_9 fl_Pla_35 rfl (sk_Pla s) (by decide) ?_
    refine g_icmp_ge (tgt := 110) k_Pla_stagesFor_12 (by decide) (fun c_12 => ?_) (fun c_12 => ?_)
    · exact absurd c_12 (by rw [hinv]; exact nI_ge hN (by omega))
    · refine g_iload k_Pla_stagesFor_15 rfl ?_
      refine g_iconst (v := 3) k_Pla_stagesFor_17 rfl ?_
      refine g_imul k_Pla_stagesFor_18 ?_
      refine g_iload_n k_Pla_stagesFor_19 rfl rfl ?_
      refine g_iadd k_Pla_stagesFor_20 ?_
      refine g_istore k_Pla_stagesFor_21 (by decide) ?_
      refine g_iload k_Pla_stagesFor_23 rfl ?_
      have hJ_49 : G K M_Pla_stagesFor d bc bs 49 [.ref a, .int c, .int rw, .int st, .int (nI i), .int (((nI i) * 3) + c), .double 0, .double 0] [.int (if (((nI i) * 3) + c) < 0 then 0 else (if 15 ≤ (((nI i) * 3) + c) then 0 else (m (a + 2) ((((nI i) * 3) + c).toNatClampNeg))))] (g, m) Q := by
        refine g_istore k_Pla_stagesFor_49 (by decide) ?_
        refine g_iload_n k_Pla_stagesFor_51 rfl rfl ?_
        refine g_iload k_Pla_stagesFor_52 rfl ?_
        refine g_ishr k_Pla_stagesFor_54 ?_
        refine g_iconst (v := 1) k_Pla_stagesFor_55 rfl ?_
        refine g_iand k_Pla_stagesFor_56 ?_
        refine g_iconst (v := 1) k_Pla_stagesFor_57 rfl ?_
        have hJ_66 : G K M_Pla_stagesFor d bc bs 66 [.ref a, .int c, .int rw, .int st, .int (nI i), .int (((nI i) * 3) + c), .int (if (((nI i) * 3) + c) < 0 then 0 else (if 15 ≤ (((nI i) * 3) + c) then 0 else (m (a + 2) ((((nI i) * 3) + c).toNatClampNeg)))), .double 0] [.int (if (((rw : Int32) >>> ((nI i) &&& 31)) &&& 1) = 1 then 1 else 0)] (g, m) Q := by
          refine g_istore k_Pla_stagesFor_66 (by decide) ?_
          refine g_iload k_Pla_stagesFor_68 rfl ?_
          refine g_iconst (v := 2) k_Pla_stagesFor_70 rfl ?_
          have hJ_104 : G K M_Pla_stagesFor d bc bs 104 [.ref a, .int c, .int rw, .int (if (if (((nI i) * 3) + c) < 0 then 0 else (if 15 ≤ (((nI i) * 3) + c) then 0 else (m (a + 2) ((((nI i) * 3) + c).toNatClampNeg)))) = 2 then (st &&& 60) else (if (if (((nI i) * 3) + c) < 0 then 0 else (if 15 ≤ (((nI i) * 3) + c) then 0 else (m (a + 2) ((((nI i) * 3) + c).toNatClampNeg)))) = 1 then (if (if (((rw : Int32) >>> ((nI i) &&& 31)) &&& 1) = 1 then 1 else 0) = 0 then (if (if (((nI i) * 3) + c) < 0 then 0 else (if 15 ≤ (((nI i) * 3) + c) then 0 else (m (a + 2) ((((nI i) * 3) + c).toNatClampNeg)))) = 1 then (st &&& 15) else st) else (st &&& 60)) else (if (if (((nI i) * 3) + c) < 0 then 0 else (if 15 ≤ (((nI i) * 3) + c) then 0 else (m (a + 2) ((((nI i) * 3) + c).toNatClampNeg)))) = 1 then (st &&& 15) else st))), .int (nI i), .int (((nI i) * 3) + c), .int (if (((nI i) * 3) + c) < 0 then 0 else (if 15 ≤ (((nI i) * 3) + c) then 0 else (m (a + 2) ((((nI i) * 3) + c).toNatClampNeg)))), .int (if (((rw : Int32) >>> ((nI i) &&& 31)) &&& 1) = 1 then 1 else 0)] [] (g, m) Q := by
            refine g_iinc k_Pla_stagesFor_104 rfl (nIx i) (by decide) ?_
            refine g_goto (tgt := 6) k_Pla_stagesFor_107 (by decide) ?_
            exact ih (i + 1) m (if (if (((nI i) * 3) + c) < 0 then 0 else (if 15 ≤ (((nI i) * 3) + c) then 0 else (m (a + 2) ((((nI i) * 3) + c).toNatClampNeg)))) = 2 then (st &&& 60) else (if (if (((nI i) * 3) + c) < 0 then 0 else (if 15 ≤ (((nI i) * 3) + c) then 0 else (m (a + 2) ((((nI i) * 3) + c).toNatClampNeg)))) = 1 then (if (if (((rw : Int32) >>> ((nI i) &&& 31)) &&& 1) = 1 then 1 else 0) = 0 then (if (if (((nI i) * 3) + c) < 0 then 0 else (if 15 ≤ (((nI i) * 3) + c) then 0 else (m (a + 2) ((((nI i) * 3) + c).toNatClampNeg)))) = 1 then (st &&& 15) else st) else (st &&& 60)) else (if (if (((nI i) * 3) + c) < 0 then 0 else (if 15 ≤ (((nI i) * 3) + c) then 0 else (m (a + 2) ((((nI i) * 3) + c).toNatClampNeg)))) = 1 then (st &&& 15) else st))) _ _ _ (by omega) hinv (by simpa only [lv_Pla_stagesFor_6, if_neg c_12] using hq)
          refine g_icmp_eq (tgt := 85) k_Pla_stagesFor_71 (by decide) (fun c_71 => ?_) (fun c_71 => ?_)
          · refine g_iload_n k_Pla_stagesFor_85 rfl rfl ?_
            refine g_bipush (v := 60) k_Pla_stagesFor_86 rfl ?_
            refine g_iand k_Pla_stagesFor_88 ?_
            refine g_istore_n k_Pla_stagesFor_89 rfl (by decide) ?_
            refine g_goto (tgt := 104) k_Pla_stagesFor_90 (by decide) ?_
            exact G.jn (by first | rfl | simp only [if_neg c_12, if_pos c_71]) (by first | rfl | simp only [if_neg c_12, if_pos c_71]) (by first | rfl | simp only [if_neg c_12, if_pos c_71]) hJ_104
          · refine g_iload k_Pla_stagesFor_74 rfl ?_
            refine g_iconst (v := 1) k_Pla_stagesFor_76 rfl ?_
            refine g_icmp_ne (tgt := 93) k_Pla_stagesFor_77 (by decide) (fun c_77 => ?_) (fun c_77 => ?_)
            · refine g_iload k_Pla_stagesFor_80 rfl ?_
              refine g_if_eq (tgt := 93) k_Pla_stagesFor_82 (by decide) (fun c_82 => ?_) (fun c_82 => ?_)
              · refine g_iload k_Pla_stagesFor_93 rfl ?_
                refine g_iconst (v := 1) k_Pla_stagesFor_95 rfl ?_
                refine g_icmp_ne (tgt := 104) k_Pla_stagesFor_96 (by decide) (fun c_96 => ?_) (fun c_96 => ?_)
                · refine g_iload_n k_Pla_stagesFor_99 rfl rfl ?_
                  refine g_bipush (v := 15) k_Pla_stagesFor_100 rfl ?_
                  refine g_iand k_Pla_stagesFor_102 ?_
                  refine g_istore_n k_Pla_stagesFor_103 rfl (by decide) ?_
                  exact G.jn (by first | rfl | simp only [if_neg c_12, if_neg c_71, if_pos c_77, if_pos c_82, if_pos c_96]) (by first | rfl | simp only [if_neg c_12, if_neg c_71, if_pos c_77, if_pos c_82, if_pos c_96]) (by first | rfl | simp only [if_neg c_12, if_neg c_71, if_pos c_77, if_pos c_82, if_pos c_96]) hJ_104
                · exact G.jn (by first | rfl | simp only [if_neg c_12, if_neg c_71, if_pos c_77, if_pos c_82, if_neg c_96]) (by first | rfl | simp only [if_neg c_12, if_neg c_71, if_pos c_77, if_pos c_82, if_neg c_96]) (by first | rfl | simp only [if_neg c_12, if_neg c_71, if_pos c_77, if_pos c_82, if_neg c_96]) hJ_104
              · refine g_iload_n k_Pla_stagesFor_85 rfl rfl ?_
                refine g_bipush (v := 60) k_Pla_stagesFor_86 rfl ?_
                refine g_iand k_Pla_stagesFor_88 ?_
                refine g_istore_n k_Pla_stagesFor_89 rfl (by decide) ?_
                refine g_goto (tgt := 104) k_Pla_stagesFor_90 (by decide) ?_
                exact G.jn (by first | rfl | simp only [if_neg c_12, if_neg c_71, if_pos c_77, if_neg c_82]) (by first | rfl | simp only [if_neg c_12, if_neg c_71, if_pos c_77, if_neg c_82]) (by first | rfl | simp only [if_neg c_12, if_neg c_71, if_pos c_77, if_neg c_82]) hJ_104
            · refine g_iload k_Pla_stagesFor_93 rfl ?_
              refine g_iconst (v := 1) k_Pla_stagesFor_95 rfl ?_
              refine g_icmp_ne (tgt := 104) k_Pla_stagesFor_96 (by decide) (fun c_96 => ?_) (fun c_96 => ?_)
              · refine g_iload_n k_Pla_stagesFor_99 rfl rfl ?_
                refine g_bipush (v := 15) k_Pla_stagesFor_100 rfl ?_
                refine g_iand k_Pla_stagesFor_102 ?_
                refine g_istore_n k_Pla_stagesFor_103 rfl (by decide) ?_
                exact G.jn (by first | rfl | simp only [if_neg c_12, if_neg c_71, if_neg c_77, if_pos c_96]) (by first | rfl | simp only [if_neg c_12, if_neg c_71, if_neg c_77, if_pos c_96]) (by first | rfl | simp only [if_neg c_12, if_neg c_71, if_neg c_77, if_pos c_96]) hJ_104
              · exact G.jn (by first | rfl | simp only [if_neg c_12, if_neg c_71, if_neg c_77, if_neg c_96]) (by first | rfl | simp only [if_neg c_12, if_neg c_71, if_neg c_77, if_neg c_96]) (by first | rfl | simp only [if_neg c_12, if_neg c_71, if_neg c_77, if_neg c_96]) hJ_104
        refine g_icmp_ne (tgt := 65) k_Pla_stagesFor_58 (by decide) (fun c_58 => ?_) (fun c_58 => ?_)
        · refine g_iconst (v := 1) k_Pla_stagesFor_61 rfl ?_
          refine g_goto (tgt := 66) k_Pla_stagesFor_62 (by decide) ?_
          exact G.jn (by first | rfl | simp only [if_neg c_12, if_pos c_58]) (by first | rfl | simp only [if_neg c_12, if_pos c_58]) (by first | rfl | simp only [if_neg c_12, if_pos c_58]) hJ_66
        · refine g_iconst (v := 0) k_Pla_stagesFor_65 rfl ?_
          exact G.jn (by first | rfl | simp only [if_neg c_12, if_neg c_58]) (by first | rfl | simp only [if_neg c_12, if_neg c_58]) (by first | rfl | simp only [if_neg c_12, if_neg c_58]) hJ_66
      refine g_if_lt (tgt := 48) k_Pla_stagesFor_25 (by decide) (fun c_25 => ?_) (fun c_25 => ?_)
      · refine g_iconst (v := 0) k_Pla_stagesFor_48 rfl ?_
        exact G.jn (by first | rfl | simp only [if_neg c_12, if_pos c_25]) (by first | rfl | simp only [if_neg c_12, if_pos c_25]) (by first | rfl | simp only [if_neg c_12, if_pos c_25]) hJ_49
      · refine g_iload k_Pla_stagesFor_28 rfl ?_
        refine g_aload_n k_Pla_stagesFor_30 rfl rfl ?_
        refine p_getr k_Pla_stagesFor_31 fl_Pla_15 rfl (sk_Pla s) (by decide) (sr_Pla_1 s) ?_
        refine p_alen (v := 15) k_Pla_stagesFor_34 (sa_Pla_1 s) (by decide) rfl ?_
        refine g_icmp_ge (tgt := 48) k_Pla_stagesFor_35 (by decide) (fun c_35 => ?_) (fun c_35 => ?_)
        · refine g_iconst (v := 0) k_Pla_stagesFor_48 rfl ?_
          exact G.jn (by first | rfl | simp only [if_neg c_12, if_neg c_25, if_pos c_35]) (by first | rfl | simp only [if_neg c_12, if_neg c_25, if_pos c_35]) (by first | rfl | simp only [if_neg c_12, if_neg c_25, if_pos c_35]) hJ_49
        · refine g_aload_n k_Pla_stagesFor_38 rfl rfl ?_
          refine p_getr k_Pla_stagesFor_39 fl_Pla_15 rfl (sk_Pla s) (by decide) (sr_Pla_1 s) ?_
          refine g_iload k_Pla_stagesFor_42 rfl ?_
          refine p_iald k_Pla_stagesFor_44 (sa_Pla_1 s) (in_of c_25 c_35 (by decide)) (j := (((nI i) * 3) + c).toNatClampNeg) rfl ?_
          refine g_goto (tgt := 49) k_Pla_stagesFor_45 (by decide) ?_
          exact G.jn (by first | rfl | simp only [if_neg c_12, if_neg c_25, if_neg c_35]) (by first | rfl | simp only [if_neg c_12, if_neg c_25, if_neg c_35]) (by first | rfl | simp only [if_neg c_12, if_neg c_25, if_neg c_35]) hJ_49
