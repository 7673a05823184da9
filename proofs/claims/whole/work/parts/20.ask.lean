/-! Asked -/
def f_sl (x : Int32) : Int32 := if x < 0 then 0 else if 128 ≤ x then 0 else x
def f_slot (p f l w : Int32) : Int32 := f_sl (((p * 2 + f) * 4 + l) * 2 + (if w = 0 then 0 else 1))
theorem f_slot_in (p f l w : Int32) : vp_in (f_slot p f l w) 128 := by
  unfold f_slot f_sl
  generalize ((p * 2 + f) * 4 + l) * 2 + (if w = 0 then 0 else 1) = x
  by_cases h1 : x < 0
  · rw [if_pos h1]; exact vp_in_nI (n := 0) (N := 128) (by decide) (by decide)
  · rw [if_neg h1]
    by_cases h2 : 128 ≤ x
    · rw [if_pos h2]; exact vp_in_nI (n := 0) (N := 128) (by decide) (by decide)
    · rw [if_neg h2]; exact in_of h1 h2 (by decide)
theorem s_Ask_slot {K : aK} {d bc bs : Nat} {h : aH} (p f l w : Int32) : Sp K M_Ask_slot d bc bs [.int p, .int f, .int l, .int w] h (some (.int (f_slot p f l w))) h := by
  refine sp_of ok_Ask_slot rfl (Nat.le_of_ble_eq_true rfl) (by simp [Value.category]) (fun Q hq => ?_)
  unfold f_slot f_sl at hq
  refine g_iload_n k_Ask_slot_0 rfl rfl ?_
  refine g_iconst (v := 2) k_Ask_slot_1 rfl ?_
  refine g_imul k_Ask_slot_2 ?_
  refine g_iload_n k_Ask_slot_3 rfl rfl ?_
  refine g_iadd k_Ask_slot_4 ?_
  refine g_iconst (v := 4) k_Ask_slot_5 rfl ?_
  refine g_imul k_Ask_slot_6 ?_
  refine g_iload_n k_Ask_slot_7 rfl rfl ?_
  refine g_iadd k_Ask_slot_8 ?_
  refine g_iconst (v := 2) k_Ask_slot_9 rfl ?_
  refine g_imul k_Ask_slot_10 ?_
  refine g_iload_n k_Ask_slot_11 rfl rfl ?_
  refine g_if_eq (tgt := 19) k_Ask_slot_12 (by decide) (fun c_12 => ?_) (fun c_12 => ?_)
  · refine g_iconst (v := 0) k_Ask_slot_19 rfl ?_
    refine g_iadd k_Ask_slot_20 ?_
    refine g_istore k_Ask_slot_21 (by decide) ?_
    refine g_iload k_Ask_slot_23 rfl ?_
    refine g_if_lt (tgt := 41) k_Ask_slot_25 (by decide) (fun c_25 => ?_) (fun c_25 => ?_)
    · refine g_iconst (v := 0) k_Ask_slot_41 rfl ?_
      refine g_iret k_Ask_slot_42 rfl ?_
      simpa only [if_pos c_12, if_pos c_25] using hq
    · refine g_iload k_Ask_slot_28 rfl ?_
      refine g_sipush (v := 128) k_Ask_slot_30 rfl ?_
      refine g_icmp_ge (tgt := 41) k_Ask_slot_33 (by decide) (fun c_33 => ?_) (fun c_33 => ?_)
      · refine g_iconst (v := 0) k_Ask_slot_41 rfl ?_
        refine g_iret k_Ask_slot_42 rfl ?_
        simpa only [if_pos c_12, if_neg c_25, if_pos c_33] using hq
      · refine g_iload k_Ask_slot_36 rfl ?_
        refine g_goto (tgt := 42) k_Ask_slot_38 (by decide) ?_
        refine g_iret k_Ask_slot_42 rfl ?_
        simpa only [if_pos c_12, if_neg c_25, if_neg c_33] using hq
  · refine g_iconst (v := 1) k_Ask_slot_15 rfl ?_
    refine g_goto (tgt := 20) k_Ask_slot_16 (by decide) ?_
    refine g_iadd k_Ask_slot_20 ?_
    refine g_istore k_Ask_slot_21 (by decide) ?_
    refine g_iload k_Ask_slot_23 rfl ?_
    refine g_if_lt (tgt := 41) k_Ask_slot_25 (by decide) (fun c_25 => ?_) (fun c_25 => ?_)
    · refine g_iconst (v := 0) k_Ask_slot_41 rfl ?_
      refine g_iret k_Ask_slot_42 rfl ?_
      simpa only [if_neg c_12, if_pos c_25] using hq
    · refine g_iload k_Ask_slot_28 rfl ?_
      refine g_sipush (v := 128) k_Ask_slot_30 rfl ?_
      refine g_icmp_ge (tgt := 41) k_Ask_slot_33 (by decide) (fun c_33 => ?_) (fun c_33 => ?_)
      · refine g_iconst (v := 0) k_Ask_slot_41 rfl ?_
        refine g_iret k_Ask_slot_42 rfl ?_
        simpa only [if_neg c_12, if_neg c_25, if_pos c_33] using hq
      · refine g_iload k_Ask_slot_36 rfl ?_
        refine g_goto (tgt := 42) k_Ask_slot_38 (by decide) ?_
        refine g_iret k_Ask_slot_42 rfl ?_
        simpa only [if_neg c_12, if_neg c_25, if_neg c_33] using hq
theorem s_Ask_note {K : aK} {d bc bs : Nat} {g : aG} {m : aM} {a : Nat} (s : ShAsk g a) (p f l w t : Int32) (hd : 1 ≤ d) : Sp K M_Ask_note d bc bs [.ref a, .int p, .int f, .int l, .int w, .int t] (g, m) none (g, a_st m (a + 1) (f_slot p f l w).toNatClampNeg t) := by
  refine sp_of ok_Ask_note rfl (Nat.le_of_ble_eq_true rfl) (by simp [Value.category]) (fun Q hq => ?_)
  refine g_aload_n k_Ask_note_0 rfl rfl ?_
  refine p_getr k_Ask_note_1 fl_Ask_11 rfl (sk_Ask s) (by decide) (sr_Ask_0 s) ?_
  refine g_iload_n k_Ask_note_4 rfl rfl ?_
  refine g_iload_n k_Ask_note_5 rfl rfl ?_
  refine g_iload_n k_Ask_note_6 rfl rfl ?_
  refine g_iload k_Ask_note_7 rfl ?_
  refine g_cs k_Ask_note_9 ls_Ask_15 (by decide +kernel) (s_Ask_slot (bc := 0) (bs := 0) p f l w) rfl rfl (Nat.le_of_ble_eq_true rfl) (by simp [Value.category]) (by omega) (by omega) (by omega) ?_
  refine g_iload k_Ask_note_12 rfl ?_
  refine p_iast k_Ask_note_14 (sa_Ask_0 s) (f_slot_in _ _ _ _) rfl ?_
  refine g_vret k_Ask_note_15 rfl ?_
  exact hq
theorem s_Ask_latest {K : aK} {d bc bs : Nat} {g : aG} {m : aM} {a : Nat} (s : ShAsk g a) (p f l w : Int32) (hd : 1 ≤ d) : Sp K M_Ask_latest d bc bs [.ref a, .int p, .int f, .int l, .int w] (g, m) (some (.int (m (a + 1) (f_slot p f l w).toNatClampNeg))) (g, m) := by
  refine sp_of ok_Ask_latest rfl (Nat.le_of_ble_eq_true rfl) (by simp [Value.category]) (fun Q hq => ?_)
  refine g_aload_n k_Ask_latest_0 rfl rfl ?_
  refine p_getr k_Ask_latest_1 fl_Ask_11 rfl (sk_Ask s) (by decide) (sr_Ask_0 s) ?_
  refine g_iload_n k_Ask_latest_4 rfl rfl ?_
  refine g_iload_n k_Ask_latest_5 rfl rfl ?_
  refine g_iload_n k_Ask_latest_6 rfl rfl ?_
  refine g_iload k_Ask_latest_7 rfl ?_
  refine g_cs k_Ask_latest_9 ls_Ask_15 (by decide +kernel) (s_Ask_slot (bc := 0) (bs := 0) p f l w) rfl rfl (Nat.le_of_ble_eq_true rfl) (by simp [Value.category]) (by omega) (by omega) (by omega) ?_
  refine p_iald k_Ask_latest_12 (sa_Ask_0 s) (f_slot_in _ _ _ _) rfl ?_
  refine g_iret k_Ask_latest_13 rfl ?_
  exact hq
def askT (m : aM) (a : Nat) (p l : Int32) : Int32 := if m (a + 1) (f_slot p 0 l 0).toNatClampNeg < m (a + 1) (f_slot p 0 l 1).toNatClampNeg then m (a + 1) (f_slot p 0 l 1).toNatClampNeg else m (a + 1) (f_slot p 0 l 0).toNatClampNeg
def askB (m : aM) (a : Nat) (l fr : Int32) : Nat → Int32
  | 0 => 0
  | n + 1 => askB m a l fr n ||| (if askT m a (nI n) l = -1 then (0 : Int32) else if askT m a (nI n) l < fr then 0 else (1 : Int32) <<< (nI n &&& 31))
theorem l_Ask_oldAskers {K : aK} {d bc bs : Nat} {g : aG} {m : aM} {a : Nat} (s : ShAsk g a) (l fr : Int32) (hd : 2 ≤ d) {Q : aQ} (hq : Q (.inl (some (.int (askB m a l fr 8)))) (g, m)) : ∀ (n i : Nat) (v : Value), i + n = 8 → G K M_Ask_oldAskers d bc bs 5 [.ref a, .int l, .int fr, .int (askB m a l fr i), .int (nI i), v] [] (g, m) Q := by
  intro n
  induction n with
  | zero =>
    intro i v hi
    obtain rfl : i = 8 := by omega
    refine g_iload k_Ask_oldAskers_5 rfl ?_
    refine g_bipush (v := 8) k_Ask_oldAskers_7 rfl ?_
    refine g_icmp_ge (tgt := 64) k_Ask_oldAskers_9 (by decide) (fun c_9 => ?_) (fun c_9 => ?_)
    · refine g_iload_n k_Ask_oldAskers_64 rfl rfl ?_
      refine g_iret k_Ask_oldAskers_65 rfl ?_
      exact hq
    · exact absurd (nI_le (Nat.le_refl 8) (by decide)) c_9
  | succ n ih =>
    intro i v hi
    have hi8 : i < 8 := by omega
    refine g_iload k_Ask_oldAskers_5 rfl ?_
    refine g_bipush (v := 8) k_Ask_oldAskers_7 rfl ?_
    refine g_icmp_ge (tgt := 64) k_Ask_oldAskers_9 (by decide) (fun c_9 => ?_) (fun c_9 => ?_)
    · exact absurd c_9 (nI_ge hi8 (by decide))
    · refine g_aload_n k_Ask_oldAskers_12 rfl rfl ?_
      refine g_iload k_Ask_oldAskers_13 rfl ?_
      refine g_iconst (v := 0) k_Ask_oldAskers_15 rfl ?_
      refine g_iload_n k_Ask_oldAskers_16 rfl rfl ?_
      refine g_iconst (v := 0) k_Ask_oldAskers_17 rfl ?_
      refine g_cv k_Ask_oldAskers_18 lv_Ask_19 (by decide +kernel) (T := F_Ask) (N := 1) (ci := 0) rfl (sk_Ask s) (s_Ask_latest s (bc := 0) (bs := 0) (nI i) 0 l 0 (by omega)) rfl rfl (Nat.le_of_ble_eq_true rfl) (by simp [Value.category]) (by omega) (by omega) (by omega) ?_
      refine g_aload_n k_Ask_oldAskers_21 rfl rfl ?_
      refine g_iload k_Ask_oldAskers_22 rfl ?_
      refine g_iconst (v := 0) k_Ask_oldAskers_24 rfl ?_
      refine g_iload_n k_Ask_oldAskers_25 rfl rfl ?_
      refine g_iconst (v := 1) k_Ask_oldAskers_26 rfl ?_
      refine g_cv k_Ask_oldAskers_27 lv_Ask_19 (by decide +kernel) (T := F_Ask) (N := 1) (ci := 0) rfl (sk_Ask s) (s_Ask_latest s (bc := 0) (bs := 0) (nI i) 0 l 1 (by omega)) rfl rfl (Nat.le_of_ble_eq_true rfl) (by simp [Value.category]) (by omega) (by omega) (by omega) ?_
      refine g_mx k_Ask_oldAskers_30 mw_Ask_22 (Nat.le_of_ble_eq_true rfl) (by omega) ?_
      refine G.v (y := askT m a (nI i) l) rfl ?_
      refine g_istore k_Ask_oldAskers_33 (by decide) ?_
      refine g_iload_n k_Ask_oldAskers_35 rfl rfl ?_
      refine g_iload k_Ask_oldAskers_36 rfl ?_
      refine g_iconst (v := (-1)) k_Ask_oldAskers_38 rfl ?_
      refine g_icmp_eq (tgt := 55) k_Ask_oldAskers_39 (by decide) (fun c_39 => ?_) (fun c_39 => ?_)
      · refine g_iconst (v := 0) k_Ask_oldAskers_55 rfl ?_
        refine g_ior k_Ask_oldAskers_56 ?_
        refine G.v (y := askB m a l fr (i + 1)) (by simp only [askB, if_neg c_9, if_pos c_39]) ?_
        refine g_istore_n k_Ask_oldAskers_57 rfl (by decide) ?_
        refine g_iinc k_Ask_oldAskers_58 rfl (nIx i) (by decide) ?_
        refine g_goto (tgt := 5) k_Ask_oldAskers_61 (by decide) ?_
        exact ih (i + 1) _ (by omega)
      · refine g_iload k_Ask_oldAskers_42 rfl ?_
        refine g_iload_n k_Ask_oldAskers_44 rfl rfl ?_
        refine g_icmp_lt (tgt := 55) k_Ask_oldAskers_45 (by decide) (fun c_45 => ?_) (fun c_45 => ?_)
        · refine g_iconst (v := 0) k_Ask_oldAskers_55 rfl ?_
          refine g_ior k_Ask_oldAskers_56 ?_
          refine G.v (y := askB m a l fr (i + 1)) (by simp only [askB, if_neg c_9, if_neg c_39, if_pos c_45]) ?_
          refine g_istore_n k_Ask_oldAskers_57 rfl (by decide) ?_
          refine g_iinc k_Ask_oldAskers_58 rfl (nIx i) (by decide) ?_
          refine g_goto (tgt := 5) k_Ask_oldAskers_61 (by decide) ?_
          exact ih (i + 1) _ (by omega)
        · refine g_iconst (v := 1) k_Ask_oldAskers_48 rfl ?_
          refine g_iload k_Ask_oldAskers_49 rfl ?_
          refine g_ishl k_Ask_oldAskers_51 ?_
          refine g_goto (tgt := 56) k_Ask_oldAskers_52 (by decide) ?_
          refine g_ior k_Ask_oldAskers_56 ?_
          refine G.v (y := askB m a l fr (i + 1)) (by simp only [askB, if_neg c_9, if_neg c_39, if_neg c_45]) ?_
          refine g_istore_n k_Ask_oldAskers_57 rfl (by decide) ?_
          refine g_iinc k_Ask_oldAskers_58 rfl (nIx i) (by decide) ?_
          refine g_goto (tgt := 5) k_Ask_oldAskers_61 (by decide) ?_
          exact ih (i + 1) _ (by omega)
theorem s_Ask_oldAskers {K : aK} {d bc bs : Nat} {g : aG} {m : aM} {a : Nat} (s : ShAsk g a) (l fr : Int32) (hd : 2 ≤ d) : Sp K M_Ask_oldAskers d bc bs [.ref a, .int l, .int fr] (g, m) (some (.int (askB m a l fr 8))) (g, m) := by
  refine sp_of ok_Ask_oldAskers rfl (Nat.le_of_ble_eq_true rfl) (by simp [Value.category]) (fun Q hq => ?_)
  refine g_iconst (v := 0) k_Ask_oldAskers_0 rfl ?_
  refine g_istore_n k_Ask_oldAskers_1 rfl (by decide) ?_
  refine g_iconst (v := 0) k_Ask_oldAskers_2 rfl ?_
  refine g_istore k_Ask_oldAskers_3 (by decide) ?_
  exact l_Ask_oldAskers s l fr hd hq 8 0 _ rfl
def askO (m : aM) (a : Nat) (fr : Int32) : Nat → Nat → Int32
  | _, 0 => 0
  | i, n + 1 => if askB m a (nI i) fr 8 = 0 then askO m a fr (i + 1) n else 1
theorem l_Ask_isOldAsked {K : aK} {d bc bs : Nat} {g : aG} {m : aM} {a : Nat} (s : ShAsk g a) (fr : Int32) (hd : 3 ≤ d) {Q : aQ} : ∀ (n i : Nat), i + n = 4 → Q (.inl (some (.int (askO m a fr i n)))) (g, m) → G K M_Ask_isOldAsked d bc bs 2 [.ref a, .int fr, .int (nI i)] [] (g, m) Q := by
  intro n
  induction n with
  | zero =>
    intro i hi hq
    obtain rfl : i = 4 := by omega
    refine g_iload_n k_Ask_isOldAsked_2 rfl rfl ?_
    refine g_iconst (v := 4) k_Ask_isOldAsked_3 rfl ?_
    refine g_icmp_ge (tgt := 24) k_Ask_isOldAsked_4 (by decide) (fun c_4 => ?_) (fun c_4 => ?_)
    · refine g_iconst (v := 0) k_Ask_isOldAsked_24 rfl ?_
      refine g_zret k_Ask_isOldAsked_25 rfl (by simp) ?_
      exact hq
    · exact absurd (nI_le (Nat.le_refl 4) (by decide)) c_4
  | succ n ih =>
    intro i hi hq
    have hi4 : i < 4 := by omega
    unfold askO at hq
    refine g_iload_n k_Ask_isOldAsked_2 rfl rfl ?_
    refine g_iconst (v := 4) k_Ask_isOldAsked_3 rfl ?_
    refine g_icmp_ge (tgt := 24) k_Ask_isOldAsked_4 (by decide) (fun c_4 => ?_) (fun c_4 => ?_)
    · exact absurd c_4 (nI_ge hi4 (by decide))
    · refine g_aload_n k_Ask_isOldAsked_7 rfl rfl ?_
      refine g_iload_n k_Ask_isOldAsked_8 rfl rfl ?_
      refine g_iload_n k_Ask_isOldAsked_9 rfl rfl ?_
      refine g_cv k_Ask_isOldAsked_10 lv_Ask_28 (by decide +kernel) (T := F_Ask) (N := 1) (ci := 0) rfl (sk_Ask s) (s_Ask_oldAskers s (bc := 0) (bs := 0) (nI i) fr (by omega)) rfl rfl (Nat.le_of_ble_eq_true rfl) (by simp [Value.category]) (by omega) (by omega) (by omega) ?_
      refine g_if_eq (tgt := 18) k_Ask_isOldAsked_13 (by decide) (fun c_13 => ?_) (fun c_13 => ?_)
      · refine g_iinc k_Ask_isOldAsked_18 rfl (nIx i) (by decide) ?_
        refine g_goto (tgt := 2) k_Ask_isOldAsked_21 (by decide) ?_
        exact ih (i + 1) (by omega) (by simpa only [if_neg c_4, if_pos c_13] using hq)
      · refine g_iconst (v := 1) k_Ask_isOldAsked_16 rfl ?_
        refine g_zret k_Ask_isOldAsked_17 rfl (by simp) ?_
        simpa only [if_neg c_4, if_neg c_13] using hq
theorem s_Ask_isOldAsked {K : aK} {d bc bs : Nat} {g : aG} {m : aM} {a : Nat} (s : ShAsk g a) (fr : Int32) (hd : 3 ≤ d) : Sp K M_Ask_isOldAsked d bc bs [.ref a, .int fr] (g, m) (some (.int (askO m a fr 0 4))) (g, m) := by
  refine sp_of ok_Ask_isOldAsked rfl (Nat.le_of_ble_eq_true rfl) (by simp [Value.category]) (fun Q hq => ?_)
  refine g_iconst (v := 0) k_Ask_isOldAsked_0 rfl ?_
  refine g_istore_n k_Ask_isOldAsked_1 rfl (by decide) ?_
  exact l_Ask_isOldAsked s fr hd 4 0 rfl hq
