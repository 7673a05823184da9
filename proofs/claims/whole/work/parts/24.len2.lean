/-! Lens: rows seen and put back -/
theorem w_at_cong {x : Int32} {f f' : Nat → Int32} (h : ∀ j, j < 4 → f j = f' j) : w_at x f = w_at x f' := by
  unfold w_at
  by_cases h1 : x < 0
  · rw [if_pos h1, if_pos h1]
  · rw [if_neg h1, if_neg h1]
    by_cases h2 : 4 ≤ x
    · rw [if_pos h2, if_pos h2]
    · rw [if_neg h2, if_neg h2]
      have := in_of (n := 4) h1 h2 (by decide)
      exact h _ (Nat.not_le.mp fun q => this (Or.inr q))
theorem wkR_cong {o p : Nat → Int32} {e : Int32} {ol fr ol' fr' : Nat → Int32} (h1 : ∀ j, j < 4 → ol j = ol' j) (h2 : ∀ j, j < 4 → fr j = fr' j) : ∀ (n t : Nat) (i : Int32) (w : Nat → Int32), wkR o p e ol fr n t i w = wkR o p e ol' fr' n t i w := by
  have hv : ∀ q x, w_val q x ol fr = w_val q x ol' fr' := fun q x => by unfold w_val; rw [w_at_cong h1, w_at_cong h2]
  intro n
  induction n with
  | zero => intro t i w; rfl
  | succ n ih =>
    intro t i w
    rw [wkR.eq_def, wkR.eq_def o p e ol' fr' (n + 1) t i w]
    dsimp only
    rw [hv, ih, ih (t + 1)]
    cases t with
    | zero => rfl
    | succ u =>
      dsimp only
      rw [ih, ih (u + 1)]
      cases u with
      | zero => rfl
      | succ x => dsimp only; rw [ih]
theorem wkV_cong {o p : Nat → Int32} {s e : Int32} {ol fr ol' fr' : Nat → Int32} (h1 : ∀ j, j < 4 → ol j = ol' j) (h2 : ∀ j, j < 4 → fr j = fr' j) : wkV o p s e ol fr = wkV o p s e ol' fr' := wkR_cong h1 h2 400 0 s _
/-- a NEW letter seen, an OLD one put back, by what the cells at a hold -/
def seeF (m : aM) (a j : Nat) (ol : Nat → Int32) : Int32 := wkV (m (a + 1)) (m (a + 2)) (m (a + 3) (4 + j)) (m (a + 4) (4 + j)) ol ol
def putF (m : aM) (a j : Nat) (fr be : Nat → Int32) : Int32 := if m (a + 4) j ≤ m (a + 3) j then be j else wkV (m (a + 1)) (m (a + 2)) (m (a + 3) j) (m (a + 4) j) be fr
def besF (m : aM) (a j : Nat) (ol : Nat → Int32) : Int32 := if m (a + 7) j = 0 then 0 else ol j
def lawF (m : aM) (a k : Nat) (fr be : Nat → Int32) : Int32 := wkV (m (a + 1)) (m (a + 2)) (m (a + 5) k) (m (a + 6) k) be fr
/-- an array is none of a Lens's -/
def offL (a q : Nat) : Prop := ∀ k, k ≤ 8 → q ≠ a + k
theorem offL.ne {a q : Nat} (h : offL a q) (k : Nat) (hk : k ≤ 8) : a + k ≠ q := fun e => h k hk e.symm

theorem l_Len_toNew {K : aK} {d bc bs : Nat} {g : aG} {a po pn : Nat} (s : ShLen g a) (ho : g.2.1 po = (0, 4)) (hn : g.2.1 pn = (0, 4)) (oo : offL a po) (on : offL a pn) (ne : po ≠ pn) (hd : 3 ≤ d) (m0 : aM) {Q : aQ} (hq : ∀ m', Ag (fun b => b = a + 8 ∨ b = pn) m0 m' → (∀ j, j < 4 → m' pn j = seeF m0 a j (m0 po)) → Q (.inl none) (g, m')) : ∀ (n i : Nat) (m : aM) (v : Value), i + n = 4 → Ag (fun b => b = a + 8 ∨ b = pn) m0 m → (∀ j, j < i → m pn j = seeF m0 a j (m0 po)) → G K M_Len_toNew d bc bs 2 [.ref a, .ref po, .ref pn, .int (nI i), v] [] (g, m) Q := by
  intro n
  induction n with
  | zero =>
    intro i m v hi hag hv
    obtain rfl : i = 4 := by omega
    refine g_iload_n k_Len_toNew_2 rfl rfl ?_
    refine g_iconst (v := 4) k_Len_toNew_3 rfl ?_
    refine g_icmp_ge (tgt := 47) k_Len_toNew_4 (by decide) (fun c_4 => ?_) (fun c_4 => ?_)
    · refine g_vret k_Len_toNew_47 rfl ?_
      exact hq m hag hv
    · exact absurd (nI_le (Nat.le_refl 4) (by decide)) c_4
  | succ n ih =>
    intro i m v hi hag hv
    have hi4 : i < 4 := by omega
    have e1 : m (a + 1) = m0 (a + 1) := hag _ (fun q => q.elim (by omega) (oo.ne 1 (by omega) |> fun _ => on.ne 1 (by omega)))
    have e2 : m (a + 2) = m0 (a + 2) := hag _ (fun q => q.elim (by omega) (on.ne 2 (by omega)))
    have e3 : m (a + 3) = m0 (a + 3) := hag _ (fun q => q.elim (by omega) (on.ne 3 (by omega)))
    have e4 : m (a + 4) = m0 (a + 4) := hag _ (fun q => q.elim (by omega) (on.ne 4 (by omega)))
    have eo : m po = m0 po := hag _ (fun q => q.elim (oo 8 (by omega)) ne)
    refine g_iload_n k_Len_toNew_2 rfl rfl ?_
    refine g_iconst (v := 4) k_Len_toNew_3 rfl ?_
    refine g_icmp_ge (tgt := 47) k_Len_toNew_4 (by decide) (fun c_4 => ?_) (fun c_4 => ?_)
    · exact absurd c_4 (nI_ge hi4 (by decide))
    · refine g_iload_n k_Len_toNew_7 rfl rfl ?_
      refine g_aload_n k_Len_toNew_8 rfl rfl ?_
      refine p_alen (v := 4) k_Len_toNew_9 hn (by decide) rfl ?_
      refine g_icmp_ge (tgt := 47) k_Len_toNew_10 (by decide) (fun c_10 => ?_) (fun c_10 => ?_)
      · exact absurd c_10 (nI_ge hi4 (by decide))
      · refine g_iconst (v := 4) k_Len_toNew_13 rfl ?_
        refine g_iload_n k_Len_toNew_14 rfl rfl ?_
        refine g_iadd k_Len_toNew_15 ?_
        refine g_istore k_Len_toNew_16 (by decide) ?_
        refine g_aload_n k_Len_toNew_18 rfl rfl ?_
        refine g_iload_n k_Len_toNew_19 rfl rfl ?_
        refine g_aload_n k_Len_toNew_20 rfl rfl ?_
        refine g_aload_n k_Len_toNew_21 rfl rfl ?_
        refine p_getr k_Len_toNew_22 fl_Len_18 rfl (sk_Len s) (by decide) (sr_Len_3 s) ?_
        refine g_iload k_Len_toNew_25 rfl ?_
        refine p_iald k_Len_toNew_27 (sa_Len_3 s) (by rw [show (4 : Int32) = nI 4 from rfl, nI_add]; exact vp_in_nI (n := 4 + i) (N := 8) (by omega) (by decide)) (j := 4 + i) (by rw [show (4 : Int32) = nI 4 from rfl, nI_add]; exact nI_clamp (by omega)) ?_
        refine g_aload_n k_Len_toNew_28 rfl rfl ?_
        refine p_getr k_Len_toNew_29 fl_Len_21 rfl (sk_Len s) (by decide) (sr_Len_4 s) ?_
        refine g_iload k_Len_toNew_32 rfl ?_
        refine p_iald k_Len_toNew_34 (sa_Len_4 s) (by rw [show (4 : Int32) = nI 4 from rfl, nI_add]; exact vp_in_nI (n := 4 + i) (N := 8) (by omega) (by decide)) (j := 4 + i) (by rw [show (4 : Int32) = nI 4 from rfl, nI_add]; exact nI_clamp (by omega)) ?_
        refine g_aload_n k_Len_toNew_35 rfl rfl ?_
        refine g_aload_n k_Len_toNew_36 rfl rfl ?_
        refine g_cvR k_Len_toNew_37 lv_Len_57 (by decide +kernel) (T := F_Len) (N := 11) (ci := 2) rfl (sk_Len s) (s_Len_work s (bc := 0) (bs := 0) ho ho (oo 8 (by omega)) (oo 8 (by omega)) _ _ (by omega)) rfl rfl (Nat.le_of_ble_eq_true rfl) (by simp [Value.category]) (by omega) (by omega) (by omega) (fun v9 h9 hP9 => ?_)
        obtain ⟨m1, rfl, rfl, h1⟩ := hP9
        refine G.v (y := seeF m0 a i (m0 po)) (by rw [e1, e2, e3, e4, eo]; rfl) ?_
        refine p_iast k_Len_toNew_40 hn (vp_in_nI (n := i) (N := 4) hi4 (by decide)) (j := i) (nI_clamp (by omega)) ?_
        refine g_iinc k_Len_toNew_41 rfl (nIx i) (by decide) ?_
        refine g_goto (tgt := 2) k_Len_toNew_44 (by decide) ?_
        exact ih (i + 1) _ _ (by omega) ((hag.tr (h1.mono (fun b hb => Or.inl hb))).st (Or.inr rfl)) (fun j hj => by
      by_cases hji : j = i
      · subst hji; exact a_st_self
      · rw [a_st_no (fun q => hji q.2), h1 pn (on 8 (by omega))]; exact hv j (by omega))
theorem s_Len_toNew {K : aK} {d bc bs : Nat} {g : aG} {a po pn : Nat} (s : ShLen g a) (ho : g.2.1 po = (0, 4)) (hn : g.2.1 pn = (0, 4)) (oo : offL a po) (on : offL a pn) (ne : po ≠ pn) (hd : 3 ≤ d) (m : aM) : SpR K M_Len_toNew d bc bs [.ref a, .ref po, .ref pn] (g, m) (fun v h' => v = none ∧ ∃ m', h' = (g, m') ∧ Ag (fun b => b = a + 8 ∨ b = pn) m m' ∧ ∀ j, j < 4 → m' pn j = seeF m a j (m po)) := by
  refine spr_of ok_Len_toNew rfl (Nat.le_of_ble_eq_true rfl) (by simp [Value.category]) (fun Q hq => ?_)
  refine g_iconst (v := 0) k_Len_toNew_0 rfl ?_
  refine g_istore_n k_Len_toNew_1 rfl (by decide) ?_
  exact l_Len_toNew s ho hn oo on ne hd m (fun m9 h9 h8 => hq _ _ ⟨rfl, m9, rfl, h9, h8⟩) 4 0 m _ rfl Ag.rf (fun j hj => absurd hj (Nat.not_lt_zero j))
theorem l_Len_toBeside {K : aK} {d bc bs : Nat} {g : aG} {a po pn : Nat} (s : ShLen g a) (ho : g.2.1 po = (0, 4)) (hn : g.2.1 pn = (0, 4)) (oo : offL a po) (on : offL a pn) (ne : po ≠ pn) (m0 : aM) {Q : aQ} (hq : ∀ m', Ag (fun b => b = pn) m0 m' → (∀ j, j < 4 → m' pn j = besF m0 a j (m0 po)) → Q (.inl none) (g, m')) : ∀ (n i : Nat) (m : aM), i + n = 4 → Ag (fun b => b = pn) m0 m → (∀ j, j < i → m pn j = besF m0 a j (m0 po)) → G K M_Len_toBeside d bc bs 2 [.ref a, .ref po, .ref pn, .int (nI i)] [] (g, m) Q := by
  intro n
  induction n with
  | zero =>
    intro i m hi hag hv
    obtain rfl : i = 4 := by omega
    refine g_iload_n k_Len_toBeside_2 rfl rfl ?_
    refine g_iconst (v := 4) k_Len_toBeside_3 rfl ?_
    refine g_icmp_ge (tgt := 44) k_Len_toBeside_4 (by decide) (fun c_4 => ?_) (fun c_4 => ?_)
    · refine g_vret k_Len_toBeside_44 rfl ?_
      exact hq m hag hv
    · exact absurd (nI_le (Nat.le_refl 4) (by decide)) c_4
  | succ n ih =>
    intro i m hi hag hv
    have hi4 : i < 4 := by omega
    have e7 : m (a + 7) = m0 (a + 7) := hag _ (on.ne 7 (by omega))
    have eo : m po = m0 po := hag _ ne
    refine g_iload_n k_Len_toBeside_2 rfl rfl ?_
    refine g_iconst (v := 4) k_Len_toBeside_3 rfl ?_
    refine g_icmp_ge (tgt := 44) k_Len_toBeside_4 (by decide) (fun c_4 => ?_) (fun c_4 => ?_)
    · exact absurd c_4 (nI_ge hi4 (by decide))
    · refine g_iload_n k_Len_toBeside_7 rfl rfl ?_
      refine g_aload_n k_Len_toBeside_8 rfl rfl ?_
      refine p_alen (v := 4) k_Len_toBeside_9 ho (by decide) rfl ?_
      refine g_icmp_ge (tgt := 44) k_Len_toBeside_10 (by decide) (fun c_10 => ?_) (fun c_10 => ?_)
      · exact absurd c_10 (nI_ge hi4 (by decide))
      · refine g_iload_n k_Len_toBeside_13 rfl rfl ?_
        refine g_aload_n k_Len_toBeside_14 rfl rfl ?_
        refine p_alen (v := 4) k_Len_toBeside_15 hn (by decide) rfl ?_
        refine g_icmp_ge (tgt := 44) k_Len_toBeside_16 (by decide) (fun c_16 => ?_) (fun c_16 => ?_)
        · exact absurd c_16 (nI_ge hi4 (by decide))
        · refine g_aload_n k_Len_toBeside_19 rfl rfl ?_
          refine g_iload_n k_Len_toBeside_20 rfl rfl ?_
          refine g_aload_n k_Len_toBeside_21 rfl rfl ?_
          refine p_getr k_Len_toBeside_22 fl_Len_30 rfl (sk_Len s) (by decide) (sr_Len_8 s) ?_
          refine g_iload_n k_Len_toBeside_25 rfl rfl ?_
          refine p_zald k_Len_toBeside_26 (sa_Len_8 s) (vp_in_nI (n := i) (N := 4) hi4 (by decide)) (j := i) (nI_clamp (by omega)) ?_
          refine g_if_eq (tgt := 36) k_Len_toBeside_27 (by decide) (fun c_27 => ?_) (fun c_27 => ?_)
          · refine g_iconst (v := 0) k_Len_toBeside_36 rfl ?_
            refine G.v (y := besF m0 a i (m0 po)) (by rw [e7] at c_27; simp only [besF, if_neg c_4, if_neg c_10, if_neg c_16, if_pos c_27, eo]) ?_
            refine p_iast k_Len_toBeside_37 hn (vp_in_nI (n := i) (N := 4) hi4 (by decide)) (j := i) (nI_clamp (by omega)) ?_
            refine g_iinc k_Len_toBeside_38 rfl (nIx i) (by decide) ?_
            refine g_goto (tgt := 2) k_Len_toBeside_41 (by decide) ?_
            exact ih (i + 1) _ (by omega) (hag.st rfl) (fun j hj => by
      by_cases hji : j = i
      · subst hji; exact a_st_self
      · rw [a_st_no (fun q => hji q.2)]; exact hv j (by omega))
          · refine g_aload_n k_Len_toBeside_30 rfl rfl ?_
            refine g_iload_n k_Len_toBeside_31 rfl rfl ?_
            refine p_iald k_Len_toBeside_32 ho (vp_in_nI (n := i) (N := 4) hi4 (by decide)) (j := i) (nI_clamp (by omega)) ?_
            refine g_goto (tgt := 37) k_Len_toBeside_33 (by decide) ?_
            refine G.v (y := besF m0 a i (m0 po)) (by rw [e7] at c_27; simp only [besF, if_neg c_4, if_neg c_10, if_neg c_16, if_neg c_27, eo]) ?_
            refine p_iast k_Len_toBeside_37 hn (vp_in_nI (n := i) (N := 4) hi4 (by decide)) (j := i) (nI_clamp (by omega)) ?_
            refine g_iinc k_Len_toBeside_38 rfl (nIx i) (by decide) ?_
            refine g_goto (tgt := 2) k_Len_toBeside_41 (by decide) ?_
            exact ih (i + 1) _ (by omega) (hag.st rfl) (fun j hj => by
      by_cases hji : j = i
      · subst hji; exact a_st_self
      · rw [a_st_no (fun q => hji q.2)]; exact hv j (by omega))
theorem s_Len_toBeside {K : aK} {d bc bs : Nat} {g : aG} {a po pn : Nat} (s : ShLen g a) (ho : g.2.1 po = (0, 4)) (hn : g.2.1 pn = (0, 4)) (oo : offL a po) (on : offL a pn) (ne : po ≠ pn) (m : aM) : SpR K M_Len_toBeside d bc bs [.ref a, .ref po, .ref pn] (g, m) (fun v h' => v = none ∧ ∃ m', h' = (g, m') ∧ Ag (fun b => b = pn) m m' ∧ ∀ j, j < 4 → m' pn j = besF m a j (m po)) := by
  refine spr_of ok_Len_toBeside rfl (Nat.le_of_ble_eq_true rfl) (by simp [Value.category]) (fun Q hq => ?_)
  refine g_iconst (v := 0) k_Len_toBeside_0 rfl ?_
  refine g_istore_n k_Len_toBeside_1 rfl (by decide) ?_
  exact l_Len_toBeside s ho hn oo on ne m (fun m9 h9 h8 => hq _ _ ⟨rfl, m9, rfl, h9, h8⟩) 4 0 m rfl Ag.rf (fun j hj => absurd hj (Nat.not_lt_zero j))
theorem l_Len_toOld {K : aK} {d bc bs : Nat} {g : aG} {a pf pb pn : Nat} (s : ShLen g a) (hf : g.2.1 pf = (0, 4)) (hb : g.2.1 pb = (0, 4)) (hn : g.2.1 pn = (0, 4)) (of_ : offL a pf) (ob : offL a pb) (on : offL a pn) (n1 : pf ≠ pn) (n2 : pb ≠ pn) (hd : 3 ≤ d) (m0 : aM) {Q : aQ} (hq : ∀ m', Ag (fun b => b = a + 8 ∨ b = pn) m0 m' → (∀ j, j < 4 → m' pn j = putF m0 a j (m0 pf) (m0 pb)) → Q (.inl none) (g, m')) : ∀ (n i : Nat) (m : aM), i + n = 4 → Ag (fun b => b = a + 8 ∨ b = pn) m0 m → (∀ j, j < i → m pn j = putF m0 a j (m0 pf) (m0 pb)) → G K M_Len_toOld d bc bs 3 [.ref a, .ref pf, .ref pb, .ref pn, .int (nI i)] [] (g, m) Q := by
  intro n
  induction n with
  | zero =>
    intro i m hi hag hv
    obtain rfl : i = 4 := by omega
    refine g_iload k_Len_toOld_3 rfl ?_
    refine g_iconst (v := 4) k_Len_toOld_5 rfl ?_
    refine g_icmp_ge (tgt := 77) k_Len_toOld_6 (by decide) (fun c_6 => ?_) (fun c_6 => ?_)
    · refine g_vret k_Len_toOld_77 rfl ?_
      exact hq m hag hv
    · exact absurd (nI_le (Nat.le_refl 4) (by decide)) c_6
  | succ n ih =>
    intro i m hi hag hv
    have hi4 : i < 4 := by omega
    have e1 : m (a + 1) = m0 (a + 1) := hag _ (fun q => q.elim (by omega) (on.ne 1 (by omega)))
    have e2 : m (a + 2) = m0 (a + 2) := hag _ (fun q => q.elim (by omega) (on.ne 2 (by omega)))
    have e3 : m (a + 3) = m0 (a + 3) := hag _ (fun q => q.elim (by omega) (on.ne 3 (by omega)))
    have e4 : m (a + 4) = m0 (a + 4) := hag _ (fun q => q.elim (by omega) (on.ne 4 (by omega)))
    have ef : m pf = m0 pf := hag _ (fun q => q.elim (of_ 8 (by omega)) n1)
    have eb : m pb = m0 pb := hag _ (fun q => q.elim (ob 8 (by omega)) n2)
    have fin : ∀ (m1 : aM) (x : Int32), Ag (fun b => b = a + 8) m m1 → x = putF m0 a i (m0 pf) (m0 pb) → G K M_Len_toOld d bc bs 70 [.ref a, .ref pf, .ref pb, .ref pn, .int (nI i)] [.int x, .int (nI i), .ref pn] (g, m1) Q := by
      intro m1 x h1 hx
      subst hx
      refine p_iast k_Len_toOld_70 hn (vp_in_nI (n := i) (N := 4) hi4 (by decide)) (j := i) (nI_clamp (by omega)) ?_
      refine g_iinc k_Len_toOld_71 rfl (nIx i) (by decide) ?_
      refine g_goto (tgt := 3) k_Len_toOld_74 (by decide) ?_
      exact ih (i + 1) _ (by omega) ((hag.tr (h1.mono (fun b hb => Or.inl hb))).st (Or.inr rfl)) (fun j hj => by
        by_cases hji : j = i
        · subst hji; exact a_st_self
        · rw [a_st_no (fun q => hji q.2), h1 pn (on 8 (by omega))]; exact hv j (by omega))
    refine g_iload k_Len_toOld_3 rfl ?_
    refine g_iconst (v := 4) k_Len_toOld_5 rfl ?_
    refine g_icmp_ge (tgt := 77) k_Len_toOld_6 (by decide) (fun c_6 => ?_) (fun c_6 => ?_)
    · exact absurd c_6 (nI_ge hi4 (by decide))
    · refine g_iload k_Len_toOld_9 rfl ?_
      refine g_aload_n k_Len_toOld_11 rfl rfl ?_
      refine p_alen (v := 4) k_Len_toOld_12 hb (by decide) rfl ?_
      refine g_icmp_ge (tgt := 77) k_Len_toOld_13 (by decide) (fun c_13 => ?_) (fun c_13 => ?_)
      · exact absurd c_13 (nI_ge hi4 (by decide))
      · refine g_iload k_Len_toOld_16 rfl ?_
        refine g_aload_n k_Len_toOld_18 rfl rfl ?_
        refine p_alen (v := 4) k_Len_toOld_19 hn (by decide) rfl ?_
        refine g_icmp_ge (tgt := 77) k_Len_toOld_20 (by decide) (fun c_20 => ?_) (fun c_20 => ?_)
        · exact absurd c_20 (nI_ge hi4 (by decide))
        · refine g_aload_n k_Len_toOld_23 rfl rfl ?_
          refine g_iload k_Len_toOld_24 rfl ?_
          refine g_aload_n k_Len_toOld_26 rfl rfl ?_
          refine p_getr k_Len_toOld_27 fl_Len_18 rfl (sk_Len s) (by decide) (sr_Len_3 s) ?_
          refine g_iload k_Len_toOld_30 rfl ?_
          refine p_iald k_Len_toOld_32 (sa_Len_3 s) (vp_in_nI (n := i) (N := 8) (by omega) (by decide)) (j := i) (nI_clamp (by omega)) ?_
          refine g_aload_n k_Len_toOld_33 rfl rfl ?_
          refine p_getr k_Len_toOld_34 fl_Len_21 rfl (sk_Len s) (by decide) (sr_Len_4 s) ?_
          refine g_iload k_Len_toOld_37 rfl ?_
          refine p_iald k_Len_toOld_39 (sa_Len_4 s) (vp_in_nI (n := i) (N := 8) (by omega) (by decide)) (j := i) (nI_clamp (by omega)) ?_
          refine g_icmp_ge (tgt := 66) k_Len_toOld_40 (by decide) (fun c_40 => ?_) (fun c_40 => ?_)
          · refine g_aload_n k_Len_toOld_66 rfl rfl ?_
            refine g_iload k_Len_toOld_67 rfl ?_
            refine p_iald k_Len_toOld_69 hb (vp_in_nI (n := i) (N := 4) hi4 (by decide)) (j := i) (nI_clamp (by omega)) ?_
            first | exact fin _ _ h1 (by rw [e3, e4] at c_40; rw [putF, if_neg c_40, e1, e2, e3, e4, ef, eb]) | exact fin _ _ Ag.rf (by rw [e3, e4] at c_40; rw [putF, if_pos c_40, eb])
          · refine g_aload_n k_Len_toOld_43 rfl rfl ?_
            refine g_aload_n k_Len_toOld_44 rfl rfl ?_
            refine p_getr k_Len_toOld_45 fl_Len_18 rfl (sk_Len s) (by decide) (sr_Len_3 s) ?_
            refine g_iload k_Len_toOld_48 rfl ?_
            refine p_iald k_Len_toOld_50 (sa_Len_3 s) (vp_in_nI (n := i) (N := 8) (by omega) (by decide)) (j := i) (nI_clamp (by omega)) ?_
            refine g_aload_n k_Len_toOld_51 rfl rfl ?_
            refine p_getr k_Len_toOld_52 fl_Len_21 rfl (sk_Len s) (by decide) (sr_Len_4 s) ?_
            refine g_iload k_Len_toOld_55 rfl ?_
            refine p_iald k_Len_toOld_57 (sa_Len_4 s) (vp_in_nI (n := i) (N := 8) (by omega) (by decide)) (j := i) (nI_clamp (by omega)) ?_
            refine g_aload_n k_Len_toOld_58 rfl rfl ?_
            refine g_aload_n k_Len_toOld_59 rfl rfl ?_
            refine g_cvR k_Len_toOld_60 lv_Len_57 (by decide +kernel) (T := F_Len) (N := 11) (ci := 2) rfl (sk_Len s) (s_Len_work s (bc := 0) (bs := 0) hb hf (ob 8 (by omega)) (of_ 8 (by omega)) _ _ (by omega)) rfl rfl (Nat.le_of_ble_eq_true rfl) (by simp [Value.category]) (by omega) (by omega) (by omega) (fun v9 h9 hP9 => ?_)
            obtain ⟨m1, rfl, rfl, h1⟩ := hP9
            refine g_goto (tgt := 70) k_Len_toOld_63 (by decide) ?_
            first | exact fin _ _ h1 (by rw [e3, e4] at c_40; rw [putF, if_neg c_40, e1, e2, e3, e4, ef, eb]) | exact fin _ _ Ag.rf (by rw [e3, e4] at c_40; rw [putF, if_pos c_40, eb])
theorem s_Len_toOld {K : aK} {d bc bs : Nat} {g : aG} {a pf pb pn : Nat} (s : ShLen g a) (hf : g.2.1 pf = (0, 4)) (hb : g.2.1 pb = (0, 4)) (hn : g.2.1 pn = (0, 4)) (of_ : offL a pf) (ob : offL a pb) (on : offL a pn) (n1 : pf ≠ pn) (n2 : pb ≠ pn) (hd : 3 ≤ d) (m : aM) : SpR K M_Len_toOld d bc bs [.ref a, .ref pf, .ref pb, .ref pn] (g, m) (fun v h' => v = none ∧ ∃ m', h' = (g, m') ∧ Ag (fun b => b = a + 8 ∨ b = pn) m m' ∧ ∀ j, j < 4 → m' pn j = putF m a j (m pf) (m pb)) := by
  refine spr_of ok_Len_toOld rfl (Nat.le_of_ble_eq_true rfl) (by simp [Value.category]) (fun Q hq => ?_)
  refine g_iconst (v := 0) k_Len_toOld_0 rfl ?_
  refine g_istore k_Len_toOld_1 (by decide) ?_
  exact l_Len_toOld s hf hb hn of_ ob on n1 n2 hd m (fun m9 h9 h8 => hq _ _ ⟨rfl, m9, rfl, h9, h8⟩) 4 0 m rfl Ag.rf (fun j hj => absurd hj (Nat.not_lt_zero j))
def rgF (m : aM) (a : Nat) (fr be : Nat → Int32) : Nat → Nat → Int32
  | 0, _ => 1
  | n + 1, i => if lawF m a i fr be = 0 then 0 else rgF m a fr be n (i + 1)
theorem l_Len_isRight {K : aK} {d bc bs : Nat} {g : aG} {a pf pb : Nat} (s : ShLen g a) (hf : g.2.1 pf = (0, 4)) (hb : g.2.1 pb = (0, 4)) (nf : pf ≠ a + 8) (nb : pb ≠ a + 8) (hd : 3 ≤ d) (m0 : aM) {w : Nat} (hw : m0 a 7 = nI w) (hw6 : w ≤ 16) {Q : aQ} : ∀ (n i : Nat) (m : aM), i + n = w → Ag (fun b => b = a + 8) m0 m → (∀ m', Ag (fun b => b = a + 8) m0 m' → Q (.inl (some (.int (rgF m0 a (m0 pf) (m0 pb) n i)))) (g, m')) → G K M_Len_isRight d bc bs 2 [.ref a, .ref pf, .ref pb, .int (nI i)] [] (g, m) Q := by
  intro n
  induction n with
  | zero =>
    intro i m hi hag hq
    obtain rfl : i = w := by omega
    have ew : m a 7 = nI i := by rw [hag a (by omega), hw]
    refine g_iload_n k_Len_isRight_2 rfl rfl ?_
    refine g_aload_n k_Len_isRight_3 rfl rfl ?_
    refine p_geti k_Len_isRight_4 fl_Len_45 rfl (sk_Len s) (by decide) ?_
    refine g_icmp_ge (tgt := 45) k_Len_isRight_7 (by decide) (fun c_7 => ?_) (fun c_7 => ?_)
    · refine g_iconst (v := 1) k_Len_isRight_45 rfl ?_
      refine g_zret k_Len_isRight_46 rfl (by simp) ?_
      exact hq m hag
    · exact absurd (by rw [ew]; exact nI_le (Nat.le_refl i) (by omega)) c_7
  | succ n ih =>
    intro i m hi hag hq
    have ew : m a 7 = nI w := by rw [hag a (by omega), hw]
    have hiw : i < w := by omega
    have e1 : m (a + 1) = m0 (a + 1) := hag _ (by omega)
    have e2 : m (a + 2) = m0 (a + 2) := hag _ (by omega)
    have e5 : m (a + 5) = m0 (a + 5) := hag _ (by omega)
    have e6 : m (a + 6) = m0 (a + 6) := hag _ (by omega)
    have ef : m pf = m0 pf := hag _ nf
    have eb : m pb = m0 pb := hag _ nb
    refine g_iload_n k_Len_isRight_2 rfl rfl ?_
    refine g_aload_n k_Len_isRight_3 rfl rfl ?_
    refine p_geti k_Len_isRight_4 fl_Len_45 rfl (sk_Len s) (by decide) ?_
    refine g_icmp_ge (tgt := 45) k_Len_isRight_7 (by decide) (fun c_7 => ?_) (fun c_7 => ?_)
    · exact absurd c_7 (by rw [ew]; exact nI_ge hiw (by omega))
    · refine g_iload_n k_Len_isRight_10 rfl rfl ?_
      refine g_bipush (v := 16) k_Len_isRight_11 rfl ?_
      refine g_icmp_ge (tgt := 45) k_Len_isRight_13 (by decide) (fun c_13 => ?_) (fun c_13 => ?_)
      · exact absurd c_13 (nI_ge (show i < 16 by omega) (by decide))
      · refine g_aload_n k_Len_isRight_16 rfl rfl ?_
        refine g_aload_n k_Len_isRight_17 rfl rfl ?_
        refine p_getr k_Len_isRight_18 fl_Len_24 rfl (sk_Len s) (by decide) (sr_Len_5 s) ?_
        refine g_iload_n k_Len_isRight_21 rfl rfl ?_
        refine p_iald k_Len_isRight_22 (sa_Len_5 s) (vp_in_nI (n := i) (N := 16) (by omega) (by decide)) (j := i) (nI_clamp (by omega)) ?_
        refine g_aload_n k_Len_isRight_23 rfl rfl ?_
        refine p_getr k_Len_isRight_24 fl_Len_27 rfl (sk_Len s) (by decide) (sr_Len_6 s) ?_
        refine g_iload_n k_Len_isRight_27 rfl rfl ?_
        refine p_iald k_Len_isRight_28 (sa_Len_6 s) (vp_in_nI (n := i) (N := 16) (by omega) (by decide)) (j := i) (nI_clamp (by omega)) ?_
        refine g_aload_n k_Len_isRight_29 rfl rfl ?_
        refine g_aload_n k_Len_isRight_30 rfl rfl ?_
        refine g_cvR k_Len_isRight_31 lv_Len_57 (by decide +kernel) (T := F_Len) (N := 11) (ci := 2) rfl (sk_Len s) (s_Len_work s (bc := 0) (bs := 0) hb hf nb nf _ _ (by omega)) rfl rfl (Nat.le_of_ble_eq_true rfl) (by simp [Value.category]) (by omega) (by omega) (by omega) (fun v9 h9 hP9 => ?_)
        obtain ⟨m1, rfl, rfl, h1⟩ := hP9
        refine G.v (y := lawF m0 a i (m0 pf) (m0 pb)) (by rw [e1, e2, e5, e6, ef, eb]; rfl) ?_
        refine g_if_ne (tgt := 39) k_Len_isRight_34 (by decide) (fun c_34 => ?_) (fun c_34 => ?_)
        · refine g_iconst (v := 0) k_Len_isRight_37 rfl ?_
          refine g_zret k_Len_isRight_38 rfl (by simp) ?_
          exact (by simpa only [rgF, if_neg c_7, if_neg c_13, if_pos c_34] using hq m1 (hag.tr h1))
        · refine g_iinc k_Len_isRight_39 rfl (nIx i) (by decide) ?_
          refine g_goto (tgt := 2) k_Len_isRight_42 (by decide) ?_
          exact ih (i + 1) m1 (by omega) (hag.tr h1) (fun m9 h9 => by simpa only [rgF, if_neg c_7, if_neg c_13, if_neg c_34] using hq m9 h9)
theorem s_Len_isRight {K : aK} {d bc bs : Nat} {g : aG} {a pf pb : Nat} (s : ShLen g a) (hf : g.2.1 pf = (0, 4)) (hb : g.2.1 pb = (0, 4)) (nf : pf ≠ a + 8) (nb : pb ≠ a + 8) (hd : 3 ≤ d) (m : aM) {w : Nat} (hw : m a 7 = nI w) (hw6 : w ≤ 16) : SpR K M_Len_isRight d bc bs [.ref a, .ref pf, .ref pb] (g, m) (fun v h' => ∃ m', h' = (g, m') ∧ v = some (.int (rgF m a (m pf) (m pb) w 0)) ∧ Ag (fun b => b = a + 8) m m') := by
  refine spr_of ok_Len_isRight rfl (Nat.le_of_ble_eq_true rfl) (by simp [Value.category]) (fun Q hq => ?_)
  refine g_iconst (v := 0) k_Len_isRight_0 rfl ?_
  refine g_istore_n k_Len_isRight_1 rfl (by decide) ?_
  exact l_Len_isRight s hf hb nf nb hd m hw hw6 w 0 m (by omega) Ag.rf (fun m9 h9 => hq _ _ ⟨m9, rfl, rfl, h9⟩)
