/-! WHAT A TEXT IS: both readers at its end -/
def okS (T : Nat → Int32) (n : Nat) (st : lS) : Prop := st.2.2.1.length ≤ st.2.2.2 ∧ st.2.2.2 ≤ 16 ∧ (∀ (l : Nat) (x : Nat × pV), l < 8 → st.1 l = some x → x.1 ≤ n ∧ ∃ q, (pLv T (!decide (nI l < 4)) 6).1 x.1 = .inr (q, x.2)) ∧ (∀ (i : Nat) (x : Nat × pV), st.2.2.1[i]? = some x → x.1 ≤ n ∧ ∃ q, pC T (pLv T false 6).2 x.1 = .inr (q, x.2))
theorem okS0 {T : Nat → Int32} {n : Nat} : okS T n lS0 := ⟨Nat.le_refl _, by decide, fun l x _ h => by simp [lS0] at h, fun i x h => by simp [lS0] at h⟩
theorem pSg_le {T : Nat → Int32} {n : Nat} (h : Tx T n) {c : Int32} {p q : Nat} {z : Unit} (hc : c ≠ -1) (e : pSg T c p = .inr (q, z)) : q ≤ n := by
  unfold pSg at e
  by_cases c1 : T (kp T p) = c
  · rw [if_pos c1] at e
    simp only [Sum.inr.injEq, Prod.mk.injEq] at e
    have := h.lt c1 hc
    omega
  · rw [if_neg c1] at e
    simp at e
theorem pCl_ok {T : Nat → Int32} {n q p : Nat} {st st' : lS} (hT : Tx T n) (hq : q ≤ n) (h : okS T n st) (e : pCl T st q = .inr (p, st')) : okS T n st' ∧ st'.2.2.2 = st.2.2.2 + 1 ∧ q < p := by
  obtain ⟨h1, h2, h3, h4⟩ := h
  unfold pCl at e
  by_cases w1 : tW T q wKeep = true
  · rw [if_pos w1] at e
    by_cases c : st.2.2.2 < 16
    · rw [if_pos c] at e
      unfold pClk at e
      split at e
      · simp at e
      · obtain ⟨p2, z, ez, e⟩ := pB_inr e
        simp only [Sum.inr.injEq, Prod.mk.injEq] at e
        obtain ⟨rfl, rfl⟩ := e
        have := pSg_lt ez
        have := kp_ge (T := T) (p := q + 4)
        exact ⟨⟨by show _ ≤ st.2.2.2 + 1; exact Nat.le_succ_of_le h1, by show st.2.2.2 + 1 ≤ 16; omega, h3, h4⟩, rfl, by omega⟩
    · rw [if_neg c] at e
      simp at e
  rw [if_neg w1] at e
  by_cases w2 : tW T q wLaw = true
  · rw [if_pos w2] at e
    have hl := tW_lt hT wLaw q (by decide) hq w2
    simp only [List.length_cons, List.length_nil] at hl
    by_cases c : st.2.2.2 < 16
    · rw [if_pos c] at e
      obtain ⟨p2, v, ev, e⟩ := pB_inr e
      obtain ⟨p3, z, ez, e⟩ := pB_inr e
      simp only [Sum.inr.injEq, Prod.mk.injEq] at e
      obtain ⟨rfl, rfl⟩ := e
      have := pSg_lt ez
      have := pC_lt (T := T) (pLv_lt (T := T) (al := false) 6).2 _ _ _ ev
      refine ⟨⟨by simp [lSw]; omega, by show st.2.2.2 + 1 ≤ 16; omega, h3, fun i x hx => ?_⟩, rfl, by omega⟩
      have hx' : (st.2.2.1 ++ [(q + 3, v)])[i]? = some x := hx
      rcases Nat.lt_or_ge i st.2.2.1.length with z | z
      · rw [List.getElem?_append_left z] at hx'
        exact h4 i x hx'
      · rw [List.getElem?_append_right z] at hx'
        have ci : i = st.2.2.1.length := by
          rcases Nat.eq_or_lt_of_le z with z | z
          · exact z.symm
          · rw [List.getElem?_eq_none (by simp; omega)] at hx'
            simp at hx'
        subst ci
        simp only [Nat.sub_self, List.getElem?_cons_zero, Option.some.injEq] at hx'
        subst hx'
        exact ⟨by show q + 3 ≤ n; omega, p2, ev⟩
    · rw [if_neg c] at e
      simp at e
  rw [if_neg w2] at e
  by_cases l1 : tL T q = -1
  · rw [if_pos l1] at e
    simp at e
  rw [if_neg l1] at e
  by_cases c : st.2.2.2 < 16
  · rw [if_pos c] at e
    obtain ⟨l, l8, el, el1⟩ := tL_in l1
    unfold pCll at e
    rw [el] at e
    obtain ⟨p1, z1, e1, e⟩ := pB_inr e
    obtain ⟨p2, v, ev, e⟩ := pB_inr e
    obtain ⟨p3, z, ez, e⟩ := pB_inr e
    simp only [Sum.inr.injEq, Prod.mk.injEq, nI_clamp (show l < 2 ^ 31 by omega)] at e
    obtain ⟨rfl, rfl⟩ := e
    have := pSg_lt ez
    have := pSg_lt e1
    have := (pLv_lt (T := T) (al := !decide (nI l < 4)) 6).1 _ _ _ ev
    refine ⟨⟨by show _ ≤ st.2.2.2 + 1; exact Nat.le_succ_of_le h1, by show st.2.2.2 + 1 ≤ 16; omega, fun j x hj hx => ?_, h4⟩, rfl, by omega⟩
    have hx' : (if j = l then some (p1, v) else st.1 j) = some x := hx
    by_cases d : j = l
    · subst d
      simp only [if_true, Option.some.injEq] at hx'
      subst hx'
      exact ⟨pSg_le hT (by decide) e1, p2, ev⟩
    · rw [if_neg d] at hx'
      exact h3 j x hj hx'
  · rw [if_neg c] at e
    simp at e
theorem m_clause {T : Nat → Int32} {n F q : Nat} {m : aM} {st : lS} (h : MX T n m q) (hs : RSt m st st.2.2.2) (ho : okS T n st) (hq : q < n) (hk : kp T q = q) (hF : 5000 ≤ F) : CzO T n m st.2.2.2 (Cz F m) (pCl T st q) := by
  have h4 := h.1.1.1
  have ml := m_letter (F := F) h.1 h.2.1 (by omega) (by omega)
  rw [hk, a_st_id h.2.1] at ml
  obtain ⟨x, ew, w1, w2, w3, w4, w5, w6, w7, w8⟩ := m_word (F := F) h.1 h.2.1 (by omega) hF
  rw [hk, a_st_id h.2.1] at ew
  rw [hk] at w7 w8
  have f87 : ∀ x1 x3 x4 : Int32, (st.2.2.2 < 16 → CzO T n m st.2.2.2 (o_b2 (b_Mod_clause_105 F x1 x3 x4 m) fun _ m2 => if m2 242 15 = 0 then o_b2 (f_Mod_sign F 59 m2) fun _ m4 => some (0, m4) else some (0, m2)) (pCl T st q)) → (¬ st.2.2.2 < 16 → pCl T st q = .inl (3, q)) → CzO T n m st.2.2.2 (o_b2 (b_Mod_clause_87 F x1 x3 x4 m) fun _ m2 => if m2 242 15 = 0 then o_b2 (f_Mod_sign F 59 m2) fun _ m4 => some (0, m4) else some (0, m2)) (pCl T st q) := fun x1 x3 x4 h1 h2 => by
    unfold b_Mod_clause_87
    rw [hs.1]
    by_cases c : st.2.2.2 < 16
    · rw [if_neg (fun z => by have := (nI_eq (a := st.2.2.2) (b := 16) (by omega) (by decide)).mp z; omega)]
      exact h1 c
    · have c16 : st.2.2.2 = 16 := by have := ho.2.1; omega
      rw [if_pos (by rw [c16]; rfl), h2 c, h.2.1, m_wrong h.2.2.2.1, o_b2_some]
      have hw := h.ms.wr (k := 3) (by decide) q
      unfold b_Mod_clause_105
      rw [if_neg hw.ne, o_b2_some]
      exact z_fau hw (by omega) (wr_fr.mono fM_2)
  unfold Cz f_Mod_clause b_Mod_clause_33 b_Mod_clause_34 b_Mod_clause_58 b_Mod_clause_59
  simp only [ml, o_b2_some, ew, show ∀ m, f_Mod_word 11 5 5 16 0 m = some (nI 220309) from fun _ => rfl, show ∀ m, f_Mod_word 12 1 23 0 0 m = some (nI 8798) from fun _ => rfl, o_b_some, ww w7, ww w8]
  by_cases k1 : tW T q wKeep = true
  · have l1 : tL T q = -1 := tW_tL k1 (by decide)
    have k2 : ¬ tW T q wLaw = true := tW_1 k1 (show (107 : Int32) ≠ 108 by decide)
    simp only [if_pos k1, if_pos l1, if_neg k2, show ¬ (1 : Int32) = 0 by decide, if_false]
    refine f87 _ _ _ (fun c => ?_) (fun c => by unfold pCl; rw [if_pos k1, if_neg c])
    have := m_clk (x1 := tL T q) h hs k1 hF
    unfold pCl
    rw [if_pos k1, if_pos c]
    exact this
  simp only [if_neg k1]
  by_cases k2 : tW T q wLaw = true
  · have l1 : tL T q = -1 := tW_tL k2 (by decide)
    simp only [if_pos k2, if_pos l1, show ¬ (1 : Int32) = 0 by decide, if_false, if_true]
    refine f87 _ _ _ (fun c => ?_) (fun c => by unfold pCl; rw [if_neg k1, if_pos k2, if_neg c])
    have := m_clw (x1 := tL T q) (x3 := 0) h hs (by have := ho.1; omega) k2 hF
    unfold pCl
    rw [if_neg k1, if_pos k2, if_pos c]
    exact this
  simp only [if_neg k2]
  by_cases l1 : tL T q = -1
  · simp only [if_pos l1, if_true, h.2.1, m_wrong h.2.2.2.1, o_b2_some]
    have hw := h.ms.wr (k := 1) (by decide) q
    unfold b_Mod_clause_105 pCl
    rw [if_neg k1, if_neg k2, if_pos l1, if_neg hw.ne, o_b2_some]
    exact z_fau hw (by omega) (wr_fr.mono fM_2)
  · simp only [if_neg l1]
    refine f87 _ _ _ (fun c => ?_) (fun c => by unfold pCl; rw [if_neg k1, if_neg k2, if_neg l1, if_neg c])
    have := m_cll h hs hq l1 hF
    unfold pCl
    rw [if_neg k1, if_neg k2, if_neg l1, if_pos c]
    exact this
/-- the reference reads the whole text -/
theorem m_all_l {T : Nat → Int32} {n F : Nat} (hF : 5000 ≤ F) : ∀ (d N p : Nat) (st : lS) (m : aM), MX T n m (kp T p) → RSt m st st.2.2.2 → okS T n st → n < d + p → d < N →
    (∀ q st', pLn T n d st p = .inr (q, st') → ∃ m', ll_Mod_readAll_65 F N m = some (0, m') ∧ m' 242 15 = 0 ∧ m' 242 16 = m 242 16 ∧ RSt m' st' st'.2.2.2 ∧ okS T n st' ∧ Fr fM2 m m') ∧ (∀ k q, pLn T n d st p = .inl (k, q) → ∃ m', ll_Mod_readAll_65 F N m = some (0, m') ∧ m' 242 15 = k ∧ k ≠ 0 ∧ m' 242 16 = nI q ∧ Fr fM2 m m')
  | 0, N, p, st, m, h, hs, ho, hd, hN => by
    have := h.2.2.2.2
    have := kp_ge (T := T) (p := p)
    omega
  | d + 1, N, p, st, m, h, hs, ho, hd, hN => by
    obtain ⟨N, rfl⟩ : ∃ k, N = k + 1 := ⟨N - 1, by omega⟩
    have g := kp_ge (T := T) (p := p)
    have gl := h.2.2.2.2
    have h4 := h.1.1.1
    have e0 : ll_Mod_readAll_65 F (N + 1) m = lb_Mod_readAll_65 F (ll_Mod_readAll_65 F N) m := rfl
    rw [e0, Cz_eq, if_pos h.2.2.2.1, h.1.2.1, h.2.1]
    unfold pLn
    by_cases c : kp T p < n
    · rw [if_pos c, if_neg (nI_ge c (by omega))]
      have cz := m_clause h hs ho c (kp_kp h.1.1) hF
      refine ⟨fun q st' e => ?_, fun k q e => ?_⟩
      · obtain ⟨p2, st2, e2, e⟩ := pB_inr e
        obtain ⟨m1, e1, h1, hs1, h16, f1⟩ := cz.1 p2 st2 e2
        obtain ⟨ok2, c2, lt2⟩ := pCl_ok h.1.1 gl ho e2
        simp only [e1, o_b2_some]
        unfold b_Mod_readAll_100
        simp only [o_let_eq, hs1.1, nI_1]
        have f2 : Fr fM2 m (a_st m1 242 19 (nI (st.2.2.2 + 1))) := f1.st (by simp [fM2])
        have h2 : MX T n (a_st m1 242 19 (nI (st.2.2.2 + 1))) p2 := ⟨h.1.fr2 f2, by rw [a_st_no (by decide)]; exact h1.2.1, by rw [a_st_no (by decide)]; exact h1.2.2.1, by rw [a_st_no (by decide)]; exact h1.2.2.2.1, h1.2.2.2.2⟩
        obtain ⟨e3, h3⟩ := m_blanksS h2.ms hF
        simp only [e3, o_b2_some]
        have hs3 : RSt (a_st (a_st m1 242 19 (nI (st.2.2.2 + 1))) 242 13 (nI (kp T p2))) st2 st2.2.2.2 := by
          obtain ⟨r1, r2, ⟨w, r3, r3'⟩, r4, r5⟩ := hs1
          refine ⟨by rw [a_st_no (by decide), a_st_self, c2], by rw [a_st_no (by decide), a_st_no (by decide)]; exact r2, ⟨w, by rw [a_st_no (by decide), a_st_no (by decide)]; exact r3, r3'⟩, fun l hl => ?_, fun i x hx => ?_⟩
          · rw [a_st_ne (by decide), a_st_ne (by decide)]; exact r4 l hl
          · rw [a_st_ne (by decide), a_st_ne (by decide)]; exact r5 i x hx
        obtain ⟨m4, e4, z1, z2, z3, z4, z5⟩ := (m_all_l hF d N p2 st2 _ (MX.of h3) hs3 ok2 (by omega) (by omega)).1 q st' e
        refine ⟨m4, e4, z1, ?_, z3, z4, (f2.st (by simp [fM2])).tr z5⟩
        rw [z2, a_st_no (by decide), a_st_no (by decide), h16]
      · rcases pB_inl e with e | ⟨p2, st2, e2, e⟩
        · obtain ⟨m1, p1, e1, h1, hp1, f1⟩ := cz.2 k q e
          simp only [e1, o_b2_some]
          unfold b_Mod_readAll_100
          simp only [o_let_eq]
          have f2 : Fr fM2 m (a_st m1 242 19 (m1 242 19 + 1)) := f1.st (by simp [fM2])
          have h2 : MF T n (a_st m1 242 19 (m1 242 19 + 1)) p1 k q := ⟨h.1.fr2 f2, by rw [a_st_no (by decide)]; exact h1.2.1, by rw [a_st_no (by decide)]; exact h1.2.2.1, h1.2.2.2.1, by rw [a_st_no (by decide)]; exact h1.2.2.2.2⟩
          obtain ⟨e3, h3, _⟩ := m_blanksF (E := 2000) h2 hF hp1 (by omega) (by omega)
          simp only [e3, o_b2_some]
          obtain ⟨N, rfl⟩ : ∃ k, N = k + 1 := ⟨N - 1, by omega⟩
          refine ⟨_, ?_, h3.2.2.1, h3.2.2.2.1, h3.2.2.2.2, f2.st (by simp [fM2])⟩
          show lb_Mod_readAll_65 F (ll_Mod_readAll_65 F N) _ = _
          unfold lb_Mod_readAll_65
          rw [if_neg h3.ne]
        · obtain ⟨m1, e1, h1, hs1, h16, f1⟩ := cz.1 p2 st2 e2
          obtain ⟨ok2, c2, lt2⟩ := pCl_ok h.1.1 gl ho e2
          simp only [e1, o_b2_some]
          unfold b_Mod_readAll_100
          simp only [o_let_eq, hs1.1, nI_1]
          have f2 : Fr fM2 m (a_st m1 242 19 (nI (st.2.2.2 + 1))) := f1.st (by simp [fM2])
          have h2 : MX T n (a_st m1 242 19 (nI (st.2.2.2 + 1))) p2 := ⟨h.1.fr2 f2, by rw [a_st_no (by decide)]; exact h1.2.1, by rw [a_st_no (by decide)]; exact h1.2.2.1, by rw [a_st_no (by decide)]; exact h1.2.2.2.1, h1.2.2.2.2⟩
          obtain ⟨e3, h3⟩ := m_blanksS h2.ms hF
          simp only [e3, o_b2_some]
          have hs3 : RSt (a_st (a_st m1 242 19 (nI (st.2.2.2 + 1))) 242 13 (nI (kp T p2))) st2 st2.2.2.2 := by
            obtain ⟨r1, r2, ⟨w, r3, r3'⟩, r4, r5⟩ := hs1
            refine ⟨by rw [a_st_no (by decide), a_st_self, c2], by rw [a_st_no (by decide), a_st_no (by decide)]; exact r2, ⟨w, by rw [a_st_no (by decide), a_st_no (by decide)]; exact r3, r3'⟩, fun l hl => ?_, fun i x hx => ?_⟩
            · rw [a_st_ne (by decide), a_st_ne (by decide)]; exact r4 l hl
            · rw [a_st_ne (by decide), a_st_ne (by decide)]; exact r5 i x hx
          obtain ⟨m4, e4, z1, z2, z3, z5⟩ := (m_all_l hF d N p2 st2 _ (MX.of h3) hs3 ok2 (by omega) (by omega)).2 k q e
          exact ⟨m4, e4, z1, z2, z3, (f2.st (by simp [fM2])).tr z5⟩
    · rw [if_neg c, if_pos (nI_le (by omega) (by omega))]
      refine ⟨fun q st' e => ?_, fun k q e => by simp at e⟩
      simp only [Sum.inr.injEq, Prod.mk.injEq] at e
      obtain ⟨rfl, rfl⟩ := e
      exact ⟨m, rfl, h.2.2.2.1, rfl, hs, ho, Fr.rf⟩
