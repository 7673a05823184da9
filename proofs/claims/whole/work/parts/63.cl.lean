/-! THE CLASS'S READER: clauses, the whole text -/
def lS1 (st : lS) : lS := (st.1, st.2.1, st.2.2.1, st.2.2.2 + 1)
theorem RQ.c1 {T : Nat → Int32} {n p u : Nat} {m : aM} {st : lS} (h : RQ T n m st p u) (hc : st.2.2.2 < 16) : RQ T n (a_st m 12 10 (nI (st.2.2.2 + 1))) (lS1 st) p u := by
  obtain ⟨h1, h2, h3, h4, h5, h6⟩ := h
  obtain ⟨a1, a2, a3, a4, a5, a6, a7, a8, a9⟩ := h4
  refine ⟨⟨h1.1, by rw [a_st_no (by decide)]; exact h1.2.1, fun j hj => by rw [a_st_no (by omega)]; exact h1.2.2 j hj⟩, by rw [a_st_no (by decide)]; exact h2, by rw [a_st_no (by decide)]; exact h3, ⟨by rw [a_st_no (by decide)]; exact a1, a_st_self, by rw [a_st_no (by decide)]; exact a3, by show st.2.2.2 + 1 ≤ 16; omega, by show st.2.2.1.length ≤ st.2.2.2 + 1; omega, a6, fun l hl => ?_, fun l hl => ?_, fun i x hx => ?_⟩, h5, h6⟩
  · rw [a_st_ne (by decide), a_st_ne (by decide), a_st_ne (by decide), a_st_ne (by decide)]
    exact a7 l hl
  · rw [a_st_ne (by decide)]
    exact a8 l hl
  · rw [a_st_ne (by decide), a_st_ne (by decide), a_st_ne (by decide), a_st_ne (by decide)]
    exact a9 i x hx
theorem DS.kp {m : aM} {st : lS} {u l : Nat} (h : DS 12 m (lS1 st) u) : DS 12 (a_st m 19 l 1) (lSk st l) u := by
  obtain ⟨a1, a2, a3, a4, a5, a6, a7, a8, a9⟩ := h
  refine ⟨by rw [a_st_ne (by decide)]; exact a1, by rw [a_st_ne (by decide)]; exact a2, by rw [a_st_ne (by decide)]; exact a3, a4, a5, a6, fun j hj => ?_, fun j hj => ?_, fun i x hx => ?_⟩
  · rw [a_st_ne (by decide), a_st_ne (by decide), a_st_ne (by decide), a_st_ne (by decide)]
    exact a7 j hj
  · by_cases c : j = l
    · show a_st m 19 l 1 19 j = if (if j = l then true else st.2.1 j) = true then 1 else 0
      rw [c, a_st_self, if_pos rfl, if_pos rfl]
    · show a_st m 19 l 1 19 j = if (if j = l then true else st.2.1 j) = true then 1 else 0
      rw [a_st_no (by omega), if_neg c]
      exact a8 j hj
  · rw [a_st_ne (by decide), a_st_ne (by decide), a_st_ne (by decide), a_st_ne (by decide)]
    exact a9 i x hx
theorem DS.lw {m : aM} {st : lS} {u p u0 : Nat} {v : pV} (h : DS 12 m (lS1 st) u) (hc : st.2.2.1.length ≤ st.2.2.2) (hu : u0 < u) (hv : Cd (m 13) (m 14) u0 u 40 v) : DS 12 (a_st (a_st (a_st m 17 st.2.2.1.length (nI u0)) 18 st.2.2.1.length (nI u)) 12 7 (nI (st.2.2.1.length + 1))) (lSw st (p, v)) u := by
  obtain ⟨a1, a2, a3, a4, a5, a6, a7, a8, a9⟩ := h
  have hl : (lSw st (p, v)).2.2.1.length = st.2.2.1.length + 1 := by simp [lSw]
  have hl1 : (lSw st (p, v)).2.2.2 = st.2.2.2 + 1 := rfl
  have a5' : st.2.2.1.length ≤ st.2.2.2 + 1 := a5
  have a4' : st.2.2.2 + 1 ≤ 16 := a4
  refine ⟨?_, ?_, ?_, a4, ?_, a6, fun j hj => ?_, fun j hj => ?_, fun i x hx => ?_⟩
  · rw [a_st_no (by decide), a_st_ne (by decide), a_st_ne (by decide)]; exact a1
  · rw [a_st_no (by decide), a_st_ne (by decide), a_st_ne (by decide)]; exact a2
  · rw [a_st_self, hl]
  · rw [hl, hl1]; omega
  · rw [a_st_ne (by decide), a_st_ne (by decide), a_st_ne (by decide), a_st_ne (by decide), a_st_ne (by decide), a_st_ne (by decide), a_st_ne (by decide), a_st_ne (by decide), a_st_ne (by decide), a_st_ne (by decide), a_st_ne (by decide), a_st_ne (by decide)]
    exact a7 j hj
  · rw [a_st_ne (by decide), a_st_ne (by decide), a_st_ne (by decide)]
    exact a8 j hj
  · have q1 : a_st (a_st (a_st m 17 st.2.2.1.length (nI u0)) 18 st.2.2.1.length (nI u)) 12 7 (nI (st.2.2.1.length + 1)) 13 = m 13 := by rw [a_st_ne (by decide), a_st_ne (by decide), a_st_ne (by decide)]
    have q2 : a_st (a_st (a_st m 17 st.2.2.1.length (nI u0)) 18 st.2.2.1.length (nI u)) 12 7 (nI (st.2.2.1.length + 1)) 14 = m 14 := by rw [a_st_ne (by decide), a_st_ne (by decide), a_st_ne (by decide)]
    show ∃ s e, a_st (a_st (a_st m 17 st.2.2.1.length (nI u0)) 18 st.2.2.1.length (nI u)) 12 7 (nI (st.2.2.1.length + 1)) 17 i = nI s ∧ a_st (a_st (a_st m 17 st.2.2.1.length (nI u0)) 18 st.2.2.1.length (nI u)) 12 7 (nI (st.2.2.1.length + 1)) 18 i = nI e ∧ s < e ∧ e ≤ u ∧ Cd (a_st (a_st (a_st m 17 st.2.2.1.length (nI u0)) 18 st.2.2.1.length (nI u)) 12 7 (nI (st.2.2.1.length + 1)) 13) (a_st (a_st (a_st m 17 st.2.2.1.length (nI u0)) 18 st.2.2.1.length (nI u)) 12 7 (nI (st.2.2.1.length + 1)) 14) s e 40 x.2
    rw [q1, q2]
    have hx' : (st.2.2.1 ++ [(p, v)])[i]? = some x := hx
    rcases Nat.lt_or_ge i st.2.2.1.length with c | c
    · rw [List.getElem?_append_left c] at hx'
      rw [a_st_no (by omega), a_st_no (by omega), a_st_no (by omega), a_st_no (by omega), a_st_no (by omega), a_st_no (by omega)]
      exact a9 i x hx'
    · rw [List.getElem?_append_right c] at hx'
      have ci : i = st.2.2.1.length := by
        rcases Nat.eq_or_lt_of_le c with z | z
        · exact z.symm
        · rw [List.getElem?_eq_none (by simp; omega)] at hx'
          simp at hx'
      subst ci
      simp only [Nat.sub_self, List.getElem?_cons_zero, Option.some.injEq] at hx'
      subst hx'
      refine ⟨u0, u, ?_, ?_, hu, Nat.le_refl _, hv⟩
      · rw [a_st_ne (by decide), a_st_ne (by decide), a_st_self]
      · rw [a_st_ne (by decide), a_st_self]
theorem DS.lt {m : aM} {st : lS} {u p u0 l : Nat} {v : pV} (h : DS 12 m (lS1 st) u) (hu : u0 < u) (hv : Cd (m 13) (m 14) u0 u 40 v) : DS 12 (a_st (a_st m 15 l (nI u0)) 16 l (nI u)) (lSl st l (p, v)) u := by
  obtain ⟨a1, a2, a3, a4, a5, a6, a7, a8, a9⟩ := h
  refine ⟨by rw [a_st_ne (by decide), a_st_ne (by decide)]; exact a1, by rw [a_st_ne (by decide), a_st_ne (by decide)]; exact a2, by rw [a_st_ne (by decide), a_st_ne (by decide)]; exact a3, a4, a5, a6, fun j hj => ?_, fun j hj => ?_, fun i x hx => ?_⟩
  · have q1 : a_st (a_st m 15 l (nI u0)) 16 l (nI u) 13 = m 13 := by rw [a_st_ne (by decide), a_st_ne (by decide)]
    have q2 : a_st (a_st m 15 l (nI u0)) 16 l (nI u) 14 = m 14 := by rw [a_st_ne (by decide), a_st_ne (by decide)]
    show ∃ s e, a_st (a_st m 15 l (nI u0)) 16 l (nI u) 15 j = nI s ∧ a_st (a_st m 15 l (nI u0)) 16 l (nI u) 16 j = nI e ∧ e ≤ u ∧ ((if j = l then some (p, v) else st.1 j) = none → s = 0 ∧ e = 0) ∧ ∀ x, (if j = l then some (p, v) else st.1 j) = some x → s < e ∧ Cd (a_st (a_st m 15 l (nI u0)) 16 l (nI u) 13) (a_st (a_st m 15 l (nI u0)) 16 l (nI u) 14) s e 40 x.2
    rw [q1, q2]
    by_cases c : j = l
    · subst c
      refine ⟨u0, u, by rw [a_st_ne (by decide), a_st_self], by rw [a_st_self], Nat.le_refl _, fun z => by simp at z, fun x hx => ?_⟩
      simp only [if_true, Option.some.injEq] at hx
      subst hx
      exact ⟨hu, hv⟩
    · simp only [if_neg c]
      rw [a_st_no (by omega), a_st_no (by omega), a_st_no (by omega), a_st_no (by omega)]
      exact a7 j hj
  · rw [a_st_ne (by decide), a_st_ne (by decide)]
    exact a8 j hj
  · rw [a_st_ne (by decide), a_st_ne (by decide), a_st_ne (by decide), a_st_ne (by decide), a_st_ne (by decide), a_st_ne (by decide), a_st_ne (by decide), a_st_ne (by decide)]
    exact a9 i x hx
theorem RQ.of {T : Nat → Int32} {n p u : Nat} {m : aM} {st : lS} {al : Bool} (h : RS T n al m p 0 u) (d : DS 12 m st u) : RQ T n m st p u := ⟨h.1, h.2.1, h.2.2.1, d, h.2.2.2.2.2⟩
section
variable {T : Nat → Int32} {n q u F : Nat} {m : aM} {st : lS}
theorem c_clk (h : RQ T n m st q u) (hc : st.2.2.2 < 16) (hw : tW T q wKeep = true) (hF : 401 ≤ F) {x1 x3 : Int32} :
    (∀ k p', pClk T st q = .inl (k, p') → Fl2 m (b_Rea_readClause_80 F x1 1 x3 0 (a_st m 12 10 (nI (st.2.2.2 + 1)))) k p') ∧ (∀ p' st', pClk T st q = .inr (p', st') → q < p' ∧ Ok2 T n m (b_Rea_readClause_80 F x1 1 x3 0 (a_st m 12 10 (nI (st.2.2.2 + 1)))) p' st') := by
  obtain ⟨rs, ds⟩ := (h.c1 hc).al false
  have hl := tW_lt h.1.1 wKeep q (by decide) h.2.2.2.2.1 hw
  simp only [List.length_cons, List.length_nil] at hl
  have hu := h.2.2.2.2.2
  have fr : Fr fR2 m (a_st (a_st m 12 10 (nI (st.2.2.2 + 1))) 11 4 0) := (Fr.rf.st (by simp [fR2])).st (by simp [fR2])
  simp only [Bool.false_eq_true, if_false] at rs ds
  unfold b_Rea_readClause_80
  rw [show isb 0 = true from rfl, o_gd_t, o_let_eq, if_neg (by decide)]
  generalize a_st (a_st m 12 10 (nI (st.2.2.2 + 1))) 11 4 0 = m2 at rs ds fr
  have r4 := rs.at (q := q + 4) (by omega) (by omega)
  have gl := kp_le rs.1.1 (show q + 4 ≤ n by omega)
  have g := kp_ge (T := T) (p := q + 4)
  have rk := rs.at (q := kp T (q + 4)) gl (by omega)
  unfold f_Rea_readKeep pClk b_Rea_readKeep_29
  simp only [o_let_eq, rs.2.1, show nI q + 4 = nI (q + 4) from nI_add _ 4, c_skip r4.1 r4.2.1 (show q + 4 ≤ n by omega) hF, o_b2_some, a_st_st, c_letter rk.1 rk.2.1 gl, o_b_some, a_st_self, nI_1]
  by_cases b : tL T (kp T (q + 4)) = -1
  · simp only [if_pos b, b, true_or, if_true]
    refine ⟨fun k p' e => ?_, fun p' st' e => by simp at e⟩
    simp only [Sum.inl.injEq, Prod.mk.injEq] at e
    obtain ⟨rfl, rfl⟩ := e
    exact Fl2.tr (fr.st (show fR2 11 2 by simp [fR2])) (Fl.mk2 a_st_self).to2.b
  · obtain ⟨l, l8, el, el1⟩ := tL_in b
    have hlt := h.1.1.lt (p := kp T (q + 4)) rfl el1
    rw [el] at b ⊢
    simp only [if_neg b, b, false_or]
    by_cases c : l < 4
    · have c1 : nI l < 4 := nI_lt (b := 4) c (by decide)
      simp only [c1, if_true, not_true_eq_false, if_false, c_keepLetter c, o_b2_some, show ¬ (1 : Int32) = 0 by decide, nI_clamp (show l < 2 ^ 31 by omega)]
      have r5 := rs.at (q := kp T (q + 4) + 1) (by omega) (by omega)
      have d5 := (ds.rd (m' := a_st m2 11 2 (nI (kp T (q + 4) + 1))) (u' := u) (by rw [a_st_no (by decide)]; exact ds.1) (Nat.le_refl _) ds.2.2.2.2.2.1 (fun j _ => ⟨by simp [a_rd], by simp [a_rd]⟩) (Fr.rf.st (by simp [fR]))).kp (l := l)
      have rq : RQ T n (a_st (a_st m2 11 2 (nI (kp T (q + 4) + 1))) 19 l 1) (lSk st l) (kp T (q + 4) + 1) u := ⟨⟨h.1.1, by rw [a_st_ne (by decide)]; exact r5.1.2.1, fun j hj => by rw [a_st_ne (by decide)]; exact r5.1.2.2 j hj⟩, by rw [a_st_ne (by decide), a_st_self], by rw [a_st_ne (by decide)]; exact r5.2.2.1, d5, by omega, by omega⟩
      have f2 : Fr fR2 m (a_st (a_st m2 11 2 (nI (kp T (q + 4) + 1))) 19 l 1) := (fr.st (by simp [fR2])).st (by simp [fR2])
      have ce := c_end rq hF
      refine ⟨fun k p' e => ?_, fun p' st' e => ?_⟩
      · rcases pB_inl e with e | ⟨p2, z, ez, e⟩
        · exact Fl2.tr f2 (ce.1 k p' e)
        · simp at e
      · obtain ⟨p2, z, ez, e⟩ := pB_inr e
        simp only [Sum.inr.injEq, Prod.mk.injEq] at e
        obtain ⟨rfl, rfl⟩ := e
        obtain ⟨g1, g2⟩ := ce.2 p2 z ez
        exact ⟨by omega, g2.tr f2⟩
    · have c1 : ¬ nI l < 4 := nI_nlt (b := 4) (by omega) (by omega)
      simp only [c1, if_false, not_false_eq_true, if_true]
      refine ⟨fun k p' e => ?_, fun p' st' e => by simp at e⟩
      simp only [Sum.inl.injEq, Prod.mk.injEq] at e
      obtain ⟨rfl, rfl⟩ := e
      exact Fl2.tr (fr.st (show fR2 11 2 by simp [fR2])) (Fl.mk2 a_st_self).to2.b
theorem c_clw (h : RQ T n m st q u) (hc : st.2.2.2 < 16) (hw : tW T q wLaw = true) (hF : 401 ≤ F) {x1 : Int32} :
    (∀ k p', pClw T st q = .inl (k, p') → Fl2 m (b_Rea_readClause_80 F x1 0 1 0 (a_st m 12 10 (nI (st.2.2.2 + 1)))) k p') ∧ (∀ p' st', pClw T st q = .inr (p', st') → q < p' ∧ Ok2 T n m (b_Rea_readClause_80 F x1 0 1 0 (a_st m 12 10 (nI (st.2.2.2 + 1)))) p' st') := by
  obtain ⟨rs, ds⟩ := (h.c1 hc).al false
  have hl := tW_lt h.1.1 wLaw q (by decide) h.2.2.2.2.1 hw
  simp only [List.length_cons, List.length_nil] at hl
  have hu := h.2.2.2.2.2
  have hlw := h.2.2.2.1.2.2.2.2.1
  have fr : Fr fR2 m (a_st (a_st m 12 10 (nI (st.2.2.2 + 1))) 11 4 0) := (Fr.rf.st (by simp [fR2])).st (by simp [fR2])
  simp only [Bool.false_eq_true, if_false] at rs ds
  unfold b_Rea_readClause_80 b_Rea_readClause_131
  rw [show isb 0 = true from rfl, o_gd_t, o_let_eq, if_pos rfl, if_neg (by decide)]
  generalize a_st (a_st m 12 10 (nI (st.2.2.2 + 1))) 11 4 0 = m2 at rs ds fr
  have r3 := rs.at (q := q + 3) (by omega) (by omega)
  have cr := (c_any0 (T := T) (n := n) (al := false) hF) _ _ _ r3
  unfold f_Rea_readLaw pClw
  simp only [o_let_eq, rs.2.1, show nI q + 3 = nI (q + 3) from nI_add _ 3, show f_Len_here 12 (a_st m2 11 2 (nI (q + 3))) = some (nI u) from congrArg some r3.2.2.2.2.1, o_b_some]
  have key : ∀ p2 v, pC T (pLv T false 6).2 (q + 3) = .inr (p2, v) → ∃ m5 u3, q + 3 < p2 ∧ (o_b2 (o_b2 (f_Rea_readAny F (a_st m2 11 2 (nI (q + 3)))) fun y3 m4 => if y3 = 0 then some ((0 : Int32), m4) else o_b2 (f_Len_endLaw 12 (nI u) m4) fun y5 m6 => some (1, m6)) fun y5 m6 => if y5 = 0 then some ((0 : Int32), m6) else o_b2 (f_Rea_readSign F 59 m6) fun y1 m2 => if y1 = 0 then some (0, m2) else some (1, m2)) = (o_b2 (f_Rea_readSign F 59 m5) fun y1 m2 => if y1 = 0 then some (0, m2) else some (1, m2)) ∧ RQ T n m5 (lSw st (q + 3, v)) p2 u3 ∧ Fr fR2 m m5 := fun p2 v ev => by
    obtain ⟨g2, m3, u3, e3, rs3, a1, a2, a3, a4, a5⟩ := cr.2 p2 v ev
    have h4 := rs3.n4
    have hu3 := rs3.2.2.2.2.2
    have d3 : DS 12 m3 (lS1 st) u3 := ds.rd rs3.2.2.2.2.1 (by omega) (by omega) (fun j hj => by rw [(a4 j hj).1, (a4 j hj).2]; simp [a_rd]) ((Fr.rf.st (by simp [fR])).tr a5)
    have d4 := d3.lw (p := q + 3) (u0 := u) (v := v) hlw (by omega) (a3.mo (by omega))
    refine ⟨_, u3, g2, ?_, ⟨⟨h.1.1, ?_, fun j hj => ?_⟩, ?_, ?_, d4, hu3.1, hu3.2⟩, ?_⟩
    · simp only [e3, o_b2_some, show ¬ (1 : Int32) = 0 by decide, if_false, c_endLaw (u := u) d3.2.2.1 (show (lS1 st).2.2.1.length < 16 by show st.2.2.1.length < 16; omega) d3.1]
      rfl
    · rw [a_st_ne (by decide), a_st_ne (by decide), a_st_ne (by decide)]; exact rs3.1.2.1
    · rw [a_st_ne (by decide), a_st_ne (by decide), a_st_ne (by decide)]; exact rs3.1.2.2 j hj
    · rw [a_st_ne (by decide), a_st_ne (by decide), a_st_ne (by decide)]; exact rs3.2.1
    · rw [a_st_ne (by decide), a_st_ne (by decide), a_st_ne (by decide)]; exact rs3.2.2.1
    · exact ((((fr.st (show fR2 11 2 by simp [fR2])).tr (a5.mono fR_2)).st (by simp [fR2])).st (by simp [fR2])).st (by simp [fR2])
  refine ⟨fun k p' e => ?_, fun p' st' e => ?_⟩
  · rcases pB_inl e with e | ⟨p2, v, ev, e⟩
    · exact Fl2.tr (fr.st (show fR2 11 2 by simp [fR2])) (cr.1 k p' e).b.to2.b
    · obtain ⟨m5, u3, g2, e5, rq, f5⟩ := key p2 v ev
      refine Eq.mpr (congrArg (fun r => Fl2 m r k p') e5) ?_
      rcases pB_inl e with e | ⟨p3, z, ez, e⟩
      · exact Fl2.tr f5 ((c_end rq hF).1 k p' e)
      · simp at e
  · obtain ⟨p2, v, ev, e⟩ := pB_inr e
    obtain ⟨m5, u3, g2, e5, rq, f5⟩ := key p2 v ev
    refine Eq.mpr (congrArg (fun r => q < p' ∧ Ok2 T n m r p' st') e5) ?_
    obtain ⟨p3, z, ez, e⟩ := pB_inr e
    simp only [Sum.inr.injEq, Prod.mk.injEq] at e
    obtain ⟨rfl, rfl⟩ := e
    obtain ⟨g3, g4⟩ := (c_end rq hF).2 p3 z ez
    exact ⟨by omega, g4.tr f5⟩
theorem c_cll (h : RQ T n m st q u) (hq : q < n) (hc : st.2.2.2 < 16) (hl : ¬ tL T q = -1) (hF : 401 ≤ F) :
    (∀ k p', pCll T st q = .inl (k, p') → Fl2 m (b_Rea_readClause_80 F (tL T q) 0 0 (if tL T q < 4 then 0 else 1) (a_st m 12 10 (nI (st.2.2.2 + 1)))) k p') ∧ (∀ p' st', pCll T st q = .inr (p', st') → q < p' ∧ Ok2 T n m (b_Rea_readClause_80 F (tL T q) 0 0 (if tL T q < 4 then 0 else 1) (a_st m 12 10 (nI (st.2.2.2 + 1)))) p' st') := by
  obtain ⟨l, l8, el, el1⟩ := tL_in hl
  obtain ⟨rs, ds⟩ := (h.c1 hc).al (!decide (tL T q < 4))
  have hu := h.2.2.2.2.2
  have eal : (if (!decide (tL T q < 4)) = true then (1 : Int32) else 0) = if tL T q < 4 then 0 else 1 := by
    by_cases c : tL T q < 4 <;> simp [c]
  rw [eal] at rs ds
  have fr : Fr fR2 m (a_st (a_st m 12 10 (nI (st.2.2.2 + 1))) 11 4 (if tL T q < 4 then 0 else 1)) := (Fr.rf.st (by simp [fR2])).st (by simp [fR2])
  unfold b_Rea_readClause_80 b_Rea_readClause_131
  rw [show isb (if tL T q < 4 then 0 else 1) = true by by_cases c : tL T q < 4 <;> simp [c, isb], o_gd_t, o_let_eq, if_pos rfl, if_pos rfl]
  generalize a_st (a_st m 12 10 (nI (st.2.2.2 + 1))) 11 4 (if tL T q < 4 then 0 else 1) = m2 at rs ds fr
  have r1 := rs.at (q := q + 1) (by omega) (by omega)
  have sg := c_sign (c := 61) r1 hF (by decide)
  unfold f_Rea_readEquals pCll
  simp only [o_let_eq, rs.2.1, nI_1, show f_Len_here 12 (a_st m2 11 2 (nI (q + 1))) = some (nI u) from congrArg some r1.2.2.2.2.1, o_b_some]
  refine ⟨fun k p' e => ?_, fun p' st' e => ?_⟩
  · rcases pB_inl e with e | ⟨p1, z1, e1, e⟩
    · exact Fl2.tr (fr.st (show fR2 11 2 by simp [fR2])) (sg.1 k p' e).b.to2.b
    obtain ⟨g1, e1', rs1⟩ := sg.2 p1 z1 e1
    have cr := (c_sum0 (T := T) (n := n) (al := !decide (tL T q < 4)) hF) _ _ _ rs1
    simp only [e1', o_b2_some, show ¬ (1 : Int32) = 0 by decide, if_false]
    rw [a_st_st] at rs1 ⊢
    rw [a_st_st] at cr
    rcases pB_inl e with e | ⟨p2, v, ev, e⟩
    · exact Fl2.tr (fr.st (show fR2 11 2 by simp [fR2])) (cr.1 k p' e).b.to2.b
    obtain ⟨g2, m3, u3, e3, rs3, a1, a2, a3, a4, a5⟩ := cr.2 p2 v ev
    have h4 := rs3.n4
    have hu3 := rs3.2.2.2.2.2
    have d3 : DS 12 m3 (lS1 st) u3 := ds.rd rs3.2.2.2.2.1 (by omega) (by omega) (fun j hj => by rw [(a4 j hj).1, (a4 j hj).2]; simp [a_rd]) ((Fr.rf.st (by simp [fR])).tr a5)
    have d4 := d3.lt (p := p1) (u0 := u) (v := v) (l := l) (by omega) (a3.mo (by omega))
    have rq : RQ T n _ (lSl st l (p1, v)) p2 u3 := ⟨⟨h.1.1, by rw [a_st_ne (by decide), a_st_ne (by decide)]; exact rs3.1.2.1, fun j hj => by rw [a_st_ne (by decide), a_st_ne (by decide)]; exact rs3.1.2.2 j hj⟩, by rw [a_st_ne (by decide), a_st_ne (by decide)]; exact rs3.2.1, by rw [a_st_ne (by decide), a_st_ne (by decide)]; exact rs3.2.2.1, d4, hu3.1, hu3.2⟩
    simp only [e3, o_b2_some, show ¬ (1 : Int32) = 0 by decide, if_false, el, c_endLetter (u := u) l8 d3.1]
    rcases pB_inl e with e | ⟨p3, z, ez, e⟩
    · exact Fl2.tr ((((fr.st (show fR2 11 2 by simp [fR2])).tr (a5.mono fR_2)).st (by simp [fR2])).st (by simp [fR2])) ((c_end rq hF).1 k p' e)
    · simp at e
  · obtain ⟨p1, z1, e1, e⟩ := pB_inr e
    obtain ⟨g1, e1', rs1⟩ := sg.2 p1 z1 e1
    have cr := (c_sum0 (T := T) (n := n) (al := !decide (tL T q < 4)) hF) _ _ _ rs1
    simp only [e1', o_b2_some, show ¬ (1 : Int32) = 0 by decide, if_false]
    rw [a_st_st] at rs1 ⊢
    rw [a_st_st] at cr
    obtain ⟨p2, v, ev, e⟩ := pB_inr e
    obtain ⟨g2, m3, u3, e3, rs3, a1, a2, a3, a4, a5⟩ := cr.2 p2 v ev
    have h4 := rs3.n4
    have hu3 := rs3.2.2.2.2.2
    have d3 : DS 12 m3 (lS1 st) u3 := ds.rd rs3.2.2.2.2.1 (by omega) (by omega) (fun j hj => by rw [(a4 j hj).1, (a4 j hj).2]; simp [a_rd]) ((Fr.rf.st (by simp [fR])).tr a5)
    have d4 := d3.lt (p := p1) (u0 := u) (v := v) (l := l) (by omega) (a3.mo (by omega))
    have rq : RQ T n _ (lSl st l (p1, v)) p2 u3 := ⟨⟨h.1.1, by rw [a_st_ne (by decide), a_st_ne (by decide)]; exact rs3.1.2.1, fun j hj => by rw [a_st_ne (by decide), a_st_ne (by decide)]; exact rs3.1.2.2 j hj⟩, by rw [a_st_ne (by decide), a_st_ne (by decide)]; exact rs3.2.1, by rw [a_st_ne (by decide), a_st_ne (by decide)]; exact rs3.2.2.1, d4, hu3.1, hu3.2⟩
    simp only [e3, o_b2_some, show ¬ (1 : Int32) = 0 by decide, if_false, el, c_endLetter (u := u) l8 d3.1]
    obtain ⟨p3, z, ez, e⟩ := pB_inr e
    simp only [Sum.inr.injEq, Prod.mk.injEq, el, nI_clamp (show l < 2 ^ 31 by omega)] at e
    obtain ⟨rfl, rfl⟩ := e
    obtain ⟨g3, g4⟩ := (c_end rq hF).2 p3 z ez
    exact ⟨by omega, g4.tr ((((fr.st (show fR2 11 2 by simp [fR2])).tr (a5.mono fR_2)).st (by simp [fR2])).st (by simp [fR2]))⟩
theorem c_clause (h : RQ T n m st q u) (hq : q < n) (hF : 401 ≤ F) :
    (∀ k p', pCl T st q = .inl (k, p') → Fl2 m (f_Rea_readClause F m) k p') ∧ (∀ p' st', pCl T st q = .inr (p', st') → q < p' ∧ Ok2 T n m (f_Rea_readClause F m) p' st') := by
  have dc : m 12 10 = nI st.2.2.2 := h.2.2.2.1.2.1
  have d16 := h.2.2.2.1.2.2.2.1
  have f38 : ∀ x1 x2 x3, b_Rea_readClause_38 F x1 x2 x3 m = if st.2.2.2 < 16 then (b_Rea_readClause_80 F x1 x2 x3 (if x1 < 4 then 0 else 1) (a_st m 12 10 (nI (st.2.2.2 + 1)))) else (o_b2 (f_Rea_fail 3 m) fun y m2 => o_gd (isb y) <| some (y, m2)) := fun x1 x2 x3 => by
    unfold b_Rea_readClause_38
    simp only [dc, o_let_eq, nI_1]
    by_cases c : st.2.2.2 < 16
    · rw [if_pos c, if_pos (show nI st.2.2.2 < 16 from nI_lt (b := 16) c (by decide))]
      by_cases d : x1 < 4
      · rw [if_pos d, if_pos d]
      · rw [if_neg d, if_neg d]
    · rw [if_neg c, if_neg (show ¬ nI st.2.2.2 < 16 from nI_nlt (b := 16) (by omega) (by omega))]
  have no3 : (∀ k p', (.inl (3, q) : pO lS) = .inl (k, p') → Fl2 m (o_b2 (f_Rea_fail 3 m) fun y m2 => o_gd (isb y) <| some (y, m2)) k p') ∧ (∀ p' st', (.inl (3, q) : pO lS) = .inr (p', st') → q < p' ∧ Ok2 T n m (o_b2 (f_Rea_fail 3 m) fun y m2 => o_gd (isb y) <| some (y, m2)) p' st') := by
    refine ⟨fun k p' e => ?_, fun p' st' e => by simp at e⟩
    simp only [Sum.inl.injEq, Prod.mk.injEq] at e
    obtain ⟨rfl, rfl⟩ := e
    exact (Fl.mk2 h.2.1).to2
  unfold f_Rea_readClause pCl
  simp only [c_letter h.1 h.2.1 h.2.2.2.2.1, c_word wd_keep h.1 h.2.1 h.2.2.2.2.1 (by decide) hF, c_word wd_law h.1 h.2.1 h.2.2.2.2.1 (by decide) hF, o_b_some, f38]
  by_cases w1 : tW T q wKeep = true
  · have l1 : tL T q = -1 := tW_tL w1 (by decide)
    simp only [if_pos w1, if_pos l1, show ¬ (1 : Int32) = 0 by decide, if_false]
    by_cases c : st.2.2.2 < 16
    · simp only [if_pos c, l1, show ((-1 : Int32) < 4) = True by decide, if_true]
      exact c_clk h c w1 hF
    · simp only [if_neg c]
      exact no3
  simp only [if_neg w1, if_true]
  by_cases w2 : tW T q wLaw = true
  · have l1 : tL T q = -1 := tW_tL w2 (by decide)
    simp only [if_pos w2, if_pos l1, show ¬ (1 : Int32) = 0 by decide, if_false]
    by_cases c : st.2.2.2 < 16
    · simp only [if_pos c, l1, show ((-1 : Int32) < 4) = True by decide, if_true]
      exact c_clw h c w2 hF
    · simp only [if_neg c]
      exact no3
  simp only [if_neg w2, if_true]
  by_cases l1 : tL T q = -1
  · simp only [if_pos l1]
    refine ⟨fun k p' e => ?_, fun p' st' e => by simp at e⟩
    simp only [Sum.inl.injEq, Prod.mk.injEq] at e
    obtain ⟨rfl, rfl⟩ := e
    exact (Fl.mk2 h.2.1).to2
  · simp only [if_neg l1]
    by_cases c : st.2.2.2 < 16
    · simp only [if_pos c]
      exact c_cll h hq c l1 hF
    · simp only [if_neg c]
      exact no3
end
theorem c_lens_l {T : Nat → Int32} {n F : Nat} (hF : 402 ≤ F) : ∀ (d t N p u : Nat) (st : lS) (m : aM), t + d = 401 → d < N → RQ T n m st p u →
    (∀ k q, pLn T n d st p = .inl (k, q) → Fl2 m (ll_Rea_readLens_42 F N (nI t) m) k q) ∧ (∀ q st', pLn T n d st p = .inr (q, st') → Ok2 T n m (ll_Rea_readLens_42 F N (nI t) m) q st')
  | 0, t, N, p, u, st, m, ht, hN, h => by
    obtain ⟨N, rfl⟩ : ∃ k, N = k + 1 := ⟨N - 1, by omega⟩
    obtain rfl : t = 401 := by omega
    have e0 : ll_Rea_readLens_42 F (N + 1) (nI 401) m = lb_Rea_readLens_42 F (ll_Rea_readLens_42 F N) (nI 401) m := rfl
    rw [e0]
    unfold lb_Rea_readLens_42
    rw [if_pos (show (400 : Int32) < nI 401 by decide)]
    refine ⟨fun k q e => ?_, fun q z e => by simp [pLn] at e⟩
    simp only [pLn, Sum.inl.injEq, Prod.mk.injEq] at e
    obtain ⟨rfl, rfl⟩ := e
    exact (Fl.mk2 h.2.1).to2
  | d + 1, t, N, p, u, st, m, ht, hN, h => by
    obtain ⟨N, rfl⟩ : ∃ k, N = k + 1 := ⟨N - 1, by omega⟩
    have e0 : ll_Rea_readLens_42 F (N + 1) (nI t) m = lb_Rea_readLens_42 F (ll_Rea_readLens_42 F N) (nI t) m := rfl
    have g := kp_ge (T := T) (p := p)
    have gl := kp_le h.1.1 h.2.2.2.2.1
    have h4 := h.1.1.1
    have h6 := h.2.2.2.2.2
    rw [e0]
    unfold lb_Rea_readLens_42 pLn
    simp only [if_neg (show ¬ (400 : Int32) < nI t from nI_nlt (a := 400) (b := t) (by omega) (by omega)), c_skip h.1 h.2.1 h.2.2.2.2.1 (show 401 ≤ F by omega), o_b2_some, a_st_self, nI_1]
    rw [a_st_no (by decide), h.1.2.1]
    have fr : Fr fR2 m (a_st m 11 2 (nI (kp T p))) := Fr.rf.st (by simp [fR2])
    have rq : RQ T n (a_st m 11 2 (nI (kp T p))) st (kp T p) u := ⟨h.1.fr (Fr.rf.st (by simp [fR])), a_st_self, by rw [a_st_no (by decide)]; exact h.2.2.1, h.2.2.2.1.rd (by rw [a_st_no (by decide)]; exact h.2.2.2.1.1) (Nat.le_refl _) h.2.2.2.1.2.2.2.2.2.1 (fun j _ => ⟨by simp [a_rd], by simp [a_rd]⟩) (Fr.rf.st (by simp [fR])), gl, by omega⟩
    by_cases c : kp T p < n
    · rw [if_pos c, if_pos (nI_lt c (by omega))]
      have cl := c_clause (F := F) rq c (by omega)
      refine ⟨fun k q e => ?_, fun q z e => ?_⟩
      · rcases pB_inl e with e | ⟨p2, st2, e2, e⟩
        · exact Fl2.tr fr (cl.1 k q e).b
        · obtain ⟨g2, m2, u2, e3, rq2, f2⟩ := cl.2 p2 st2 e2
          simp only [e3, o_b2_some, show ¬ (1 : Int32) = 0 by decide, if_false]
          exact Fl2.tr (fr.tr f2) ((c_lens_l hF d (t + 1) N p2 u2 st2 m2 (by omega) (by omega) rq2).1 k q e)
      · obtain ⟨p2, st2, e2, e⟩ := pB_inr e
        obtain ⟨g2, m2, u2, e3, rq2, f2⟩ := cl.2 p2 st2 e2
        simp only [e3, o_b2_some, show ¬ (1 : Int32) = 0 by decide, if_false]
        exact ((c_lens_l hF d (t + 1) N p2 u2 st2 m2 (by omega) (by omega) rq2).2 q z e).tr (fr.tr f2)
    · rw [if_neg c, if_neg (nI_nlt (by omega) (by omega))]
      refine ⟨fun k q e => by simp at e, fun q z e => ?_⟩
      simp only [Sum.inr.injEq, Prod.mk.injEq] at e
      obtain ⟨rfl, rfl⟩ := e
      exact ⟨_, u, rfl, rq, fr⟩
