/-! THE CLASS'S READER: units, tests, levels -/
theorem Fl.b {m : aM} {r : Option (Int32 × aM)} {k : Int32} {q : Nat} {c : Int32 → aM → Option (Int32 × aM)} (h : Fl m r k q) : Fl m (o_b2 r fun y m2 => if y = 0 then some (0, m2) else c y m2) k q := by
  obtain ⟨m', e, h1, h2, h3⟩ := h
  exact ⟨m', by rw [e]; simp [o_b2_some], h1, h2, h3⟩
/-- with the test of a boolean behind it -/
theorem Fl.i {m : aM} {r : Option (Int32 × aM)} {k : Int32} {q : Nat} (h : Fl m r k q) : Fl m (o_b2 r fun y m2 => o_gd (isb y) <| some (y, m2)) k q := by
  obtain ⟨m', e, h1, h2, h3⟩ := h
  exact ⟨m', by rw [e]; rfl, h1, h2, h3⟩
theorem Ok.i {T : Nat → Int32} {n : Nat} {al : Bool} {m : aM} {r : Option (Int32 × aM)} {p0 u0 q o K : Nat} {v : pV} (h : Ok T n al m r p0 u0 q o K v) : Ok T n al m (o_b2 r fun y m2 => o_gd (isb y) <| some (y, m2)) p0 u0 q o K v := by
  obtain ⟨m', u', e, h1⟩ := h
  exact ⟨m', u', by rw [e]; rfl, h1⟩
theorem c_jump {m : aM} {u j : Nat} (h : m 12 2 = nI u) (hj : j < u) (hu : u ≤ 400) : f_Len_jumpHere 12 (nI j) m = some (0, a_st m 14 j (nI u)) := by
  unfold f_Len_jumpHere
  rw [if_neg (nI_pos (by omega)), h, if_neg (nI_ge hj (by omega)), inb_nI (show j < 400 by omega) (by decide), o_gd_t, o_let_eq, nI_clamp (by omega)]
theorem RS.jp {T : Nat → Int32} {n : Nat} {al : Bool} {m : aM} {p o u : Nat} (h : RS T n al m p o u) {j : Nat} {x : Int32} : RS T n al (a_st m 14 j x) p o u := ⟨h.1.fr (Fr.rf.st (by simp [fR])), by rw [a_st_no (by omega)]; exact h.2.1, by rw [a_st_no (by omega)]; exact h.2.2.1, by rw [a_st_no (by omega)]; exact h.2.2.2.1, by rw [a_st_no (by omega)]; exact h.2.2.2.2.1, h.2.2.2.2.2⟩
theorem c_pair {T : Nat → Int32} {n : Nat} {al : Bool} {F o KS K : Nat} {rcS rcT : aM → Option (Int32 × aM)} {S : Nat → pO pV} {x : Int32} (hS : o < 6 → CR T n al rcS S (o + 1) KS) (hF : 401 ≤ F) (ho : o ≤ 6) (hx : 6 ≤ x ∧ x ≤ 16) (hK : KS + 1 ≤ K) : CR T n al (g_Rea_readPair F rcS rcT x) (pPr T S x o) o K := fun m p u rs => by
  have op := c_open (k := fun p1 => pB (S p1) fun p2 v => pB (pSg T 44 p2) fun p3 _ => pB (S p3) fun p4 u => pB (pSg T 41 p4) fun p5 _ => .inr (p5, pv2 (jn x) v u)) rs hF (c := 40) (by decide) ho
  unfold g_Rea_readPair
  refine ⟨fun k q e => ?_, fun q v e => ?_⟩
  · rcases op.1 (k, q) e with h | ⟨m1, q1, o6, p1, e1, rs1, f13, fr, e⟩
    · exact h.b
    rw [e1]
    simp only [o_b2_some, show ¬ (1 : Int32) = 0 by decide, if_false]
    refine Fl.tr fr ?_
    have s1 := hS o6 m1 q1 u rs1
    rcases pB_inl e with e | ⟨p2, v, ev, e⟩
    · exact (s1.1 k q e).b
    obtain ⟨g2, m2, u2, e2, rs2, a1, a2, a3, a4, a5⟩ := s1.2 p2 v ev
    rw [e2]
    simp only [o_b2_some, show ¬ (1 : Int32) = 0 by decide, if_false]
    refine Fl.tr a5 ?_
    have sg := c_sign (c := 44) rs2 hF (by decide)
    rcases pB_inl e with e | ⟨p3, z, ez, e⟩
    · exact (sg.1 k q e).b
    obtain ⟨g3, e3, rs3⟩ := sg.2 p3 z ez
    rw [e3]
    simp only [o_b2_some, show ¬ (1 : Int32) = 0 by decide, if_false]
    refine Fl.tr (m1 := a_st m2 11 2 (nI p3)) (Fr.rf.st (by simp [fR])) ?_
    have s2 := hS o6 _ _ _ rs3
    rcases pB_inl e with e | ⟨p4, w, ew, e⟩
    · exact (s2.1 k q e).b
    obtain ⟨g4, m4, u4, e4, rs4, b1, b2, b3, b4, b5⟩ := s2.2 p4 w ew
    rw [e4]
    simp only [o_b2_some, show ¬ (1 : Int32) = 0 by decide, if_false]
    refine Fl.tr b5 ?_
    have cl := c_close (c := 41) rs4 hF (by decide)
    rcases pB_inl e with e | ⟨p5, z, ez, e⟩
    · exact (cl.1 k q e).b
    · simp at e
  · obtain ⟨m1, q1, o6, p1, e1, rs1, f13, fr, e⟩ := op.2 (q, v) e
    obtain ⟨p2, v1, ev, e⟩ := pB_inr e
    obtain ⟨p3, z, ez, e⟩ := pB_inr e
    obtain ⟨p4, w, ew, e⟩ := pB_inr e
    obtain ⟨p5, z', ez', e⟩ := pB_inr e
    simp only [Sum.inr.injEq, Prod.mk.injEq] at e
    obtain ⟨rfl, rfl⟩ := e
    obtain ⟨g2, m2, u2, e2, rs2, a1, a2, a3, a4, a5⟩ := (hS o6 m1 q1 u rs1).2 p2 v1 ev
    obtain ⟨g3, e3, rs3⟩ := (c_sign (c := 44) rs2 hF (by decide)).2 p3 z ez
    obtain ⟨g4, m4, u4, e4, rs4, b1, b2, b3, b4, b5⟩ := (hS o6 _ _ _ rs3).2 p4 w ew
    obtain ⟨g5, m5, e5, rs5, c1, c2⟩ := (c_close (c := 41) rs4 hF (by decide)).2 p5 z' ez'
    have h4 := rs5.n4
    have hp := rs5.2.2.2.2.2.1
    have hu4 := rs4.2.2.2.2.2.2
    have pre : ∀ j, j < u2 → m5 13 j = m2 13 j ∧ m5 14 j = m2 14 j := fun j hj => by
      rw [(c1 j).1, (c1 j).2, (b4 j hj).1, (b4 j hj).2]
      simp [a_rd]
    refine ⟨by omega, adO m5 u4 x 0, u4 + 1, ?_, rs5.ado (by omega), by omega, by omega, ?_, fun j hj => ?_, ((((fr.tr a5).tr (Fr.rf.st (show fR 11 2 by simp [fR]))).tr b5).tr c2).tr adO_fr⟩
    · rw [e1]
      simp only [o_b2_some, show ¬ (1 : Int32) = 0 by decide, if_false]
      rw [e2]
      simp only [o_b2_some, show ¬ (1 : Int32) = 0 by decide, if_false]
      rw [e3]
      simp only [o_b2_some, show ¬ (1 : Int32) = 0 by decide, if_false]
      rw [e4]
      simp only [o_b2_some, show ¬ (1 : Int32) = 0 by decide, if_false]
      rw [e5]
      simp only [o_b2_some, show ¬ (1 : Int32) = 0 by decide, if_false]
      rw [c_add rs5.2.2.2.2.1 (by omega), o_b2_some]
    · refine Cd.bin (K1 := KS) (K2 := KS) (a3.cg (fun j j1 j2 => ?_)) (b3.cg (fun j j1 j2 => ?_)) (by omega) (by omega) adO_o hx.1 hx.2 (by omega) hK
      · rw [adO_13 (by omega), adO_14 (by omega)]
        exact pre j j2
      · rw [adO_13 (by omega), adO_14 (by omega)]
        exact c1 j
    · rw [adO_13 (by omega), adO_14 (by omega), (pre j (by omega)).1, (pre j (by omega)).2, (a4 j hj).1, (a4 j hj).2]
      exact f13 j
theorem c_par {T : Nat → Int32} {n : Nat} {al : Bool} {F o KS K : Nat} {g : aM → Option (Int32 × aM)} {S : Nat → pO pV} {c e : Int32} (hS : o < 6 → CR T n al g S (o + 1) KS) (hF : 401 ≤ F) (ho : o ≤ 6) (hc : c ≠ -1) (he : e ≠ -1) (hK : KS ≤ K) : CR T n al (fun m => o_b2 (f_Rea_readOpening F c m) fun y26 m27 => (if y26 = 0 then some (0, m27) else o_b2 (g m27) fun y28 m29 => (if y28 = 0 then some (0, m29) else o_b2 (f_Rea_readClosing F e m29) fun y30 m31 => (if y30 = 0 then some (0, m31) else some (1, m31))))) (pPa T S c e o) o K := fun m p u rs => by
  have op := c_open (k := fun p1 => pB (S p1) fun p2 v => pB (pSg T e p2) fun p3 _ => .inr (p3, v)) rs hF hc ho
  refine ⟨fun k q e => ?_, fun q v e => ?_⟩
  · rcases op.1 (k, q) e with h | ⟨m1, q1, o6, p1, e1, rs1, f13, fr, e⟩
    · exact h.b
    simp only [e1]
    simp only [o_b2_some, show ¬ (1 : Int32) = 0 by decide, if_false]
    refine Fl.tr fr ?_
    have s1 := hS o6 m1 q1 u rs1
    rcases pB_inl e with e | ⟨p2, v, ev, e⟩
    · exact (s1.1 k q e).b
    obtain ⟨g2, m2, u2, e2, rs2, a1, a2, a3, a4, a5⟩ := s1.2 p2 v ev
    rw [e2]
    simp only [o_b2_some, show ¬ (1 : Int32) = 0 by decide, if_false]
    refine Fl.tr a5 ?_
    have cl := c_close rs2 hF he
    rcases pB_inl e with e | ⟨p5, z, ez, e⟩
    · exact (cl.1 k q e).b
    · simp at e
  · obtain ⟨m1, q1, o6, p1, e1, rs1, f13, fr, e⟩ := op.2 (q, v) e
    obtain ⟨p2, v1, ev, e⟩ := pB_inr e
    obtain ⟨p5, z', ez', e⟩ := pB_inr e
    simp only [Sum.inr.injEq, Prod.mk.injEq] at e
    obtain ⟨rfl, rfl⟩ := e
    obtain ⟨g2, m2, u2, e2, rs2, a1, a2, a3, a4, a5⟩ := (hS o6 m1 q1 u rs1).2 p2 v1 ev
    obtain ⟨g5, m5, e5, rs5, c1, c2⟩ := (c_close rs2 hF he).2 p5 z' ez'
    refine ⟨by omega, m5, u2, ?_, rs5, by omega, by omega, (a3.cg (fun j _ _ => c1 j)).mo hK, fun j hj => ?_, (fr.tr a5).tr c2⟩
    · simp only [e1]
      simp only [o_b2_some, show ¬ (1 : Int32) = 0 by decide, if_false]
      rw [e2]
      simp only [o_b2_some, show ¬ (1 : Int32) = 0 by decide, if_false]
      rw [e5]
      simp only [o_b2_some, show ¬ (1 : Int32) = 0 by decide, if_false]
    · rw [(c1 j).1, (c1 j).2, (a4 j hj).1, (a4 j hj).2]
      exact f13 j
theorem c_if {T : Nat → Int32} {n : Nat} {al : Bool} {F o KS KC K : Nat} {rcS rcT : aM → Option (Int32 × aM)} {S C : Nat → pO pV} (hS : o < 6 → CR T n al rcS S (o + 1) KS) (hC : o < 6 → CR T n al (g_Rea_readAny F rcS rcT) C (o + 1) KC) (hF : 401 ≤ F) (ho : o ≤ 6) (hK : KS ≤ K) (hK2 : KC ≤ K) (hK1 : 1 ≤ K) : CR T n al (g_Rea_readIf F rcS rcT) (pIf T S C o) o K := fun m p u rs => by
  have op := c_open (k := fun p1 => pB (C p1) fun p2 c => pB (pSg T 44 p2) fun p3 _ => pB (S p3) fun p4 v => pB (pSg T 44 p4) fun p5 _ => pB (S p5) fun p6 u => pB (pSg T 41 p6) fun p7 _ => .inr (p7, fun a b => if c a b = 0 then u a b else v a b)) rs hF (c := 40) (by decide) ho
  unfold g_Rea_readIf
  refine ⟨fun k q e => ?_, fun q v e => ?_⟩
  · rcases op.1 (k, q) e with h | ⟨m1, q1, o6, p1, e1, rs1, f13, fr, e⟩
    · exact h.b
    rw [e1]
    simp only [o_b2_some, show ¬ (1 : Int32) = 0 by decide, if_false]
    refine Fl.tr fr ?_
    have s1 := hC o6 m1 q1 u rs1
    rcases pB_inl e with e | ⟨p2, v, ev, e⟩
    · exact (s1.1 k q e).b
    obtain ⟨g2, m2, u2, e2, rs2, a1, a2, a3, a4, a5⟩ := s1.2 p2 v ev
    rw [e2]
    simp only [o_b2_some, show ¬ (1 : Int32) = 0 by decide, if_false]
    refine Fl.tr a5 ?_
    have sg := c_sign (c := 44) rs2 hF (by decide)
    rcases pB_inl e with e | ⟨p3, z, ez, e⟩
    · exact (sg.1 k q e).b
    obtain ⟨g3, e3, rs3⟩ := sg.2 p3 z ez
    have h4 := rs3.n4
    have hp := rs3.2.2.2.2.2.1
    have hu2 := rs2.2.2.2.2.2.2
    rw [e3]
    simp only [o_b2_some, show ¬ (1 : Int32) = 0 by decide, if_false]
    rw [c_add rs3.2.2.2.2.1 (by omega)]
    simp only [o_b2_some]
    refine Fl.tr (m1 := adO (a_st m2 11 2 (nI p3)) u2 4 0) ((Fr.rf.st (by simp [fR])).tr adO_fr) ?_
    have rs3' := rs3.ado (x := 4) (y := 0) (by omega)
    have s2 := hS o6 _ _ _ rs3'
    rcases pB_inl e with e | ⟨p4, w, ew, e⟩
    · exact (s2.1 k q e).b
    obtain ⟨g4, m4, u4, e4, rs4, b1, b2, b3, b4, b5⟩ := s2.2 p4 w ew
    rw [e4]
    simp only [o_b2_some, show ¬ (1 : Int32) = 0 by decide, if_false]
    refine Fl.tr b5 ?_
    have sg := c_sign (c := 44) rs4 hF (by decide)
    rcases pB_inl e with e | ⟨p5, z, ez, e⟩
    · exact (sg.1 k q e).b
    obtain ⟨g5, e5, rs5⟩ := sg.2 p5 z ez
    have hp5 := rs5.2.2.2.2.2.1
    have hu4 := rs4.2.2.2.2.2.2
    rw [e5]
    simp only [o_b2_some, show ¬ (1 : Int32) = 0 by decide, if_false]
    have rs5' := rs5.ado (x := 3) (y := 0) (by omega)
    rw [c_add rs5.2.2.2.2.1 (by omega)]
    simp only [o_b2_some]
    rw [c_jump (j := u2) rs5'.2.2.2.2.1 (by omega) (by omega)]
    simp only [o_b2_some]
    refine Fl.tr (m1 := a_st (adO (a_st m4 11 2 (nI p5)) u4 3 0) 14 u2 (nI (u4 + 1))) (((Fr.rf.st (by simp [fR])).tr adO_fr).st (by simp [fR])) ?_
    have s3 := hS o6 _ _ _ (rs5'.jp (j := u2) (x := nI (u4 + 1)))
    rcases pB_inl e with e | ⟨p6, w6, ew6, e⟩
    · exact (s3.1 k q e).b
    obtain ⟨g6, m6, u6, e6, rs6, c1, c2, c3, c4, c5⟩ := s3.2 p6 w6 ew6
    rw [e6]
    simp only [o_b2_some, show ¬ (1 : Int32) = 0 by decide, if_false]
    refine Fl.tr c5 ?_
    have cl := c_close (c := 41) rs6 hF (by decide)
    rcases pB_inl e with e | ⟨p7, z, ez, e⟩
    · exact (cl.1 k q e).b
    · simp at e
  · obtain ⟨m1, q1, o6, p1, e1, rs1, f13, fr, e⟩ := op.2 (q, v) e
    obtain ⟨p2, v2, ev, e⟩ := pB_inr e
    obtain ⟨p3, z3, ez3, e⟩ := pB_inr e
    obtain ⟨p4, v4, ev4, e⟩ := pB_inr e
    obtain ⟨p5, z5, ez5, e⟩ := pB_inr e
    obtain ⟨p6, v6, ev6, e⟩ := pB_inr e
    obtain ⟨p7, z7, ez7, e⟩ := pB_inr e
    simp only [Sum.inr.injEq, Prod.mk.injEq] at e
    obtain ⟨rfl, rfl⟩ := e
    obtain ⟨g2, m2, u2, e2, rs2, a1, a2, a3, a4, a5⟩ := (hC o6 m1 q1 u rs1).2 p2 v2 ev
    obtain ⟨g3, e3, rs3⟩ := (c_sign (c := 44) rs2 hF (by decide)).2 p3 z3 ez3
    have h4 := rs3.n4
    have hp := rs3.2.2.2.2.2.1
    have hu2 := rs2.2.2.2.2.2.2
    have rs3' := rs3.ado (x := 4) (y := 0) (by omega)
    obtain ⟨g4, m4, u4, e4, rs4, b1, b2, b3, b4, b5⟩ := (hS o6 _ _ _ rs3').2 p4 v4 ev4
    obtain ⟨g5, e5, rs5⟩ := (c_sign (c := 44) rs4 hF (by decide)).2 p5 z5 ez5
    have hp5 := rs5.2.2.2.2.2.1
    have hu4 := rs4.2.2.2.2.2.2
    have rs5' := rs5.ado (x := 3) (y := 0) (by omega)
    obtain ⟨g6, m6, u6, e6, rs6, c1, c2, c3, c4, c5⟩ := (hS o6 _ _ _ (rs5'.jp (j := u2) (x := nI (u4 + 1)))).2 p6 v6 ev6
    obtain ⟨g7, m7, e7, rs7, d1, d2⟩ := (c_close (c := 41) rs6 hF (by decide)).2 p7 z7 ez7
    have hp7 := rs7.2.2.2.2.2.1
    have hu6 := rs6.2.2.2.2.2.2
    have q2 : ∀ j, j < u4 + 1 → m7 13 j = adO (a_st m4 11 2 (nI p5)) u4 3 0 13 j ∧ m7 14 j = a_st (adO (a_st m4 11 2 (nI p5)) u4 3 0) 14 u2 (nI (u4 + 1)) 14 j := fun j hj => by
      rw [(d1 j).1, (d1 j).2, (c4 j hj).1, (c4 j hj).2]
      exact ⟨a_st_no (by omega), rfl⟩
    have q3 : ∀ j, j < u4 → j ≠ u2 → m7 13 j = m4 13 j ∧ m7 14 j = m4 14 j := fun j hj hn => by
      rw [(q2 j (by omega)).1, (q2 j (by omega)).2, adO_13 (by omega), a_st_no (by omega), a_st_no (by omega), adO_14 (by omega), a_st_no (by omega)]
      exact ⟨rfl, rfl⟩
    have q4 : ∀ j, j < u2 → m7 13 j = m2 13 j ∧ m7 14 j = m2 14 j := fun j hj => by
      rw [(q3 j (by omega) (by omega)).1, (q3 j (by omega) (by omega)).2, (b4 j (by omega)).1, (b4 j (by omega)).2, adO_13 (by omega), adO_14 (by omega)]
      simp [a_rd]
    refine ⟨by omega, a_st m7 14 u4 (nI u6), u6, ?_, rs7.jp, by omega, by omega, ?_, fun j hj => ?_, ?_⟩
    · rw [e1]
      simp only [o_b2_some, show ¬ (1 : Int32) = 0 by decide, if_false]
      rw [e2]
      simp only [o_b2_some, show ¬ (1 : Int32) = 0 by decide, if_false]
      rw [e3]
      simp only [o_b2_some, show ¬ (1 : Int32) = 0 by decide, if_false]
      rw [c_add rs3.2.2.2.2.1 (by omega)]
      simp only [o_b2_some]
      rw [e4]
      simp only [o_b2_some, show ¬ (1 : Int32) = 0 by decide, if_false]
      rw [e5]
      simp only [o_b2_some, show ¬ (1 : Int32) = 0 by decide, if_false]
      rw [c_add rs5.2.2.2.2.1 (by omega)]
      simp only [o_b2_some]
      rw [c_jump (j := u2) rs5'.2.2.2.2.1 (by omega) (by omega)]
      simp only [o_b2_some]
      rw [e6]
      simp only [o_b2_some, show ¬ (1 : Int32) = 0 by decide, if_false]
      rw [e7]
      simp only [o_b2_some, show ¬ (1 : Int32) = 0 by decide, if_false]
      rw [c_jump rs7.2.2.2.2.1 (by omega) (by omega)]
      simp only [o_b2_some]
    · refine Cd.iff (u1 := u2) (u2 := u4) (K1 := KC) (K2 := KS) (K3 := KS) (a3.cg (fun j j1 j2 => ?_)) (b3.cg (fun j j1 j2 => ?_)) (c3.cg (fun j j1 j2 => ?_)) (by omega) (by omega) (by omega) (by omega) ?_ ?_ ?_ ?_ hK2 hK hK hK1
      · rw [a_st_no (by omega), a_st_no (by omega)]
        exact q4 j j2
      · rw [a_st_no (by omega), a_st_no (by omega)]
        exact q3 j j2 (by omega)
      · rw [a_st_no (by omega), a_st_no (by omega)]
        exact d1 j
      · rw [a_st_no (by omega), (q2 u2 (by omega)).1, adO_13 (by omega), a_st_no (by omega), (b4 u2 (by omega)).1, adO_o]
      · rw [a_st_no (by omega), (q2 u2 (by omega)).2, a_st_self]
      · rw [a_st_no (by omega), (q2 u4 (by omega)).1, adO_o]
      · rw [a_st_self]
    · rw [a_st_no (by omega), a_st_no (by omega), (q4 j (by omega)).1, (q4 j (by omega)).2, (a4 j hj).1, (a4 j hj).2]
      exact f13 j
    · exact ((((((fr.tr a5).tr ((Fr.rf.st (show fR 11 2 by simp [fR])).tr adO_fr)).tr b5).tr (((Fr.rf.st (show fR 11 2 by simp [fR])).tr adO_fr).st (show fR 14 u2 by simp [fR]))).tr c5).tr d2).st (by simp [fR])
