/-! THE CLASS'S READER: what comes one after the other -/
theorem Ok.tr {T : Nat → Int32} {n : Nat} {al : Bool} {m m1 : aM} {r : Option (Int32 × aM)} {p0 u0 q o K : Nat} {v : pV} (f : Fr fR m m1) (e : ∀ j, j < u0 → m1 13 j = m 13 j ∧ m1 14 j = m 14 j) (h : Ok T n al m1 r p0 u0 q o K v) : Ok T n al m r p0 u0 q o K v := by
  obtain ⟨m', u', h1, h2, h3, h4, h5, h6, h7⟩ := h
  exact ⟨m', u', h1, h2, h3, h4, h5, fun j hj => ⟨(h6 j hj).1.trans (e j hj).1, (h6 j hj).2.trans (e j hj).2⟩, f.tr h7⟩
theorem c_more {T : Nat → Int32} {n : Nat} {al : Bool} {g : aM → Option (Int32 × aM)} {X : Nat → pO pV} {o KX K p0 u0 u1 s1 : Nat} {x : Int32} {v : pV} {R : aM → Option (Int32 × aM)} {Y : Nat → pV → pO pV} {m m1 : aM} (hX : CR T n al g X o KX) (hK : KX + 1 ≤ K) (hx : 6 ≤ x ∧ x ≤ 16) (rs1 : RS T n al m1 s1 o u1) (hs : u1 < s1) (f1 : Fr fR m m1) (f13 : ∀ j, m1 13 j = m 13 j ∧ m1 14 j = m 14 j) (h1 : u0 < u1) (h2 : u1 + 1 + p0 ≤ u0 + s1) (hv : Cd (m 13) (m 14) u0 u1 K v) (hR : ∀ p' u2 w m', RS T n al m' p' o u2 → u0 < u2 → u2 + p0 ≤ u0 + p' → Cd (m' 13) (m' 14) u0 u2 K (pv2 (jn x) v w) → (∀ k q, Y p' w = .inl (k, q) → Fl m' (R m') k q) ∧ (∀ q z, Y p' w = .inr (q, z) → p' ≤ q ∧ Ok T n al m' (R m') p0 u0 q o K z)) :
    (∀ k q, pB (X s1) Y = .inl (k, q) → Fl m (o_b2 (g m1) fun y2 m3 => if y2 = 0 then some (0, m3) else o_b2 (f_Len_addOrder 12 x 0 m3) fun _ m2 => R m2) k q) ∧ (∀ q z, pB (X s1) Y = .inr (q, z) → s1 < q ∧ Ok T n al m (o_b2 (g m1) fun y2 m3 => if y2 = 0 then some (0, m3) else o_b2 (f_Len_addOrder 12 x 0 m3) fun _ m2 => R m2) p0 u0 q o K z) := by
  have hx1 := hX _ _ _ rs1
  have key : ∀ p' w, X s1 = .inr (p', w) → s1 < p' ∧ ∃ m2 u2, (o_b2 (g m1) fun y2 m3 => if y2 = 0 then some (0, m3) else o_b2 (f_Len_addOrder 12 x 0 m3) fun _ m2 => R m2) = R m2 ∧ RS T n al m2 p' o u2 ∧ u0 < u2 ∧ u2 + p0 ≤ u0 + p' ∧ Cd (m2 13) (m2 14) u0 u2 K (pv2 (jn x) v w) ∧ (∀ j, j < u0 → m2 13 j = m 13 j ∧ m2 14 j = m 14 j) ∧ Fr fR m m2 := fun p' w e => by
    obtain ⟨g1, m3, u2, e3, rs3, a1, a2, a3, a4, a5⟩ := hx1.2 p' w e
    have h4 := rs3.n4
    have hp := rs3.2.2.2.2.2.1
    have hu : u2 < p' := by omega
    refine ⟨g1, adO m3 u2 x 0, u2 + 1, ?_, rs3.ado hu, by omega, by omega, ?_, fun j hj => ?_, (f1.tr a5).tr adO_fr⟩
    · rw [e3]
      simp only [o_b2_some, show ¬ (1 : Int32) = 0 by decide, if_false, c_add rs3.2.2.2.2.1 (show u2 < 400 by omega)]
    · refine Cd.bin (hv.cg (fun j j1 j2 => ?_)) (a3.cg (fun j j1 j2 => ?_)) (by omega) (by omega) adO_o hx.1 hx.2 (Nat.le_refl _) hK
      · rw [adO_13 (by omega), adO_14 (by omega), (a4 j (by omega)).1, (a4 j (by omega)).2]
        exact f13 j
      · rw [adO_13 (by omega), adO_14 (by omega)]
        exact ⟨rfl, rfl⟩
    · rw [adO_13 (by omega), adO_14 (by omega), (a4 j (by omega)).1, (a4 j (by omega)).2]
      exact f13 j
  refine ⟨fun k q e => ?_, fun q z e => ?_⟩
  · rcases pB_inl e with e | ⟨p', w, e, e'⟩
    · obtain ⟨m3, e3, b1, b2, b3⟩ := hx1.1 k q e
      rw [e3]
      exact ⟨m3, by simp [o_b2_some], b1, b2, f1.tr b3⟩
    · obtain ⟨g1, m2, u2, e2, rs2, a1, a2, a3, a4, a5⟩ := key p' w e
      rw [e2]
      exact Fl.tr a5 ((hR p' u2 w m2 rs2 a1 a2 a3).1 k q e')
  · obtain ⟨p', w, e, e'⟩ := pB_inr e
    obtain ⟨g1, m2, u2, e2, rs2, a1, a2, a3, a4, a5⟩ := key p' w e
    rw [e2]
    obtain ⟨b1, b2⟩ := (hR p' u2 w m2 rs2 a1 a2 a3).2 q z e'
    exact ⟨by omega, Ok.tr a5 a4 b2⟩
theorem c_readProduct_l {T : Nat → Int32} {n : Nat} {al : Bool} {F o KX K p0 u0 : Nat} {rcS rcT : aM → Option (Int32 × aM)} {X : Nat → pO pV} (hX : CR T n al (g_Rea_readUnit F rcS rcT) X o KX) (hF : 401 ≤ F) (hK : KX + 1 ≤ K) : ∀ (d t N p u1 : Nat) (v : pV) (m : aM), t + d = 400 → d < N → RS T n al m p o u1 → u0 < u1 → u1 + p0 ≤ u0 + p → Cd (m 13) (m 14) u0 u1 K v →
    (∀ k q, pLp T X 42 8 47 9 d v p = .inl (k, q) → Fl m (ll_Rea_readProduct_11 F rcS rcT N (nI t) m) k q) ∧ (∀ q z, pLp T X 42 8 47 9 d v p = .inr (q, z) → p ≤ q ∧ Ok T n al m (ll_Rea_readProduct_11 F rcS rcT N (nI t) m) p0 u0 q o K z)
  | 0, t, N, p, u1, v, m, ht, hN, rs, h1, h2, hv => by
    obtain ⟨N, rfl⟩ : ∃ k, N = k + 1 := ⟨N - 1, by omega⟩
    obtain rfl : t = 400 := by omega
    show (∀ k q, pLp T X 42 8 47 9 0 v p = .inl (k, q) → Fl m (lb_Rea_readProduct_11 F rcS rcT (ll_Rea_readProduct_11 F rcS rcT N) (nI 400) m) k q) ∧ _
    unfold lb_Rea_readProduct_11
    rw [if_pos (show (400 : Int32) ≤ nI 400 by decide)]
    refine ⟨fun k q e => ?_, fun q z e => by simp [pLp] at e⟩
    simp only [pLp, Sum.inl.injEq, Prod.mk.injEq] at e
    obtain ⟨rfl, rfl⟩ := e
    exact Fl.mk2 rs.2.1
  | d + 1, t, N, p, u1, v, m, ht, hN, rs, h1, h2, hv => by
    obtain ⟨N, rfl⟩ : ∃ k, N = k + 1 := ⟨N - 1, by omega⟩
    have g := kp_ge (T := T) (p := p)
    have g2 := rs.2.2.2.2.2.2
    have gl := kp_le rs.1.1 rs.2.2.2.2.2.1
    have rk := rs.at (q := kp T p) gl (by omega)
    have hkk : kp T (kp T p) = kp T p := kp_kp rs.1.1
    have e0 : ll_Rea_readProduct_11 F rcS rcT (N + 1) (nI t) m = lb_Rea_readProduct_11 F rcS rcT (ll_Rea_readProduct_11 F rcS rcT N) (nI t) m := rfl
    rw [e0]
    unfold lb_Rea_readProduct_11 b_Rea_readProduct_40 b_Rea_readProduct_74 pLp
    simp only [if_neg (nI_400 (show t < 400 by omega)), c_isSign rs.1 rs.2.1 rs.2.2.2.2.2.1 hF, o_b2_some, c_isSign rk.1 rk.2.1 gl hF, hkk, a_st_st, o_let_eq, a_st_self, nI_1]
    by_cases e1 : T (kp T p) = 42
    · have hl := rs.1.1.lt e1 (by decide)
      simp only [if_pos e1, show ¬ (1 : Int32) = 0 by decide, if_false]
      have r := c_more (Y := fun p' u => pLp T X 42 8 47 9 d (pv2 (jn 8) v u) p') (R := fun m2 => ll_Rea_readProduct_11 F rcS rcT N (nI (t + 1)) m2) (m := m) (p0 := p0) hX hK (x := 8) ⟨by decide, by decide⟩ (rs.at (q := kp T p + 1) (by omega) (by omega)) (by omega) (Fr.rf.st (by simp [fR])) (fun j => ⟨by simp [a_rd], by simp [a_rd]⟩) h1 (by omega) hv (fun p' u2 w m' r1 r2 r3 r4 => c_readProduct_l hX hF hK d (t + 1) N p' u2 _ m' (by omega) (by omega) r1 r2 r3 r4)
      exact ⟨r.1, fun q z e => ⟨by have := (r.2 q z e).1; omega, (r.2 q z e).2⟩⟩
    · simp only [if_neg e1, if_true]
      by_cases e2 : T (kp T p) = 47
      · have hl := rs.1.1.lt e2 (by decide)
        simp only [if_pos e2, show ¬ (1 : Int32) = 0 by decide, if_false]
        have r := c_more (Y := fun p' u => pLp T X 42 8 47 9 d (pv2 (jn 9) v u) p') (R := fun m2 => ll_Rea_readProduct_11 F rcS rcT N (nI (t + 1)) m2) (m := m) (p0 := p0) hX hK (x := 9) ⟨by decide, by decide⟩ (rs.at (q := kp T p + 1) (by omega) (by omega)) (by omega) (Fr.rf.st (by simp [fR])) (fun j => ⟨by simp [a_rd], by simp [a_rd]⟩) h1 (by omega) hv (fun p' u2 w m' r1 r2 r3 r4 => c_readProduct_l hX hF hK d (t + 1) N p' u2 _ m' (by omega) (by omega) r1 r2 r3 r4)
        exact ⟨r.1, fun q z e => ⟨by have := (r.2 q z e).1; omega, (r.2 q z e).2⟩⟩
      · simp only [if_neg e2, if_true]
        refine ⟨fun k q e => by simp at e, fun q z e => ?_⟩
        simp only [Sum.inr.injEq, Prod.mk.injEq] at e
        obtain ⟨rfl, rfl⟩ := e
        exact ⟨g, _, u1, rfl, rk, h1, by omega, hv.cg (fun j _ _ => ⟨by simp [a_rd], by simp [a_rd]⟩), fun j _ => ⟨by simp [a_rd], by simp [a_rd]⟩, Fr.rf.st (by simp [fR])⟩
theorem c_readProduct {T : Nat → Int32} {n : Nat} {al : Bool} {F o KX K : Nat} {rcS rcT : aM → Option (Int32 × aM)} {X : Nat → pO pV} (hX : CR T n al (g_Rea_readUnit F rcS rcT) X o KX) (hF : 401 ≤ F) (hK : KX + 1 ≤ K) : CR T n al (g_Rea_readProduct F rcS rcT) (pLq T X 42 8 47 9) o K := fun m p u rs => by
  have hx1 := hX _ _ _ rs
  unfold g_Rea_readProduct pLq
  refine ⟨fun k q e => ?_, fun q z e => ?_⟩
  · rcases pB_inl e with e | ⟨p', w, e, e'⟩
    · obtain ⟨m3, e3, b1, b2, b3⟩ := hx1.1 k q e
      rw [e3]
      exact ⟨m3, by simp [o_b2_some], b1, b2, b3⟩
    · obtain ⟨g1, m2, u2, e2, rs2, a1, a2, a3, a4, a5⟩ := hx1.2 p' w e
      rw [e2]
      simp only [o_b2_some, show ¬ (1 : Int32) = 0 by decide, if_false]
      exact Fl.tr a5 ((c_readProduct_l (p0 := p) hX hF hK 400 0 F p' u2 w m2 rfl (by omega) rs2 a1 a2 (a3.mo (by omega))).1 k q e')
  · obtain ⟨p', w, e, e'⟩ := pB_inr e
    obtain ⟨g1, m2, u2, e2, rs2, a1, a2, a3, a4, a5⟩ := hx1.2 p' w e
    rw [e2]
    simp only [o_b2_some, show ¬ (1 : Int32) = 0 by decide, if_false]
    obtain ⟨b1, b2⟩ := (c_readProduct_l (p0 := p) hX hF hK 400 0 F p' u2 w m2 rfl (by omega) rs2 a1 a2 (a3.mo (by omega))).2 q z e'
    exact ⟨by omega, Ok.tr a5 a4 b2⟩
theorem c_readSum_l {T : Nat → Int32} {n : Nat} {al : Bool} {F o KX K p0 u0 : Nat} {rcS rcT : aM → Option (Int32 × aM)} {X : Nat → pO pV} (hX : CR T n al (g_Rea_readProduct F rcS rcT) X o KX) (hF : 401 ≤ F) (hK : KX + 1 ≤ K) : ∀ (d t N p u1 : Nat) (v : pV) (m : aM), t + d = 400 → d < N → RS T n al m p o u1 → u0 < u1 → u1 + p0 ≤ u0 + p → Cd (m 13) (m 14) u0 u1 K v →
    (∀ k q, pLp T X 43 6 45 7 d v p = .inl (k, q) → Fl m (ll_Rea_readSum_11 F rcS rcT N (nI t) m) k q) ∧ (∀ q z, pLp T X 43 6 45 7 d v p = .inr (q, z) → p ≤ q ∧ Ok T n al m (ll_Rea_readSum_11 F rcS rcT N (nI t) m) p0 u0 q o K z)
  | 0, t, N, p, u1, v, m, ht, hN, rs, h1, h2, hv => by
    obtain ⟨N, rfl⟩ : ∃ k, N = k + 1 := ⟨N - 1, by omega⟩
    obtain rfl : t = 400 := by omega
    show (∀ k q, pLp T X 43 6 45 7 0 v p = .inl (k, q) → Fl m (lb_Rea_readSum_11 F rcS rcT (ll_Rea_readSum_11 F rcS rcT N) (nI 400) m) k q) ∧ _
    unfold lb_Rea_readSum_11
    rw [if_pos (show (400 : Int32) ≤ nI 400 by decide)]
    refine ⟨fun k q e => ?_, fun q z e => by simp [pLp] at e⟩
    simp only [pLp, Sum.inl.injEq, Prod.mk.injEq] at e
    obtain ⟨rfl, rfl⟩ := e
    exact Fl.mk2 rs.2.1
  | d + 1, t, N, p, u1, v, m, ht, hN, rs, h1, h2, hv => by
    obtain ⟨N, rfl⟩ : ∃ k, N = k + 1 := ⟨N - 1, by omega⟩
    have g := kp_ge (T := T) (p := p)
    have g2 := rs.2.2.2.2.2.2
    have gl := kp_le rs.1.1 rs.2.2.2.2.2.1
    have rk := rs.at (q := kp T p) gl (by omega)
    have hkk : kp T (kp T p) = kp T p := kp_kp rs.1.1
    have e0 : ll_Rea_readSum_11 F rcS rcT (N + 1) (nI t) m = lb_Rea_readSum_11 F rcS rcT (ll_Rea_readSum_11 F rcS rcT N) (nI t) m := rfl
    rw [e0]
    unfold lb_Rea_readSum_11 b_Rea_readSum_40 b_Rea_readSum_74 pLp
    simp only [if_neg (nI_400 (show t < 400 by omega)), c_isSign rs.1 rs.2.1 rs.2.2.2.2.2.1 hF, o_b2_some, c_isSign rk.1 rk.2.1 gl hF, hkk, a_st_st, o_let_eq, a_st_self, nI_1]
    by_cases e1 : T (kp T p) = 43
    · have hl := rs.1.1.lt e1 (by decide)
      simp only [if_pos e1, show ¬ (1 : Int32) = 0 by decide, if_false]
      have r := c_more (Y := fun p' u => pLp T X 43 6 45 7 d (pv2 (jn 6) v u) p') (R := fun m2 => ll_Rea_readSum_11 F rcS rcT N (nI (t + 1)) m2) (m := m) (p0 := p0) hX hK (x := 6) ⟨by decide, by decide⟩ (rs.at (q := kp T p + 1) (by omega) (by omega)) (by omega) (Fr.rf.st (by simp [fR])) (fun j => ⟨by simp [a_rd], by simp [a_rd]⟩) h1 (by omega) hv (fun p' u2 w m' r1 r2 r3 r4 => c_readSum_l hX hF hK d (t + 1) N p' u2 _ m' (by omega) (by omega) r1 r2 r3 r4)
      exact ⟨r.1, fun q z e => ⟨by have := (r.2 q z e).1; omega, (r.2 q z e).2⟩⟩
    · simp only [if_neg e1, if_true]
      by_cases e2 : T (kp T p) = 45
      · have hl := rs.1.1.lt e2 (by decide)
        simp only [if_pos e2, show ¬ (1 : Int32) = 0 by decide, if_false]
        have r := c_more (Y := fun p' u => pLp T X 43 6 45 7 d (pv2 (jn 7) v u) p') (R := fun m2 => ll_Rea_readSum_11 F rcS rcT N (nI (t + 1)) m2) (m := m) (p0 := p0) hX hK (x := 7) ⟨by decide, by decide⟩ (rs.at (q := kp T p + 1) (by omega) (by omega)) (by omega) (Fr.rf.st (by simp [fR])) (fun j => ⟨by simp [a_rd], by simp [a_rd]⟩) h1 (by omega) hv (fun p' u2 w m' r1 r2 r3 r4 => c_readSum_l hX hF hK d (t + 1) N p' u2 _ m' (by omega) (by omega) r1 r2 r3 r4)
        exact ⟨r.1, fun q z e => ⟨by have := (r.2 q z e).1; omega, (r.2 q z e).2⟩⟩
      · simp only [if_neg e2, if_true]
        refine ⟨fun k q e => by simp at e, fun q z e => ?_⟩
        simp only [Sum.inr.injEq, Prod.mk.injEq] at e
        obtain ⟨rfl, rfl⟩ := e
        exact ⟨g, _, u1, rfl, rk, h1, by omega, hv.cg (fun j _ _ => ⟨by simp [a_rd], by simp [a_rd]⟩), fun j _ => ⟨by simp [a_rd], by simp [a_rd]⟩, Fr.rf.st (by simp [fR])⟩
theorem c_readSum {T : Nat → Int32} {n : Nat} {al : Bool} {F o KX K : Nat} {rcS rcT : aM → Option (Int32 × aM)} {X : Nat → pO pV} (hX : CR T n al (g_Rea_readProduct F rcS rcT) X o KX) (hF : 401 ≤ F) (hK : KX + 1 ≤ K) : CR T n al (g_Rea_readSum F rcS rcT) (pLq T X 43 6 45 7) o K := fun m p u rs => by
  have hx1 := hX _ _ _ rs
  unfold g_Rea_readSum pLq
  refine ⟨fun k q e => ?_, fun q z e => ?_⟩
  · rcases pB_inl e with e | ⟨p', w, e, e'⟩
    · obtain ⟨m3, e3, b1, b2, b3⟩ := hx1.1 k q e
      rw [e3]
      exact ⟨m3, by simp [o_b2_some], b1, b2, b3⟩
    · obtain ⟨g1, m2, u2, e2, rs2, a1, a2, a3, a4, a5⟩ := hx1.2 p' w e
      rw [e2]
      simp only [o_b2_some, show ¬ (1 : Int32) = 0 by decide, if_false]
      exact Fl.tr a5 ((c_readSum_l (p0 := p) hX hF hK 400 0 F p' u2 w m2 rfl (by omega) rs2 a1 a2 (a3.mo (by omega))).1 k q e')
  · obtain ⟨p', w, e, e'⟩ := pB_inr e
    obtain ⟨g1, m2, u2, e2, rs2, a1, a2, a3, a4, a5⟩ := hx1.2 p' w e
    rw [e2]
    simp only [o_b2_some, show ¬ (1 : Int32) = 0 by decide, if_false]
    obtain ⟨b1, b2⟩ := (c_readSum_l (p0 := p) hX hF hK 400 0 F p' u2 w m2 rfl (by omega) rs2 a1 a2 (a3.mo (by omega))).2 q z e'
    exact ⟨by omega, Ok.tr a5 a4 b2⟩
theorem c_readAll_l {T : Nat → Int32} {n : Nat} {al : Bool} {F o KX K p0 u0 : Nat} {rcS rcT : aM → Option (Int32 × aM)} {X : Nat → pO pV} (hX : CR T n al (rcT) X o KX) (hF : 401 ≤ F) (hK : KX + 1 ≤ K) : ∀ (d t N p u1 : Nat) (v : pV) (m : aM), t + d = 400 → d < N → RS T n al m p o u1 → u0 < u1 → u1 + p0 ≤ u0 + p → Cd (m 13) (m 14) u0 u1 K v →
    (∀ k q, pWp T X wAnd 15 d v p = .inl (k, q) → Fl m (ll_Rea_readAll_11 F rcS rcT N (nI t) m) k q) ∧ (∀ q z, pWp T X wAnd 15 d v p = .inr (q, z) → p ≤ q ∧ Ok T n al m (ll_Rea_readAll_11 F rcS rcT N (nI t) m) p0 u0 q o K z)
  | 0, t, N, p, u1, v, m, ht, hN, rs, h1, h2, hv => by
    obtain ⟨N, rfl⟩ : ∃ k, N = k + 1 := ⟨N - 1, by omega⟩
    obtain rfl : t = 400 := by omega
    show (∀ k q, pWp T X wAnd 15 0 v p = .inl (k, q) → Fl m (lb_Rea_readAll_11 F rcS rcT (ll_Rea_readAll_11 F rcS rcT N) (nI 400) m) k q) ∧ _
    unfold lb_Rea_readAll_11
    rw [if_pos (show (400 : Int32) ≤ nI 400 by decide)]
    refine ⟨fun k q e => ?_, fun q z e => by simp [pWp] at e⟩
    simp only [pWp, Sum.inl.injEq, Prod.mk.injEq] at e
    obtain ⟨rfl, rfl⟩ := e
    exact Fl.mk2 rs.2.1
  | d + 1, t, N, p, u1, v, m, ht, hN, rs, h1, h2, hv => by
    obtain ⟨N, rfl⟩ : ∃ k, N = k + 1 := ⟨N - 1, by omega⟩
    have g := kp_ge (T := T) (p := p)
    have g2 := rs.2.2.2.2.2.2
    have gl := kp_le rs.1.1 rs.2.2.2.2.2.1
    have rk := rs.at (q := kp T p) gl (by omega)
    have e0 : ll_Rea_readAll_11 F rcS rcT (N + 1) (nI t) m = lb_Rea_readAll_11 F rcS rcT (ll_Rea_readAll_11 F rcS rcT N) (nI t) m := rfl
    rw [e0]
    unfold lb_Rea_readAll_11 pWp
    simp only [if_neg (nI_400 (show t < 400 by omega)), c_skip rs.1 rs.2.1 rs.2.2.2.2.2.1 hF, o_b2_some, c_word wd_and rk.1 rk.2.1 gl (by decide) hF, o_b_some, o_let_eq, a_st_self, a_st_st, show nI (kp T p) + 3 = nI (kp T p + 3) from nI_add _ 3]
    by_cases e1 : tW T (kp T p) wAnd = true
    · have hl := tW_lt rs.1.1 wAnd (kp T p) (by decide) gl e1
      simp only [List.length_cons, List.length_nil] at hl
      simp only [if_pos e1, show ¬ (1 : Int32) = 0 by decide, if_false, nI_1]
      have r := c_more (Y := fun p' u => pWp T X wAnd 15 d (pv2 (jn 15) v u) p') (R := fun m2 => ll_Rea_readAll_11 F rcS rcT N (nI (t + 1)) m2) (m := m) (p0 := p0) hX hK (x := 15) ⟨by decide, by decide⟩ (rs.at (q := kp T p + 3) (by omega) (by omega)) (by omega) (Fr.rf.st (by simp [fR])) (fun j => ⟨by simp [a_rd], by simp [a_rd]⟩) h1 (by omega) hv (fun p' u2 w m' r1 r2 r3 r4 => c_readAll_l hX hF hK d (t + 1) N p' u2 _ m' (by omega) (by omega) r1 r2 r3 r4)
      exact ⟨r.1, fun q z e => ⟨by have := (r.2 q z e).1; omega, (r.2 q z e).2⟩⟩
    · simp only [if_neg e1, if_true]
      refine ⟨fun k q e => by simp at e, fun q z e => ?_⟩
      simp only [Bool.false_eq_true, if_false, Sum.inr.injEq, Prod.mk.injEq] at e
      obtain ⟨rfl, rfl⟩ := e
      exact ⟨g, _, u1, rfl, rk, h1, by omega, hv.cg (fun j _ _ => ⟨by simp [a_rd], by simp [a_rd]⟩), fun j _ => ⟨by simp [a_rd], by simp [a_rd]⟩, Fr.rf.st (by simp [fR])⟩
theorem c_readAll {T : Nat → Int32} {n : Nat} {al : Bool} {F o KX K : Nat} {rcS rcT : aM → Option (Int32 × aM)} {X : Nat → pO pV} (hX : CR T n al (rcT) X o KX) (hF : 401 ≤ F) (hK : KX + 1 ≤ K) : CR T n al (g_Rea_readAll F rcS rcT) (pWq T X wAnd 15) o K := fun m p u rs => by
  have hx1 := hX _ _ _ rs
  unfold g_Rea_readAll pWq
  refine ⟨fun k q e => ?_, fun q z e => ?_⟩
  · rcases pB_inl e with e | ⟨p', w, e, e'⟩
    · obtain ⟨m3, e3, b1, b2, b3⟩ := hx1.1 k q e
      rw [e3]
      exact ⟨m3, by simp [o_b2_some], b1, b2, b3⟩
    · obtain ⟨g1, m2, u2, e2, rs2, a1, a2, a3, a4, a5⟩ := hx1.2 p' w e
      rw [e2]
      simp only [o_b2_some, show ¬ (1 : Int32) = 0 by decide, if_false]
      exact Fl.tr a5 ((c_readAll_l (p0 := p) hX hF hK 400 0 F p' u2 w m2 rfl (by omega) rs2 a1 a2 (a3.mo (by omega))).1 k q e')
  · obtain ⟨p', w, e, e'⟩ := pB_inr e
    obtain ⟨g1, m2, u2, e2, rs2, a1, a2, a3, a4, a5⟩ := hx1.2 p' w e
    rw [e2]
    simp only [o_b2_some, show ¬ (1 : Int32) = 0 by decide, if_false]
    obtain ⟨b1, b2⟩ := (c_readAll_l (p0 := p) hX hF hK 400 0 F p' u2 w m2 rfl (by omega) rs2 a1 a2 (a3.mo (by omega))).2 q z e'
    exact ⟨by omega, Ok.tr a5 a4 b2⟩
theorem c_readAny_l {T : Nat → Int32} {n : Nat} {al : Bool} {F o KX K p0 u0 : Nat} {rcS rcT : aM → Option (Int32 × aM)} {X : Nat → pO pV} (hX : CR T n al (g_Rea_readAll F rcS rcT) X o KX) (hF : 401 ≤ F) (hK : KX + 1 ≤ K) : ∀ (d t N p u1 : Nat) (v : pV) (m : aM), t + d = 400 → d < N → RS T n al m p o u1 → u0 < u1 → u1 + p0 ≤ u0 + p → Cd (m 13) (m 14) u0 u1 K v →
    (∀ k q, pWp T X wOr 16 d v p = .inl (k, q) → Fl m (ll_Rea_readAny_11 F rcS rcT N (nI t) m) k q) ∧ (∀ q z, pWp T X wOr 16 d v p = .inr (q, z) → p ≤ q ∧ Ok T n al m (ll_Rea_readAny_11 F rcS rcT N (nI t) m) p0 u0 q o K z)
  | 0, t, N, p, u1, v, m, ht, hN, rs, h1, h2, hv => by
    obtain ⟨N, rfl⟩ : ∃ k, N = k + 1 := ⟨N - 1, by omega⟩
    obtain rfl : t = 400 := by omega
    show (∀ k q, pWp T X wOr 16 0 v p = .inl (k, q) → Fl m (lb_Rea_readAny_11 F rcS rcT (ll_Rea_readAny_11 F rcS rcT N) (nI 400) m) k q) ∧ _
    unfold lb_Rea_readAny_11
    rw [if_pos (show (400 : Int32) ≤ nI 400 by decide)]
    refine ⟨fun k q e => ?_, fun q z e => by simp [pWp] at e⟩
    simp only [pWp, Sum.inl.injEq, Prod.mk.injEq] at e
    obtain ⟨rfl, rfl⟩ := e
    exact Fl.mk2 rs.2.1
  | d + 1, t, N, p, u1, v, m, ht, hN, rs, h1, h2, hv => by
    obtain ⟨N, rfl⟩ : ∃ k, N = k + 1 := ⟨N - 1, by omega⟩
    have g := kp_ge (T := T) (p := p)
    have g2 := rs.2.2.2.2.2.2
    have gl := kp_le rs.1.1 rs.2.2.2.2.2.1
    have rk := rs.at (q := kp T p) gl (by omega)
    have e0 : ll_Rea_readAny_11 F rcS rcT (N + 1) (nI t) m = lb_Rea_readAny_11 F rcS rcT (ll_Rea_readAny_11 F rcS rcT N) (nI t) m := rfl
    rw [e0]
    unfold lb_Rea_readAny_11 pWp
    simp only [if_neg (nI_400 (show t < 400 by omega)), c_skip rs.1 rs.2.1 rs.2.2.2.2.2.1 hF, o_b2_some, c_word wd_or rk.1 rk.2.1 gl (by decide) hF, o_b_some, o_let_eq, a_st_self, a_st_st, show nI (kp T p) + 2 = nI (kp T p + 2) from nI_add _ 2]
    by_cases e1 : tW T (kp T p) wOr = true
    · have hl := tW_lt rs.1.1 wOr (kp T p) (by decide) gl e1
      simp only [List.length_cons, List.length_nil] at hl
      simp only [if_pos e1, show ¬ (1 : Int32) = 0 by decide, if_false, nI_1]
      have r := c_more (Y := fun p' u => pWp T X wOr 16 d (pv2 (jn 16) v u) p') (R := fun m2 => ll_Rea_readAny_11 F rcS rcT N (nI (t + 1)) m2) (m := m) (p0 := p0) hX hK (x := 16) ⟨by decide, by decide⟩ (rs.at (q := kp T p + 2) (by omega) (by omega)) (by omega) (Fr.rf.st (by simp [fR])) (fun j => ⟨by simp [a_rd], by simp [a_rd]⟩) h1 (by omega) hv (fun p' u2 w m' r1 r2 r3 r4 => c_readAny_l hX hF hK d (t + 1) N p' u2 _ m' (by omega) (by omega) r1 r2 r3 r4)
      exact ⟨r.1, fun q z e => ⟨by have := (r.2 q z e).1; omega, (r.2 q z e).2⟩⟩
    · simp only [if_neg e1, if_true]
      refine ⟨fun k q e => by simp at e, fun q z e => ?_⟩
      simp only [Bool.false_eq_true, if_false, Sum.inr.injEq, Prod.mk.injEq] at e
      obtain ⟨rfl, rfl⟩ := e
      exact ⟨g, _, u1, rfl, rk, h1, by omega, hv.cg (fun j _ _ => ⟨by simp [a_rd], by simp [a_rd]⟩), fun j _ => ⟨by simp [a_rd], by simp [a_rd]⟩, Fr.rf.st (by simp [fR])⟩
theorem c_readAny {T : Nat → Int32} {n : Nat} {al : Bool} {F o KX K : Nat} {rcS rcT : aM → Option (Int32 × aM)} {X : Nat → pO pV} (hX : CR T n al (g_Rea_readAll F rcS rcT) X o KX) (hF : 401 ≤ F) (hK : KX + 1 ≤ K) : CR T n al (g_Rea_readAny F rcS rcT) (pWq T X wOr 16) o K := fun m p u rs => by
  have hx1 := hX _ _ _ rs
  unfold g_Rea_readAny pWq
  refine ⟨fun k q e => ?_, fun q z e => ?_⟩
  · rcases pB_inl e with e | ⟨p', w, e, e'⟩
    · obtain ⟨m3, e3, b1, b2, b3⟩ := hx1.1 k q e
      rw [e3]
      exact ⟨m3, by simp [o_b2_some], b1, b2, b3⟩
    · obtain ⟨g1, m2, u2, e2, rs2, a1, a2, a3, a4, a5⟩ := hx1.2 p' w e
      rw [e2]
      simp only [o_b2_some, show ¬ (1 : Int32) = 0 by decide, if_false]
      exact Fl.tr a5 ((c_readAny_l (p0 := p) hX hF hK 400 0 F p' u2 w m2 rfl (by omega) rs2 a1 a2 (a3.mo (by omega))).1 k q e')
  · obtain ⟨p', w, e, e'⟩ := pB_inr e
    obtain ⟨g1, m2, u2, e2, rs2, a1, a2, a3, a4, a5⟩ := hx1.2 p' w e
    rw [e2]
    simp only [o_b2_some, show ¬ (1 : Int32) = 0 by decide, if_false]
    obtain ⟨b1, b2⟩ := (c_readAny_l (p0 := p) hX hF hK 400 0 F p' u2 w m2 rfl (by omega) rs2 a1 a2 (a3.mo (by omega))).2 q z e'
    exact ⟨by omega, Ok.tr a5 a4 b2⟩
