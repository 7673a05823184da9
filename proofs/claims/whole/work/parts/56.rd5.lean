/-! THE CLASS'S READER: levels -/
theorem CR.mo {T : Nat → Int32} {n : Nat} {al : Bool} {f : aM → Option (Int32 × aM)} {X : Nat → pO pV} {o K K' : Nat} (h : CR T n al f X o K) (hK : K ≤ K') : CR T n al f X o K' := fun m p u rs => ⟨(h m p u rs).1, fun q v e => by
  obtain ⟨g, m', u', h1, h2, h3, h4, h5, h6⟩ := (h m p u rs).2 q v e
  exact ⟨g, m', u', h1, h2, h3, h4, h5.mo hK, h6⟩⟩
/-- a run that begins behind something that was passed over -/
theorem CR.go {T : Nat → Int32} {n : Nat} {al : Bool} {f : aM → Option (Int32 × aM)} {X : Nat → pO pV} {o K : Nat} (h : CR T n al f X o K) {m : aM} {p u s : Nat} (rs : RS T n al m p o u) (hs : p ≤ s) (hn : s ≤ n) : (∀ k q, X s = .inl (k, q) → Fl m (f (a_st m 11 2 (nI s))) k q) ∧ (∀ q v, X s = .inr (q, v) → p < q ∧ Ok T n al m (f (a_st m 11 2 (nI s))) p u q o K v) := by
  have g := rs.2.2.2.2.2.2
  have h := h _ _ _ (rs.at (q := s) hn (by omega))
  refine ⟨fun k q e => Fl.tr (Fr.rf.st (by simp [fR])) (h.1 k q e), fun q v e => ?_⟩
  obtain ⟨g, m', u', h1, h2, h3, h4, h5, h6, h7⟩ := h.2 q v e
  exact ⟨by omega, m', u', h1, h2, h3, by omega, h5, fun j hj => by rw [(h6 j hj).1, (h6 j hj).2]; simp [a_rd], (Fr.rf.st (by simp [fR])).tr h7⟩
theorem c_unit {T : Nat → Int32} {n : Nat} {al : Bool} {F o KS KC K : Nat} {rcS rcT : aM → Option (Int32 × aM)} {S C : Nat → pO pV} (hS : o < 6 → CR T n al rcS S (o + 1) KS) (hC : o < 6 → CR T n al (g_Rea_readAny F rcS rcT) C (o + 1) KC) (hF : 401 ≤ F) (ho : o ≤ 6) (hK : KS + 1 ≤ K) (hK2 : KC ≤ K) : CR T n al (g_Rea_readUnit F rcS rcT) (pU T al S C o) o K := fun m p u rs => by
  have g := kp_ge (T := T) (p := p)
  have g2 := rs.2.2.2.2.2.2
  have gl := kp_le rs.1.1 rs.2.2.2.2.2.1
  have h4 := rs.n4
  have rk := rs.at (q := kp T p) gl (by omega)
  have hkk : kp T (kp T p) = kp T p := kp_kp rs.1.1
  have fl : ∀ {r k q}, Fl (a_st m 11 2 (nI (kp T p))) r k q → Fl m r k q := fun h => Fl.tr (Fr.rf.st (by simp [fR])) h
  have ok : ∀ {r q v}, kp T p < q → Ok T n al (a_st m 11 2 (nI (kp T p))) r (kp T p) u q o K v → p < q ∧ Ok T n al m r p u q o K v := fun hq h => by
    obtain ⟨m', u', h1, h2, h3, h4, h5, h6, h7⟩ := h
    exact ⟨by omega, m', u', h1, h2, h3, by omega, h5, fun j hj => by rw [(h6 j hj).1, (h6 j hj).2]; simp [a_rd], (Fr.rf.st (by simp [fR])).tr h7⟩
  unfold g_Rea_readUnit pU
  simp only [c_skip rs.1 rs.2.1 rs.2.2.2.2.2.1 hF, o_b2_some, rk.2.1, c_byte rk.1 (show kp T p < 2 ^ 31 by omega), o_b_some, c_digit, c_letter rk.1 rk.2.1 gl, c_isSign rk.1 rk.2.1 gl hF, hkk, a_st_st, c_word wd_least rk.1 rk.2.1 gl (by decide) hF, c_word wd_most rk.1 rk.2.1 gl (by decide) hF, c_word wd_if rk.1 rk.2.1 gl (by decide) hF, o_let_eq, show nI (kp T p) + 5 = nI (kp T p + 5) from nI_add _ 5, show nI (kp T p) + 4 = nI (kp T p + 4) from nI_add _ 4, show nI (kp T p) + 2 = nI (kp T p + 2) from nI_add _ 2]
  by_cases d : tD (T (kp T p))
  · simp only [if_pos d, show ¬ (1 : Int32) = 0 by decide, if_false]
    have nu := c_number (K := K) rk d hF (by omega)
    by_cases b : (nm T 400 0 (kp T p)).1 ≤ 9999
    · simp only [if_pos b]
      refine ⟨fun k q e => by simp at e, fun q v e => ?_⟩
      simp only [Sum.inr.injEq, Prod.mk.injEq] at e
      obtain ⟨rfl, rfl⟩ := e
      exact ok (nu.1 b).1 (nu.1 b).2.i
    · simp only [if_neg b]
      refine ⟨fun k q e => ?_, fun q v e => by simp at e⟩
      simp only [Sum.inl.injEq, Prod.mk.injEq] at e
      obtain ⟨rfl, rfl⟩ := e
      exact fl (nu.2 b).i
  simp only [if_neg d, if_true]
  by_cases l : tL T (kp T p) = -1
  · simp only [if_pos l]
    by_cases c40 : T (kp T p) = 40
    · simp only [if_pos c40, show ¬ (1 : Int32) = 0 by decide, if_false]
      have h := c_par (K := K) (c := 40) (e := 41) hS hF ho (by decide) (by decide) (by omega) _ _ _ rk
      exact ⟨fun k q e => fl (h.1 k q e), fun q v e => ok (h.2 q v e).1 (h.2 q v e).2⟩
    simp only [if_neg c40, if_true]
    by_cases w1 : tW T (kp T p) wLeast = true
    · have hl := tW_lt rs.1.1 wLeast (kp T p) (by decide) gl w1
      simp only [List.length_cons, List.length_nil] at hl
      simp only [if_pos w1, show ¬ (1 : Int32) = 0 by decide, if_false]
      have h := (c_pair (F := F) (rcT := rcT) (K := K) (x := 10) hS hF ho ⟨by decide, by decide⟩ hK).go rs (s := kp T p + 5) (by omega) (by omega)
      exact ⟨fun k q e => (h.1 k q e).i, fun q v e => ⟨(h.2 q v e).1, (h.2 q v e).2.i⟩⟩
    simp only [if_neg w1, if_true]
    by_cases w2 : tW T (kp T p) wMost = true
    · have hl := tW_lt rs.1.1 wMost (kp T p) (by decide) gl w2
      simp only [List.length_cons, List.length_nil] at hl
      simp only [if_pos w2, show ¬ (1 : Int32) = 0 by decide, if_false]
      have h := (c_pair (F := F) (rcT := rcT) (K := K) (x := 11) hS hF ho ⟨by decide, by decide⟩ hK).go rs (s := kp T p + 4) (by omega) (by omega)
      exact ⟨fun k q e => (h.1 k q e).i, fun q v e => ⟨(h.2 q v e).1, (h.2 q v e).2.i⟩⟩
    simp only [if_neg w2, if_true]
    by_cases w3 : tW T (kp T p) wIf = true
    · have hl := tW_lt rs.1.1 wIf (kp T p) (by decide) gl w3
      simp only [List.length_cons, List.length_nil] at hl
      simp only [if_pos w3, show ¬ (1 : Int32) = 0 by decide, if_false]
      have h := (c_if (K := K) hS hC hF ho (by omega) hK2 (by omega)).go rs (s := kp T p + 2) (by omega) (by omega)
      exact ⟨fun k q e => (h.1 k q e).i, fun q v e => ⟨(h.2 q v e).1, (h.2 q v e).2.i⟩⟩
    simp only [if_neg w3, if_true]
    refine ⟨fun k q e => ?_, fun q v e => by simp at e⟩
    simp only [Bool.false_eq_true, if_false, Sum.inl.injEq, Prod.mk.injEq] at e
    obtain ⟨rfl, rfl⟩ := e
    exact fl (Fl.mk2 a_st_self)
  · simp only [if_neg l]
    have h := c_operand (K := K) rk l (by omega)
    by_cases b : al = true ∧ ¬ tL T (kp T p) < 4
    · simp only [if_pos b]
      refine ⟨fun k q e => ?_, fun q v e => by simp at e⟩
      simp only [Sum.inl.injEq, Prod.mk.injEq] at e
      obtain ⟨rfl, rfl⟩ := e
      exact fl (h.1 b).i
    · simp only [if_neg b]
      refine ⟨fun k q e => by simp at e, fun q v e => ?_⟩
      simp only [Sum.inr.injEq, Prod.mk.injEq] at e
      obtain ⟨rfl, rfl⟩ := e
      exact ok (h.2 b).1 (h.2 b).2.i
theorem c_comparison {T : Nat → Int32} {n : Nat} {al : Bool} {F o KS K : Nat} {rcS rcT : aM → Option (Int32 × aM)} {S : Nat → pO pV} (hS : CR T n al rcS S o KS) (hF : 401 ≤ F) (hK : KS + 1 ≤ K) : CR T n al (g_Rea_readComparison F rcS rcT) (pCm T S) o K := fun m p u rs => by
  have s1 := hS _ _ _ rs
  unfold g_Rea_readComparison pCm b_Rea_readComparison_60
  have key : ∀ p1 v m1 u1, RS T n al m1 p1 o u1 → p < p1 → u < u1 → u1 + p ≤ u + p1 → Cd (m1 13) (m1 14) u u1 KS v → ∀ (x c : Int32), T (kp T p1) = c → c ≠ -1 → 6 ≤ x ∧ x ≤ 16 →
      (∀ k q, (pB (S (kp T p1 + 1)) fun p2 w => .inr (p2, pv2 (jn x) v w)) = .inl (k, q) → Fl m1 (o_b2 (rcS (a_st m1 11 2 (nI (kp T p1 + 1)))) fun y2 m3 => if y2 = 0 then some (0, m3) else o_b2 (f_Len_addOrder 12 x 0 m3) fun _ m2 => some (1, m2)) k q) ∧ (∀ q z, (pB (S (kp T p1 + 1)) fun p2 w => .inr (p2, pv2 (jn x) v w)) = .inr (q, z) → kp T p1 + 1 < q ∧ Ok T n al m1 (o_b2 (rcS (a_st m1 11 2 (nI (kp T p1 + 1)))) fun y2 m3 => if y2 = 0 then some (0, m3) else o_b2 (f_Len_addOrder 12 x 0 m3) fun _ m2 => some (1, m2)) p u q o K z) := fun p1 v m1 u1 r1 q1 q2 q3 q4 x c ec hc hx => by
    have g := kp_ge (T := T) (p := p1)
    have g2 := r1.2.2.2.2.2.2
    have hl := r1.1.1.lt ec hc
    refine c_more (R := fun m2 => some (1, m2)) hS hK hx (r1.at (q := kp T p1 + 1) (by omega) (by omega)) (by omega) (Fr.rf.st (by simp [fR])) (fun j => ⟨by simp [a_rd], by simp [a_rd]⟩) q2 (by omega) (q4.mo (by omega)) (fun p' u2 w m' t1 t2 t3 t4 => ⟨fun k q e => by simp at e, fun q z e => ?_⟩)
    simp only [Sum.inr.injEq, Prod.mk.injEq] at e
    obtain ⟨rfl, rfl⟩ := e
    exact ⟨Nat.le_refl _, m', u2, rfl, t1, t2, t3, t4, fun j _ => ⟨rfl, rfl⟩, Fr.rf⟩
  have run : ∀ (p1 : Nat) (m1 : aM) (u1 : Nat), RS T n al m1 p1 o u1 → f_Rea_isSign F 60 m1 = some (if T (kp T p1) = 60 then 1 else 0, a_st m1 11 2 (nI (kp T p1))) ∧ f_Rea_isSign F 62 (a_st m1 11 2 (nI (kp T p1))) = some (if T (kp T p1) = 62 then 1 else 0, a_st m1 11 2 (nI (kp T p1))) ∧ f_Rea_isSign F 61 (a_st m1 11 2 (nI (kp T p1))) = some (if T (kp T p1) = 61 then 1 else 0, a_st m1 11 2 (nI (kp T p1))) := fun p1 m1 u1 r1 => by
    have g := kp_ge (T := T) (p := p1)
    have gl := kp_le r1.1.1 r1.2.2.2.2.2.1
    have rk := r1.at (q := kp T p1) gl (by have := r1.2.2.2.2.2.2; omega)
    have hkk : kp T (kp T p1) = kp T p1 := kp_kp r1.1.1
    refine ⟨c_isSign r1.1 r1.2.1 r1.2.2.2.2.2.1 hF, ?_, ?_⟩
    · rw [c_isSign rk.1 rk.2.1 gl hF, hkk, a_st_st]
    · rw [c_isSign rk.1 rk.2.1 gl hF, hkk, a_st_st]
  refine ⟨fun k q e => ?_, fun q z e => ?_⟩
  · rcases pB_inl e with e | ⟨p1, v, ev, e⟩
    · exact (s1.1 k q e).b
    obtain ⟨g1, m1, u1, e1, r1, a1, a2, a3, a4, a5⟩ := s1.2 p1 v ev
    obtain ⟨w1, w2, w3⟩ := run p1 m1 u1 r1
    simp only [e1, o_b2_some, show ¬ (1 : Int32) = 0 by decide, if_false, w1, w2, w3, o_let_eq, a_st_self, a_st_st, nI_1]
    refine Fl.tr a5 ?_
    by_cases c1 : T (kp T p1) = 60
    · simp only [if_pos c1, show ¬ (1 : Int32) = 0 by decide, if_false] at e ⊢
      exact (key p1 v m1 u1 r1 g1 a1 a2 a3 12 60 c1 (by decide) ⟨by decide, by decide⟩).1 k q e
    simp only [if_neg c1, if_true] at e ⊢
    by_cases c2 : T (kp T p1) = 62
    · simp only [if_pos c2, show ¬ (1 : Int32) = 0 by decide, if_false] at e ⊢
      exact (key p1 v m1 u1 r1 g1 a1 a2 a3 13 62 c2 (by decide) ⟨by decide, by decide⟩).1 k q e
    simp only [if_neg c2, if_true] at e ⊢
    by_cases c3 : T (kp T p1) = 61
    · simp only [if_pos c3, show ¬ (1 : Int32) = 0 by decide, if_false] at e ⊢
      exact (key p1 v m1 u1 r1 g1 a1 a2 a3 14 61 c3 (by decide) ⟨by decide, by decide⟩).1 k q e
    simp only [if_neg c3, if_true] at e ⊢
    simp only [Sum.inl.injEq, Prod.mk.injEq] at e
    obtain ⟨rfl, rfl⟩ := e
    exact Fl.tr (Fr.rf.st (by simp [fR])) (Fl.mk2 a_st_self)
  · obtain ⟨p1, v, ev, e⟩ := pB_inr e
    obtain ⟨g1, m1, u1, e1, r1, a1, a2, a3, a4, a5⟩ := s1.2 p1 v ev
    obtain ⟨w1, w2, w3⟩ := run p1 m1 u1 r1
    have g := kp_ge (T := T) (p := p1)
    simp only [e1, o_b2_some, show ¬ (1 : Int32) = 0 by decide, if_false, w1, w2, w3, o_let_eq, a_st_self, a_st_st, nI_1]
    by_cases c1 : T (kp T p1) = 60
    · simp only [if_pos c1, show ¬ (1 : Int32) = 0 by decide, if_false] at e ⊢
      have h := (key p1 v m1 u1 r1 g1 a1 a2 a3 12 60 c1 (by decide) ⟨by decide, by decide⟩).2 q z e
      exact ⟨by omega, Ok.tr a5 a4 h.2⟩
    simp only [if_neg c1, if_true] at e ⊢
    by_cases c2 : T (kp T p1) = 62
    · simp only [if_pos c2, show ¬ (1 : Int32) = 0 by decide, if_false] at e ⊢
      have h := (key p1 v m1 u1 r1 g1 a1 a2 a3 13 62 c2 (by decide) ⟨by decide, by decide⟩).2 q z e
      exact ⟨by omega, Ok.tr a5 a4 h.2⟩
    simp only [if_neg c2, if_true] at e ⊢
    by_cases c3 : T (kp T p1) = 61
    · simp only [if_pos c3, show ¬ (1 : Int32) = 0 by decide, if_false] at e ⊢
      have h := (key p1 v m1 u1 r1 g1 a1 a2 a3 14 61 c3 (by decide) ⟨by decide, by decide⟩).2 q z e
      exact ⟨by omega, Ok.tr a5 a4 h.2⟩
    simp only [if_neg c3, if_true] at e ⊢
    simp at e
theorem c_test {T : Nat → Int32} {n : Nat} {al : Bool} {F o KS KC KB K : Nat} {rcS rcT : aM → Option (Int32 × aM)} {S C B : Nat → pO pV} (hS : CR T n al rcS S o KS) (hC : o < 6 → CR T n al (g_Rea_readAny F rcS rcT) C (o + 1) KC) (hB : o < 6 → CR T n al rcT B (o + 1) KB) (hF : 401 ≤ F) (ho : o ≤ 6) (hK : KS + 1 ≤ K) (hK2 : KC ≤ K) (hK3 : KB ≤ K) : CR T n al (g_Rea_readTest F rcS rcT) (pBt T S C B o) o K := fun m p u rs => by
  have g := kp_ge (T := T) (p := p)
  have g2 := rs.2.2.2.2.2.2
  have gl := kp_le rs.1.1 rs.2.2.2.2.2.1
  have h4 := rs.n4
  have rk := rs.at (q := kp T p) gl (by omega)
  have hkk : kp T (kp T p) = kp T p := kp_kp rs.1.1
  have fl : ∀ {r k q}, Fl (a_st m 11 2 (nI (kp T p))) r k q → Fl m r k q := fun h => Fl.tr (Fr.rf.st (by simp [fR])) h
  have ok : ∀ {r q v}, kp T p < q → Ok T n al (a_st m 11 2 (nI (kp T p))) r (kp T p) u q o K v → p < q ∧ Ok T n al m r p u q o K v := fun hq h => by
    obtain ⟨m', u', h1, h2, h3, h4, h5, h6, h7⟩ := h
    exact ⟨by omega, m', u', h1, h2, h3, by omega, h5, fun j hj => by rw [(h6 j hj).1, (h6 j hj).2]; simp [a_rd], (Fr.rf.st (by simp [fR])).tr h7⟩
  unfold g_Rea_readTest pBt
  simp only [c_skip rs.1 rs.2.1 rs.2.2.2.2.2.1 hF, o_b2_some, rk.2.1, o_b_some, c_isSign rk.1 rk.2.1 gl hF, hkk, a_st_st, c_word wd_not rk.1 rk.2.1 gl (by decide) hF]
  by_cases w : tW T (kp T p) wNot = true
  · have hl := tW_lt rs.1.1 wNot (kp T p) (by decide) gl w
    simp only [List.length_cons, List.length_nil] at hl
    simp only [if_pos w, show ¬ (1 : Int32) = 0 by decide, if_false]
    unfold g_Rea_readNot pNt
    rw [rk.2.2.1]
    by_cases o6 : o < 6
    · simp only [if_pos o6, show nI o < 6 from nI_lt (b := 6) o6 (by decide), if_true, o_let_eq, nI_1]
      have e2 : a_st (a_st m 11 2 (nI (kp T p))) 11 3 (nI (o + 1)) 11 2 = nI (kp T p) := by simp [a_rd]
      rw [e2, show nI (kp T p) + 3 = nI (kp T p + 3) from nI_add _ 3]
      have rs1 := (rk.op (o + 1)).at (q := kp T p + 3) (by omega) (by omega)
      have fr1 : Fr fR m (a_st (a_st (a_st m 11 2 (nI (kp T p))) 11 3 (nI (o + 1))) 11 2 (nI (kp T p + 3))) := ((Fr.rf.st (by simp [fR])).st (by simp [fR])).st (by simp [fR])
      have h := hB o6 _ _ _ rs1
      refine ⟨fun k q e => ?_, fun q z e => ?_⟩
      · rcases pB_inl e with e | ⟨p1, v, ev, e⟩
        · exact (Fl.tr fr1 (h.1 k q e)).b.i
        · simp at e
      · obtain ⟨p1, v, ev, e⟩ := pB_inr e
        simp only [Sum.inr.injEq, Prod.mk.injEq] at e
        obtain ⟨rfl, rfl⟩ := e
        obtain ⟨q1, m2, u2, e2, r2, a1, a2, a3, a4, a5⟩ := h.2 p1 v ev
        have r3 := r2.op o
        have hp := r2.2.2.2.2.2.1
        refine ⟨by omega, Ok.i ⟨adO (a_st m2 11 3 (nI o)) u2 5 0, u2 + 1, ?_, r3.ado (by omega), by omega, by omega, ?_, fun j hj => ?_, ((fr1.tr a5).st (by simp [fR])).tr adO_fr⟩⟩
        · simp only [e2, o_b2_some, show ¬ (1 : Int32) = 0 by decide, if_false, r2.2.2.1, nI_pred, c_add r3.2.2.2.2.1 (show u2 < 400 by omega)]
        · refine Cd.not ((a3.cg (fun j j1 j2 => ?_)).mo hK3) (by omega) adO_o (by omega)
          rw [adO_13 (by omega), adO_14 (by omega)]
          simp [a_rd]
        · rw [adO_13 (by omega), adO_14 (by omega), a_st_no (by omega), a_st_no (by omega), (a4 j hj).1, (a4 j hj).2]
          simp [a_rd]
    · obtain rfl : o = 6 := by omega
      simp only [show ¬ (6 : Nat) < 6 by decide, if_false, show ¬ nI 6 < 6 by decide]
      refine ⟨fun k q e => ?_, fun q v e => by simp at e⟩
      simp only [Sum.inl.injEq, Prod.mk.injEq] at e
      obtain ⟨rfl, rfl⟩ := e
      exact fl (Fl.mk2 a_st_self).i
  simp only [if_neg w, if_true]
  by_cases c : T (kp T p) = 91
  · simp only [if_pos c, show ¬ (1 : Int32) = 0 by decide, if_false, Bool.false_eq_true]
    have h := c_par (K := K) (c := 91) (e := 93) hC hF ho (by decide) (by decide) hK2 _ _ _ rk
    exact ⟨fun k q e => fl (h.1 k q e), fun q v e => ok (h.2 q v e).1 (h.2 q v e).2⟩
  · simp only [if_neg c, if_true, Bool.false_eq_true, if_false]
    have h := c_comparison (F := F) (rcT := rcT) (K := K) hS hF hK _ _ _ rk
    exact ⟨fun k q e => fl (h.1 k q e).i, fun q v e => ok (h.2 q v e).1 (h.2 q v e).2.i⟩
theorem c_lev {T : Nat → Int32} {n : Nat} {al : Bool} {F : Nat} (hF : 401 ≤ F) : ∀ N r, r ≤ 6 → (2 * r + 1 ≤ N → CR T n al (rcs_rea F N).1 (pLv T al r).1 (6 - r) (3 + 5 * r)) ∧ (2 * r + 2 ≤ N → CR T n al (rcs_rea F N).2 (pLv T al r).2 (6 - r) (4 + 5 * r))
  | 0, r, _ => ⟨fun h => by omega, fun h => by omega⟩
  | N + 1, r, hr => by
    have ih := c_lev (T := T) (n := n) (al := al) hF N
    have lo : ∀ (X : (Nat → pO pV) × (Nat → pO pV)), (0 < r → X = pLv T al (r - 1)) → (2 * r + 1 ≤ N + 1 → (6 - r < 6 → CR T n al (rcs_rea F N).1 X.1 (6 - r + 1) (3 + 5 * r - 5)) ∧ (6 - r < 6 → CR T n al (rcs_rea F N).2 X.2 (6 - r + 1) (4 + 5 * r - 5)) ∧ (6 - r < 6 → CR T n al (g_Rea_readAny F (rcs_rea F N).1 (rcs_rea F N).2) (pC T X.2) (6 - r + 1) (1 + 5 * r))) := fun X hX hN => by
      have a : 6 - r < 6 → CR T n al (rcs_rea F N).1 X.1 (6 - r + 1) (3 + 5 * r - 5) := fun h6 => by
        rw [hX (by omega), show 6 - r + 1 = 6 - (r - 1) by omega]
        exact ((ih (r - 1) (by omega)).1 (by omega)).mo (by omega)
      have b : 6 - r < 6 → CR T n al (rcs_rea F N).2 X.2 (6 - r + 1) (4 + 5 * r - 5) := fun h6 => by
        rw [hX (by omega), show 6 - r + 1 = 6 - (r - 1) by omega]
        exact ((ih (r - 1) (by omega)).2 (by omega)).mo (by omega)
      exact ⟨a, b, fun h6 => (c_readAny (K := 1 + 5 * r) (KX := 5 * r) (c_readAll (K := 5 * r) (b h6) hF (by omega)) hF (by omega))⟩
    have sum : ∀ (X : (Nat → pO pV) × (Nat → pO pV)), (0 < r → X = pLv T al (r - 1)) → 2 * r + 1 ≤ N + 1 → CR T n al (g_Rea_readSum F (rcs_rea F N).1 (rcs_rea F N).2) (pS T (pU T al X.1 (pC T X.2) (6 - r))) (6 - r) (3 + 5 * r) := fun X hX hN => by
      obtain ⟨a, b, c⟩ := lo X hX hN
      exact c_readSum (KX := 2 + 5 * r) (c_readProduct (KX := 1 + 5 * r) (K := 2 + 5 * r) (c_unit (K := 1 + 5 * r) (KC := 1 + 5 * r) (KS := 5 * r) (fun h6 => (a h6).mo (by omega)) c hF (by omega) (by omega) (by omega)) hF (by omega)) hF (by omega)
    have e : ∃ X : (Nat → pO pV) × (Nat → pO pV), (0 < r → X = pLv T al (r - 1)) ∧ pLv T al r = pSt T al (6 - r) X := by
      match r, hr with
      | 0, _ => exact ⟨_, fun h => absurd h (by decide), rfl⟩
      | r + 1, hr => exact ⟨_, fun _ => rfl, by rw [show 6 - (r + 1) = 5 - r by omega]; rfl⟩
    obtain ⟨X, hX, e⟩ := e
    rw [e]
    refine ⟨fun h => sum X hX h, fun h => ?_⟩
    obtain ⟨a, b, c⟩ := lo X hX (by omega)
    have hs : CR T n al (rcs_rea F N).1 (pLv T al r).1 (6 - r) (3 + 5 * r) := (ih r hr).1 (by omega)
    rw [e] at hs
    exact c_test (KS := 3 + 5 * r) (KC := 1 + 5 * r) (KB := 4 + 5 * r - 5) hs c b hF (by omega) (by omega) (by omega) (by omega)
/-- the class reads expressions and tests -/
theorem c_sum0 {T : Nat → Int32} {n : Nat} {al : Bool} {F : Nat} (hF : 401 ≤ F) : CR T n al (f_Rea_readSum F) (pLv T al 6).1 0 33 := (c_lev hF 33 6 (by omega)).1 (by omega)
theorem c_any0 {T : Nat → Int32} {n : Nat} {al : Bool} {F : Nat} (hF : 401 ≤ F) : CR T n al (f_Rea_readAny F) (pC T (pLv T al 6).2) 0 36 := c_readAny (KX := 35) (c_readAll (KX := 34) ((c_lev hF 32 6 (by omega)).2 (by omega)) hF (by omega)) hF (by omega)
