/-! CALLS: wrong -/
def rtB (m0 : aM) (st : lS) (n : Nat) : Bool := sR st (fun j => sK st j (bxr m0 n)) (fun j => sN st j (bxr m0 n))
theorem c_wrong_l {F : Nat} {st : lS} {m0 : aM} (hB : iB m0) (hF : 5000 ≤ F) : ∀ (d n c N : Nat) (m : aM), n + d = Pd (wd m0) 3 → d < N → LC m st → (∀ i, i < 4 → m 22 i = m0 22 i ∧ m 23 i = m0 23 i) → ∃ m', ll_Box_manyWrong_9 F N (nI (Pd (wd m0) 3)) (nI c) (nI n) m = some (nI (c + cu (rtB m0 st) d n), m') ∧ Fr fBx m m'
  | 0, n, c, N, m, hd, hN, hL, hm => by
    obtain ⟨N, rfl⟩ : ∃ k, N = k + 1 := ⟨N - 1, by omega⟩
    have P := Pd_8 (w := wd m0) (fun j hj => ⟨(hB.wx hj).1, (hB.wx hj).2.1⟩)
    refine ⟨m, ?_, Fr.rf⟩
    show lb_Box_manyWrong_9 F (ll_Box_manyWrong_9 F N) (nI (Pd (wd m0) 3)) (nI c) (nI n) m = _
    unfold lb_Box_manyWrong_9
    rw [if_pos (nI_le (by omega) (by omega))]
    rfl
  | d + 1, n, c, N, m, hd, hN, hL, hm => by
    obtain ⟨N, rfl⟩ : ∃ k, N = k + 1 := ⟨N - 1, by omega⟩
    have P := Pd_8 (w := wd m0) (fun j hj => ⟨(hB.wx hj).1, (hB.wx hj).2.1⟩)
    obtain ⟨m1, e1, v1, f1⟩ := c_see (F := F) (n := n) hB hL (by omega) hm hF
    have hL1 : LC m1 st := hL.fr (fun b j hb => f1 b j (by unfold fL at hb; unfold fBx; omega))
    obtain ⟨u, ds⟩ := hL1.1
    obtain ⟨m2, e2, f2⟩ := c_isRight (F := F) (a1 := 25) (a2 := 26) ds (by omega) (by omega) (by omega)
    have er : sR st (m1 26) (m1 25) = rtB m0 st n := sR_cg hL.2 (fun j hj => (v1 j hj).2.2) (fun j hj => (v1 j hj).2.1)
    rw [er] at e2
    have hL2 : LC m2 st := hL1.fr (fun b j hb => f2 b j (by unfold fL at hb; omega))
    have hm2 : ∀ i, i < 4 → m2 22 i = m0 22 i ∧ m2 23 i = m0 23 i := fun i hi => by rw [f2 _ _ (by omega), f2 _ _ (by omega), f1 _ _ (by unfold fBx; omega), f1 _ _ (by unfold fBx; omega)]; exact hm i hi
    have f12 : Fr fBx m m2 := f1.tr (f2.mono (fun b j hb => Or.inl hb))
    rw [show ll_Box_manyWrong_9 F (N + 1) (nI (Pd (wd m0) 3)) (nI c) (nI n) m = lb_Box_manyWrong_9 F (ll_Box_manyWrong_9 F N) (nI (Pd (wd m0) 3)) (nI c) (nI n) m from rfl]
    unfold lb_Box_manyWrong_9 b_Box_manyWrong_43 cu
    simp only [if_neg (show ¬ nI (Pd (wd m0) 3) ≤ nI n from nI_ge (by omega) (by omega)), e1, e2, o_b2_some, nI_1]
    by_cases z : rtB m0 st n = true
    · simp only [if_pos z, show ¬ (1 : Int32) = 0 by decide, if_false, Int32.add_zero, Nat.zero_add]
      obtain ⟨m', e3, f3⟩ := c_wrong_l (st := st) hB hF d (n + 1) c N m2 (by omega) (by omega) hL2 hm2
      exact ⟨m', e3, f12.tr f3⟩
    · simp only [if_neg z, if_true, nI_1, ← Nat.add_assoc]
      obtain ⟨m', e3, f3⟩ := c_wrong_l (st := st) hB hF d (n + 1) (c + 1) N m2 (by omega) (by omega) hL2 hm2
      exact ⟨m', e3, f12.tr f3⟩
theorem m_wrong_l {F : Nat} {st : lS} {m0 : aM} (hB : iB m0) (hF : 5000 ≤ F) : ∀ (d n c N : Nat) (m : aM), n + d = Pd (wd m0) 3 → d < N → ML m st → (∀ i, i < 4 → m 253 i = m0 22 i ∧ m 254 i = m0 23 i) → (0 < d → ∀ i, i < 4 → m 255 i = bxr m0 n i) → ∃ m', ll_Mod_wrong_13 F N (nI c) (if 0 < d then 1 else 0) m = some (nI (c + cu (rtB m0 st) d n), m') ∧ Fr fUn m m'
  | 0, n, c, N, m, hd, hN, hL, hm, h => by
    obtain ⟨N, rfl⟩ : ∃ k, N = k + 1 := ⟨N - 1, by omega⟩
    exact ⟨m, rfl, Fr.rf⟩
  | d + 1, n, c, N, m, hd, hN, hL, hm, h => by
    obtain ⟨N, rfl⟩ : ∃ k, N = k + 1 := ⟨N - 1, by omega⟩
    have h := h (by omega)
    obtain ⟨m1, e1, v1, f1⟩ := m_seesRow (F := F) hL h hF
    have hL1 : ML m1 st := hL.fr (fun b j hb => f1 b j (by unfold fL at hb; unfold fMx fV; omega))
    obtain ⟨m2, e2, f2⟩ := m_isRightBy (F := F) (a1 := 251) (a2 := 256) (by omega) (by omega) hL1 hF
    have er : sR st (m1 256) (m1 251) = rtB m0 st n := sR_cg hL (fun j hj => (v1 j hj).2) (fun j hj => (v1 j hj).1)
    rw [er] at e2
    have f12 : Fr fMx m m2 := f1.tr (f2.mono (fun b j hb => hb.elim Or.inl (fun z => Or.inr (by omega))))
    have hL2 : ML m2 st := hL.fr (fun b j hb => f12 b j (by unfold fL at hb; unfold fMx fV; omega))
    have lt : (n + 1 < Pd (wd m0) 3) = (0 < d) := propext (by omega)
    obtain ⟨m3, e3, v3, f3⟩ := m_go (F := F) (n := n) (m := m2) hB (by omega) (fun i hi => by rw [f12 _ _ (by unfold fMx fV; omega), f12 _ _ (by unfold fMx fV; omega)]; exact hm i hi) (fun i hi => by rw [f12 _ _ (by unfold fMx fV; omega)]; exact h i hi) hF
    simp only [lt] at e3 v3
    have hm3 : ∀ i, i < 4 → m3 253 i = m0 22 i ∧ m3 254 i = m0 23 i := fun i hi => by rw [f3 _ _ (by omega), f3 _ _ (by omega), f12 _ _ (by unfold fMx fV; omega), f12 _ _ (by unfold fMx fV; omega)]; exact hm i hi
    have f13 : Fr fUn m m3 := (f12.mono (fun b j hb => Or.inl hb)).tr (f3.mono (fun b j hb => Or.inr (by omega)))
    have hL3 : ML m3 st := hL2.fr (fun b j hb => f3 b j (by unfold fL at hb; omega))
    rw [if_pos (show 0 < d + 1 by omega), show ll_Mod_wrong_13 F (N + 1) (nI c) 1 m = lb_Mod_wrong_13 F (ll_Mod_wrong_13 F N) (nI c) 1 m from rfl]
    unfold lb_Mod_wrong_13 b_Mod_wrong_42 cu
    simp only [show ¬ (1 : Int32) = 0 by decide, if_false, e1, e2, e3, o_b2_some]
    by_cases z : rtB m0 st n = true
    · simp only [if_pos z, show ¬ (1 : Int32) = 0 by decide, if_false, Int32.add_zero, Nat.zero_add]
      obtain ⟨m', e4, f4⟩ := m_wrong_l (st := st) hB hF d (n + 1) c N m3 (by omega) (by omega) hL3 hm3 v3
      exact ⟨m', e4, f13.tr f4⟩
    · simp only [if_neg z, if_true, nI_1, ← Nat.add_assoc]
      obtain ⟨m', e4, f4⟩ := m_wrong_l (st := st) hB hF d (n + 1) (c + 1) N m3 (by omega) (by omega) hL3 hm3 v3
      exact ⟨m', e4, f13.tr f4⟩
theorem z_wrongI (F : Nat) (m : aM) (hF : 5000 ≤ F) (h : Iv m) : ZN (f_Led_wrong F) (f_Mod_wrong F) m := by
  have hB := h.2.2.2.1
  obtain ⟨st, hL⟩ := h.2.2.1
  have P := Pd_8 (w := wd m) (fun j hj => ⟨(hB.wx hj).1, (hB.wx hj).2.1⟩)
  unfold ZN f_Led_wrong f_Mod_wrong f_Box_manyWrong
  obtain ⟨m1, e1, q1⟩ := c_wrong_l (F := F) (st := st) hB hF (Pd (wd m) 3) 0 0 F m (by omega) (by omega) hL (fun i hi => ⟨rfl, rfl⟩)
  have fc : Fr sc0 m (a_st m1 242 0 0) := (q1.mono (fun b j hb => fBx_sc hb)).tr th_fr
  have hm : ∀ i, i < 4 → a_st m1 242 0 0 253 i = m 22 i ∧ a_st m1 242 0 0 254 i = m 23 i := fun i hi => by rw [fc _ _ (by unfold sc0; omega), fc _ _ (by unfold sc0; omega)]; exact ⟨(hB i hi).1.symm, (hB i hi).2.1.symm⟩
  obtain ⟨m2, e2, v2, f2⟩ := m_begin (F := F) (m := a_st m1 242 0 0) (m0 := m) (fun i hi => (hm i hi).1) hF
  obtain ⟨m3, e3, f3⟩ := m_wrong_l (F := F) (st := st) hB hF (Pd (wd m) 3) 0 0 F m2 (by omega) (by omega) (hL.2.fr (fun b j hb => by unfold fL at hb; rw [f2 b j (by omega), fc b j (by unfold sc0; omega)])) (fun i hi => by rw [f2 _ _ (by omega), f2 _ _ (by omega)]; exact hm i hi) (fun _ => v2)
  rw [if_pos (show 0 < Pd (wd m) 3 by omega)] at e3
  have fr : Fr sc0 m m3 := (fc.tr (f2.mono (fun b j hb => by unfold sc0; omega))).tr (f3.mono (fun b j hb => fUn_sc hb))
  simp only [c_boxed hB hF, o_b_some, show ll_Box_manyWrong_9 F F (nI (Pd (wd m) 3)) 0 0 m = _ from e1, o_b2_some, o_let_eq]
  refine ⟨_, _, rfl, ?_⟩
  simp only [e2, o_b2_some, show ll_Mod_wrong_13 F F 0 1 m2 = _ from e3]
  exact ⟨_, rfl, (h.f0 fr).1, (h.f0 fr).2⟩
