/-! CALLS: bite -/
/-- which rows are led: the first few of a kind -/
def lq (P : Nat → Bool) : Nat → Nat → Nat → Nat → Bool
  | 0, _, _, _ => false
  | _ + 1, _, 0, _ => false
  | d + 1, k, n + 1, q => if P k = true then (decide (q = k) || lq P d (k + 1) n q) else lq P d (k + 1) (n + 1) q
theorem lq_P {P : Nat → Bool} {q : Nat} : ∀ d k n, lq P d k n q = true → k ≤ q ∧ q < k + d ∧ P q = true
  | 0, _, _, h => by simp [lq] at h
  | d + 1, k, 0, h => by simp [lq] at h
  | d + 1, k, n + 1, h => by
    unfold lq at h
    by_cases c : P k = true
    · rw [if_pos c, Bool.or_eq_true, decide_eq_true_eq] at h
      rcases h with rfl | h
      · exact ⟨by omega, by omega, c⟩
      · have := lq_P d (k + 1) n h
        exact ⟨by omega, by omega, this.2.2⟩
    · rw [if_neg c] at h
      have := lq_P d (k + 1) (n + 1) h
      exact ⟨by omega, by omega, this.2.2⟩
def cB (Q : Nat → Bool) : Nat → Nat → Prop := fun b j => b = 10 ∨ ∃ q, Q q = true ∧ ((b = 42 + 5 * q ∧ j = 3) ∨ ((b = 44 + 5 * q ∨ b = 45 + 5 * q) ∧ j < 4))
theorem c_bite_l {F : Nat} {st : lS} {m0 : aM} {x2 : Int32} (hF : 5000 ≤ F) : ∀ (d k n N : Nat) (m : aM), k + d = 40 → d < N → n ≤ 40 → LC m st → (∀ b j, 42 + 5 * k ≤ b → b ≤ 241 → m b j = m0 b j) → ∃ m', ll_Tab_leadRows_49 F N x2 (nI n) (nI k) m = some (x2, m') ∧ (∀ q, lq (kdB m0 0) d k n q = true → m' (42 + 5 * q) 3 = nI (ld st (m0 (43 + 5 * q))) ∧ ∀ j, j < 4 → m' (44 + 5 * q) j = sN st j (m0 (43 + 5 * q)) ∧ m' (45 + 5 * q) j = sK st j (m0 (43 + 5 * q))) ∧ Fr (cB (lq (kdB m0 0) d k n)) m m'
  | 0, k, n, N, m, hd, hN, hn, hL, h => by
    obtain ⟨N, rfl⟩ : ∃ k, N = k + 1 := ⟨N - 1, by omega⟩
    obtain rfl : k = 40 := by omega
    exact ⟨m, rfl, fun q z => by simp [lq] at z, Fr.rf⟩
  | d + 1, k, 0, N, m, hd, hN, hn, hL, h => by
    obtain ⟨N, rfl⟩ : ∃ k, N = k + 1 := ⟨N - 1, by omega⟩
    refine ⟨m, ?_, fun q z => by simp [lq] at z, Fr.rf⟩
    show lb_Tab_leadRows_49 F (ll_Tab_leadRows_49 F N) x2 (nI 0) (nI k) m = _
    unfold lb_Tab_leadRows_49
    rw [if_neg (c40 (by omega)), if_pos (by decide)]
  | d + 1, k, n + 1, N, m, hd, hN, hn, hL, h => by
    obtain ⟨N, rfl⟩ : ∃ k, N = k + 1 := ⟨N - 1, by omega⟩
    have hk : k < 40 := by omega
    rw [show ll_Tab_leadRows_49 F (N + 1) x2 (nI (n + 1)) (nI k) m = lb_Tab_leadRows_49 F (ll_Tab_leadRows_49 F N) x2 (nI (n + 1)) (nI k) m from rfl]
    unfold lb_Tab_leadRows_49 b_Tab_leadRows_88
    simp only [if_neg (c40 hk), if_neg (nI_nle (n := n + 1) (by omega) (by omega)), inb_nI hk (by decide), o_gd_t, rwp_n hk, nI_1, nI_pred, h (42 + 5 * k) 3 (by omega) (by omega)]
    by_cases c : m0 (42 + 5 * k) 3 = 0
    · have cP : kdB m0 0 k = true := by unfold kdB; exact decide_eq_true c
      obtain ⟨m1, e1, v1, w1, f1⟩ := c_lead (F := F) hk hL hF
      have e43 : m (43 + 5 * k) = m0 (43 + 5 * k) := funext fun j => h _ _ (by omega) (by omega)
      rw [e43] at v1 w1
      obtain ⟨m', e2, v2, f2⟩ := c_bite_l (m0 := m0) (x2 := x2) hF d (k + 1) n N m1 (by omega) (by omega) (by omega) (hL.fr (fun b j hb => f1 b j (by unfold fL at hb; unfold fSa; omega))) (fun b j b1 b2 => by rw [f1 b j (by unfold fSa; omega)]; exact h b j (by omega) b2)
      have no : ∀ b j, (42 + 5 * k ≤ b ∧ b ≤ 46 + 5 * k) → m' b j = m1 b j := fun b j hb => f2 b j (fun z => by
        rcases z with z | ⟨q, z1, z2⟩
        · omega
        · have := lq_P _ _ _ z1
          omega)
      have ll : ∀ q, lq (kdB m0 0) (d + 1) k (n + 1) q = (decide (q = k) || lq (kdB m0 0) d (k + 1) n q) := fun q => by
        rw [show lq (kdB m0 0) (d + 1) k (n + 1) q = if kdB m0 0 k = true then (decide (q = k) || lq (kdB m0 0) d (k + 1) n q) else lq (kdB m0 0) d (k + 1) (n + 1) q from rfl, if_pos cP]
      simp only [if_pos c, e1, o_b2_some, e2]
      refine ⟨m', rfl, fun q z => ?_, (f1.mono (fun b j hb => ?_)).tr (f2.mono (fun b j hb => ?_))⟩
      · rw [ll, Bool.or_eq_true, decide_eq_true_eq] at z
        rcases z with rfl | z
        · refine ⟨by rw [no _ _ (by omega)]; exact v1, fun j hj => ?_⟩
          rw [no _ _ (by omega), no _ _ (by omega)]
          exact w1 j hj
        · exact v2 q z
      · unfold fSa at hb
        rcases hb with (hb | hb) | hb
        · exact Or.inl hb
        · exact Or.inr ⟨k, by rw [ll]; simp, Or.inr hb⟩
        · exact Or.inr ⟨k, by rw [ll]; simp, Or.inl hb⟩
      · rcases hb with hb | ⟨q, z1, z2⟩
        · exact Or.inl hb
        · exact Or.inr ⟨q, by rw [ll, z1]; simp, z2⟩
    · have cP : ¬ kdB m0 0 k = true := by unfold kdB; exact fun z => c (of_decide_eq_true z)
      have ll : ∀ q, lq (kdB m0 0) (d + 1) k (n + 1) q = lq (kdB m0 0) d (k + 1) (n + 1) q := fun q => by
        rw [show lq (kdB m0 0) (d + 1) k (n + 1) q = if kdB m0 0 k = true then (decide (q = k) || lq (kdB m0 0) d (k + 1) n q) else lq (kdB m0 0) d (k + 1) (n + 1) q from rfl, if_neg cP]
      rw [show lq (kdB m0 0) (d + 1) k (n + 1) = lq (kdB m0 0) d (k + 1) (n + 1) from funext ll]
      simp only [if_neg c]
      exact c_bite_l (m0 := m0) hF d (k + 1) (n + 1) N m (by omega) (by omega) hn hL (fun b j b1 b2 => h b j (by omega) b2)
def mB (Q : Nat → Bool) : Nat → Nat → Prop := fun b j => fSo b j ∨ ((b = 249 ∨ b = 250) ∧ j < 4) ∨ ∃ q, Q q = true ∧ ((b = 8475 ∧ j = q) ∨ ((b = 8520 + q ∨ b = 8561 + q) ∧ j < 4))
theorem m_bite_l {F t : Nat} {st : lS} {m0 : aM} {x2 : Int32} (hF : 5000 ≤ F) (hr : ∀ k, k < 40 → rw m0 k t) : ∀ (d k n N : Nat) (m : aM), k + d = 40 → d < N → n ≤ 40 → ML m st → (∀ q, k ≤ q → q < 40 → m 8473 q = m0 8473 q ∧ m 8475 q = m0 8475 q ∧ (m0 (42 + 5 * q) 3 = 0 → ∀ j, j < 4 → m (8479 + q) j = m0 (43 + 5 * q) j)) → ∃ m', ll_Mod_bite_101 F N x2 (nI n) (nI k) m = some (x2, m') ∧ (∀ q, lq (kdB m0 0) d k n q = true → m' 8475 q = nI (ld st (m0 (43 + 5 * q))) ∧ ∀ j, j < 4 → m' (8520 + q) j = sN st j (m0 (43 + 5 * q)) ∧ m' (8561 + q) j = sK st j (m0 (43 + 5 * q))) ∧ Fr (mB (lq (kdB m0 0) d k n)) m m'
  | 0, k, n, N, m, hd, hN, hn, hL, h => by
    obtain ⟨N, rfl⟩ : ∃ k, N = k + 1 := ⟨N - 1, by omega⟩
    obtain rfl : k = 40 := by omega
    exact ⟨m, rfl, fun q z => by simp [lq] at z, Fr.rf⟩
  | d + 1, k, 0, N, m, hd, hN, hn, hL, h => by
    obtain ⟨N, rfl⟩ : ∃ k, N = k + 1 := ⟨N - 1, by omega⟩
    refine ⟨m, ?_, fun q z => by simp [lq] at z, Fr.rf⟩
    show lb_Mod_bite_101 F (ll_Mod_bite_101 F N) x2 (nI 0) (nI k) m = _
    unfold lb_Mod_bite_101
    rw [if_neg (c40 (by omega)), if_pos (by decide)]
  | d + 1, k, n + 1, N, m, hd, hN, hn, hL, h => by
    obtain ⟨N, rfl⟩ : ∃ k, N = k + 1 := ⟨N - 1, by omega⟩
    have hk : k < 40 := by omega
    obtain ⟨h1, h2, h3⟩ := h k (by omega) hk
    rw [show ll_Mod_bite_101 F (N + 1) x2 (nI (n + 1)) (nI k) m = lb_Mod_bite_101 F (ll_Mod_bite_101 F N) x2 (nI (n + 1)) (nI k) m from rfl]
    unfold lb_Mod_bite_101 b_Mod_bite_178 b_Mod_bite_174
    simp only [if_neg (c40 hk), if_neg (nI_nle (n := n + 1) (by omega) (by omega)), inb_nI hk (by decide), o_gd_t, nI_clamp (show k < 2 ^ 31 by omega), nI_1, nI_pred, h1, h2, o_let_eq, b_Mod_bite_178]
    have kd : m0 (42 + 5 * k) 3 = 0 ↔ ¬ m0 8473 k = 0 ∧ m0 8475 k = 0 := (hr k hk).kd (κ := 0) (by decide)
    by_cases c : m0 (42 + 5 * k) 3 = 0
    · have cP : kdB m0 0 k = true := by unfold kdB; exact decide_eq_true c
      obtain ⟨m1, m2, e1, e2, v1, f1, f2⟩ := m_lead (F := F) hk hL hF
      have h3 := h3 c
      have ldc : ld st (m (8479 + k)) = ld st (m0 (43 + 5 * k)) := ld_cg hL h3
      rw [ldc] at e2
      generalize hy : ld st (m0 (43 + 5 * k)) = y at e2
      have y13 : y = 1 ∨ y = 3 := hy ▸ ld_13
      -- the state after this row
      have f3 : Fr (fun b j => fLd k b j ∨ (b = 8475 ∧ j = k)) m (a_st m2 8475 k (nI y)) := ((f1.mono (fun b j hb => Or.inl hb)).tr (f2.mono (fun b j hb => by
        rcases hb with hb | hb
        · exact Or.inl (Or.inl (Or.inl hb))
        · exact Or.inl (Or.inr (Or.inl hb))))).st (Or.inr ⟨rfl, rfl⟩)
      obtain ⟨m', e4, v4, f4⟩ := m_bite_l (m0 := m0) (x2 := x2) hF hr d (k + 1) n N (a_st m2 8475 k (nI y)) (by omega) (by omega) (by omega) (hL.fr (fun b j hb => f3 b j (by unfold fL at hb; unfold fLd fSo fV; omega))) (fun q q1 q2 => by
        rw [f3 _ _ (by unfold fLd fSo fV; omega), f3 _ _ (by unfold fLd fSo fV; omega)]
        refine ⟨(h q (by omega) q2).1, (h q (by omega) q2).2.1, fun z j hj => ?_⟩
        rw [f3 _ _ (by unfold fLd fSo fV; omega)]
        exact (h q (by omega) q2).2.2 z j hj)
      have no : ∀ b j, ((b = 8520 + k ∨ b = 8561 + k) ∨ (b = 8475 ∧ j = k)) → m' b j = a_st m2 8475 k (nI y) b j := fun b j hb => f4 b j (fun z => by
        unfold mB fSo fV at z
        rcases z with z | z | ⟨q, z1, z2⟩
        · omega
        · omega
        · have := lq_P _ _ _ z1
          omega)
      have ll : ∀ q, lq (kdB m0 0) (d + 1) k (n + 1) q = (decide (q = k) || lq (kdB m0 0) d (k + 1) n q) := fun q => by
        rw [show lq (kdB m0 0) (d + 1) k (n + 1) q = if kdB m0 0 k = true then (decide (q = k) || lq (kdB m0 0) d (k + 1) n q) else lq (kdB m0 0) d (k + 1) (n + 1) q from rfl, if_pos cP]
      have rest : (∀ q, lq (kdB m0 0) (d + 1) k (n + 1) q = true → m' 8475 q = nI (ld st (m0 (43 + 5 * q))) ∧ ∀ j, j < 4 → m' (8520 + q) j = sN st j (m0 (43 + 5 * q)) ∧ m' (8561 + q) j = sK st j (m0 (43 + 5 * q))) ∧ Fr (mB (lq (kdB m0 0) (d + 1) k (n + 1))) m m' := by
        refine ⟨fun q z => ?_, (f3.mono (fun b j hb => ?_)).tr (f4.mono (fun b j hb => ?_))⟩
        · rw [ll, Bool.or_eq_true, decide_eq_true_eq] at z
          rcases z with rfl | z
          · refine ⟨by rw [no _ _ (by omega), a_st_self, hy], fun j hj => ?_⟩
            rw [no _ _ (by omega), no _ _ (by omega), a_st_ne (by omega), a_st_ne (by omega), f2 _ _ (by unfold fV; omega), f2 _ _ (by unfold fV; omega), (v1 j hj).1, (v1 j hj).2]
            exact ⟨sN_cg hL hj h3, sK_cg hj h3⟩
          · exact v4 q z
        · rcases hb with (hb | hb | hb) | hb
          · exact Or.inl hb
          · exact Or.inr (Or.inl hb)
          · exact Or.inr (Or.inr ⟨k, by rw [ll]; simp, Or.inr hb⟩)
          · exact Or.inr (Or.inr ⟨k, by rw [ll]; simp, Or.inl hb⟩)
        · rcases hb with hb | hb | ⟨q, z1, z2⟩
          · exact Or.inl hb
          · exact Or.inr (Or.inl hb)
          · exact Or.inr (Or.inr ⟨q, by rw [ll, z1]; simp, z2⟩)
      simp only [if_neg (kd.mp c).1, if_pos (kd.mp c).2, e1, o_b2_some, e2]
      rcases y13 with rfl | rfl
      · simp only [if_true, show ¬ (1 : Int32) = 0 by decide, if_false]
        exact ⟨m', e4, rest.1, rest.2⟩
      · simp only [show ¬ (3 : Nat) = 1 by decide, if_false, if_true]
        exact ⟨m', e4, rest.1, rest.2⟩
    · have cP : ¬ kdB m0 0 k = true := by unfold kdB; exact fun z => c (of_decide_eq_true z)
      have ll : ∀ q, lq (kdB m0 0) (d + 1) k (n + 1) q = lq (kdB m0 0) d (k + 1) (n + 1) q := fun q => by
        rw [show lq (kdB m0 0) (d + 1) k (n + 1) q = if kdB m0 0 k = true then (decide (q = k) || lq (kdB m0 0) d (k + 1) n q) else lq (kdB m0 0) d (k + 1) (n + 1) q from rfl, if_neg cP]
      rw [show lq (kdB m0 0) (d + 1) k (n + 1) = lq (kdB m0 0) d (k + 1) (n + 1) from funext ll]
      have rc := m_bite_l (m0 := m0) (x2 := x2) hF hr d (k + 1) (n + 1) N m (by omega) (by omega) hn hL (fun q q1 q2 => h q (by omega) q2)
      by_cases c1 : m0 8473 k = 0
      · simp only [if_pos c1]
        exact rc
      · simp only [if_neg c1, if_neg (fun z => c (kd.mpr ⟨c1, z⟩))]
        exact rc
theorem z_biteI (x : Int32) (F : Nat) (m : aM) (hF : 5000 ≤ F) (h : Iv m) : ZX [IAE, ISE] (f_Led_bite F x) (f_Mod_bite F x) m := by
  obtain ⟨t, t1, t2, t3, hr⟩ := h.2.2.2.2.2.2.rw
  obtain ⟨s, s5, s2, s3⟩ := h.2.2.2.2.2.2.sg
  obtain ⟨n9, b9⟩ := h.2.2.2.2.2.2.n9
  obtain ⟨st, hL⟩ := h.2.2.1
  unfold ZX f_Led_bite f_Mod_bite b_Mod_bite_21 b_Mod_bite_46
  simp only [z_range, z_in, o_let_eq, o_b_some]
  by_cases c : (1 : Int32) ≤ x ∧ x ≤ 40
  case neg =>
    simp only [if_neg c, o_t_inr]
    refine ⟨_, _, rfl, ?_⟩
    simp only [if_true, z_bad1 (show (1 : Int32) ≠ 0 by decide), o_b2_some, show ¬ (1 : Int32) = 0 by decide, if_false]
    exact ⟨_, _, rfl, ⟨0, rfl, a_st_self⟩, (h.f0 th_fr).1, (h.f0 th_fr).2⟩
  have c' : (0 : Int32) ≤ x ∧ x ≤ 40 := ⟨by have := c.1; rw [i_le] at this ⊢; have e : (1 : Int32).toInt = 1 := rfl; have e0 : (0 : Int32).toInt = 0 := rfl; omega, c.2⟩
  obtain ⟨a, a40, rfl⟩ := rng_nat (n := 40) rfl (by decide) c'
  have e45 : ∀ mc : aM, mc 242 45 = m 242 45 → a_st mc 242 0 0 242 45 = nI s := fun mc e => by rw [a_st_no (by omega), e, s3]
  simp only [if_pos c, o_t_inl, s2, show ¬ (1 : Int32) = 0 by decide, if_false]
  by_cases d : 2 ≤ s ∧ s ≤ 4
  case neg =>
    have cl : (if nI s < 2 then (some ((.inr ISE : oX), m) : Option (oX × aM)) else if nI s ≤ 4 then o_b2 (f_Tab_leadRows F (nI a) m) fun y3 m4 => some ((.inl y3 : oX), m4) else some ((.inr ISE : oX), m)) = some (.inr ISE, m) := by
      by_cases q : s < 2
      · rw [if_pos (show nI s < 2 from nI_lt (b := 2) q (by decide))]
      · rw [if_neg (show ¬ nI s < 2 from nI_nlt (b := 2) (by omega) (by omega)), if_neg (show ¬ nI s ≤ 4 from nI_ge (a := 4) (b := s) (by omega) (by omega))]
    refine ⟨_, _, cl, ?_⟩
    have nin : ¬ ((2 : Int32) ≤ nI s ∧ nI s ≤ 4) := fun z => d ⟨(nI_leI (a := 2) (b := s) (by decide) (by omega)).mp z.1, (nI_leI (a := s) (b := 4) (by omega) (by decide)).mp z.2⟩
    simp only [z_bad0, o_b2_some, if_true, e45 m rfl, if_neg nin, z_bad1 (show (2 : Int32) ≠ 0 by decide), show ¬ (1 : Int32) = 0 by decide, if_false]
    exact ⟨_, _, rfl, ⟨1, rfl, a_st_self⟩, (h.f0 th_fr).1, (h.f0 th_fr).2⟩
  have yin : (2 : Int32) ≤ nI s ∧ nI s ≤ 4 := ⟨nI_le (a := 2) (b := s) d.1 (by omega), nI_le (a := s) (b := 4) d.2 (by decide)⟩
  rw [if_neg (show ¬ nI s < 2 from nI_nlt (b := 2) d.1 (by omega)), if_pos yin.2]
  obtain ⟨cc, cc40, ec, _⟩ := cb_40 (kdB m 0)
  generalize hn : (if cc < a then cc else a) = n
  have n40 : n ≤ 40 := by rw [← hn]; split <;> omega
  have en : (if nI cc < nI a then nI cc else nI a) = nI n := by
    rw [← hn]
    by_cases q : cc < a
    · rw [if_pos q, if_pos (nI_lt q (by omega))]
    · rw [if_neg q, if_neg (nI_nlt (by omega) (by omega))]
  have cm : f_Tab_manyOf F 0 m = some (nI cc) := by rw [← ec]; exact c_manyOf (κ := 0) (by omega)
  have mm : ∀ mr : aM, (∀ b j, 8473 ≤ b → b ≤ 8641 → mr b j = m b j) → f_Mod_many F 0 mr = some (nI cc) := fun mr q => by rw [← ec]; exact m_many2 (κ := 0) q hr (by decide) (by omega)
  -- the reference, up to the rows
  have mf : ∀ mc : aM, Fr (fun b j => (b = 37 ∧ j = 9) ∨ b = 10 ∨ (42 ≤ b ∧ b ≤ 241)) m mc → (o_b (f_Mod_many F 0 (a_st mc 242 0 0)) fun y3 => if nI a ≤ y3 then b_Mod_bite_73 F (nI a) (a_st mc 242 0 0) else o_b (f_Mod_many F 0 (a_st mc 242 0 0)) fun y4 => b_Mod_bite_73 F y4 (a_st mc 242 0 0)) = b_Mod_bite_73 F (nI n) (a_st mc 242 0 0) := fun mc fc => by
    have q := mm (a_st mc 242 0 0) (fun b j b1 b2 => by rw [a_st_ne (by omega), fc b j (by omega)])
    rw [q, o_b_some, ← hn]
    by_cases z : cc < a
    · rw [if_neg (nI_ge z (by omega)), if_pos z, o_b_some]
    · rw [if_pos (nI_le (by omega) (by omega)), if_neg z]
  have bf : m 37 9 < 1 ↔ m 242 49 ≤ 0 := by rw [← n9, i_lt, i_le]; have e : (1 : Int32).toInt = 1 := rfl; have e0 : (0 : Int32).toInt = 0 := rfl; omega
  unfold f_Tab_leadRows b_Tab_leadRows_30 b_Tab_leadRows_31
  simp only [cm, o_b_some, en, o_let_eq, if_true, show ¬ (1 : Int32) = 0 by decide, if_false]
  have b0 : bd (0 : Int32) 0 40 := ⟨by decide, by decide⟩
  by_cases g : m 37 9 < 1 ∨ nI n < m 37 9
  case neg =>
    have g1 : ¬ m 37 9 < 1 := fun z => g (Or.inl z)
    have g2 : ¬ nI n < m 37 9 := fun z => g (Or.inr z)
    simp only [if_neg g1, if_neg g2, o_b2_some]
    refine ⟨_, _, rfl, ?_⟩
    have fc : Fr (fun b j => (b = 37 ∧ j = 9) ∨ b = 10 ∨ (42 ≤ b ∧ b ≤ 241)) m (a_st m 37 9 0) := Fr.rf.st (Or.inl ⟨rfl, rfl⟩)
    have e49 : a_st (a_st m 37 9 0) 242 0 0 242 49 = m 242 49 := by rw [a_st_no (by omega), a_st_no (by omega)]
    have st45 : a_st (a_st m 37 9 0) 242 0 0 242 45 = nI s := e45 _ (by rw [a_st_no (by omega)])
    simp only [z_bad0, o_b2_some, if_true, st45]
    simp only [if_pos yin, show ¬ (1 : Int32) = 0 by decide, if_false, z_bad0, o_b2_some, if_true]
    rw [mf _ fc]
    unfold b_Mod_bite_73
    rw [o_let_eq, e49, if_neg (fun z => g1 (bf.mpr z)), ← n9, if_neg g2]
    have fr : Fr fG m (a_st (a_st (a_st m 37 9 0) 242 0 0) 242 49 0) := ((Fr.rf.st (by simp [fG])).st (by simp [fG, sc0])).st (by simp [fG])
    have iv := h.ro (m2 := a_st (a_st (a_st m 37 9 0) 242 0 0) 242 49 0) fr (by rw [a_st_no (by omega), a_st_no (by omega), a_st_no (by omega)]) (by rw [a_st_no (by omega), a_st_no (by omega), a_st_no (by omega)]) (by rw [a_st_self, a_st_no (by omega), a_st_no (by omega), a_st_self]; exact ⟨rfl, b0⟩) t1 t2 t3 (fun q hq => (hr q hq).fr hq (fun b j hb => by rw [a_st_no (by omega), a_st_no (by omega), a_st_no (by omega)]))
    exact ⟨_, _, rfl, ⟨by rw [a_st_no (by omega), a_st_self], rfl⟩, iv.1, iv.2⟩
  have cl : (if m 37 9 < 1 then ll_Tab_leadRows_49 F F (nI n) (nI n) 0 (a_st m 37 9 0) else if nI n < m 37 9 then ll_Tab_leadRows_49 F F (nI n) (nI n) 0 (a_st m 37 9 0) else some ((-1 : Int32), a_st m 37 9 0)) = ll_Tab_leadRows_49 F F (nI n) (nI n) 0 (a_st m 37 9 0) := by
    rcases g with g | g
    · rw [if_pos g]
    · by_cases g1 : m 37 9 < 1
      · rw [if_pos g1]
      · rw [if_neg g1, if_pos g]
  rw [cl]
  obtain ⟨m1, e1, v1, f1⟩ := c_bite_l (F := F) (st := st) (m0 := m) (x2 := nI n) hF 40 0 n F (a_st m 37 9 0) (by omega) (by omega) n40 (hL.fr (fun b j hb => by rw [a_st_ne (by unfold fL at hb; omega)])) (fun b j b1 b2 => by rw [a_st_ne (by omega)])
  rw [show ll_Tab_leadRows_49 F F (nI n) (nI n) 0 (a_st m 37 9 0) = _ from e1, o_b2_some]
  refine ⟨_, _, rfl, ?_⟩
  have q40 : ∀ q, lq (kdB m 0) 40 0 n q = true → q < 40 := fun q z => by have := lq_P _ _ _ z; omega
  have fc : Fr (fun b j => (b = 37 ∧ j = 9) ∨ b = 10 ∨ (42 ≤ b ∧ b ≤ 241)) m m1 := fun b j hb => by
    rw [f1 b j (fun z => by
      rcases z with z | ⟨q, z1, z2⟩
      · omega
      · have := q40 q z1
        omega), a_st_no (by omega)]
  have e49 : a_st m1 242 0 0 242 49 = m 242 49 := by rw [a_st_no (by omega), fc _ _ (by omega)]
  have st45 : a_st m1 242 0 0 242 45 = nI s := e45 _ (fc _ _ (by omega))
  simp only [z_bad0, o_b2_some, if_true, st45]
  simp only [if_pos yin, show ¬ (1 : Int32) = 0 by decide, if_false, z_bad0, o_b2_some, if_true]
  rw [mf _ fc]
  unfold b_Mod_bite_73 b_Mod_bite_95
  have f37 : m1 37 9 = 0 := by rw [f1 37 9 (fun z => by rcases z with z | ⟨q, z1, z2⟩ <;> omega), a_st_self]
  have to : ∀ b j, ¬ ((b = 37 ∧ j = 9) ∨ b = 10 ∨ (42 ≤ b ∧ b ≤ 241)) → ¬ (b = 242 ∧ (j = 0 ∨ j = 49)) → a_st (a_st m1 242 0 0) 242 49 0 b j = m b j := fun b j z1 z2 => by rw [a_st_no (by omega), a_st_no (by omega), fc b j z1]
  obtain ⟨m2, e2, v2, f2⟩ := m_bite_l (F := F) (st := st) (m0 := m) (x2 := nI n) hF hr 40 0 n F (a_st (a_st m1 242 0 0) 242 49 0) (by omega) (by omega) n40 (hL.2.fr (fun b j hb => to b j (by unfold fL at hb; omega) (by unfold fL at hb; omega))) (fun q q1 q2 => by
    refine ⟨to _ _ (by omega) (by omega), to _ _ (by omega) (by omega), fun z j hj => ?_⟩
    obtain ⟨κ, κ4, w3, w4, w5, _⟩ := (hr q q2).kind (by rw [z]; decide)
    rw [to _ _ (by omega) (by omega)]
    exact (w5 j hj).symm)
  have ml : (if m 242 49 ≤ 0 then ll_Mod_bite_101 F F (nI n) (nI n) 0 (a_st (a_st m1 242 0 0) 242 49 0) else if nI n < m 242 49 then ll_Mod_bite_101 F F (nI n) (nI n) 0 (a_st (a_st m1 242 0 0) 242 49 0) else some ((-1 : Int32), a_st (a_st m1 242 0 0) 242 49 0)) = some (nI n, m2) := by
    rw [← e2]
    rw [bf, n9] at g
    rcases g with g | g
    · rw [if_pos g]; rfl
    · by_cases g1 : m 242 49 ≤ 0
      · rw [if_pos g1]; rfl
      · rw [if_neg g1, if_pos g]; rfl
  rw [o_let_eq, e49, ml]
  -- nothing but the rows has changed
  have un : ∀ b j, ¬ mB (lq (kdB m 0) 40 0 n) b j → ¬ ((b = 37 ∧ j = 9) ∨ b = 10 ∨ (42 ≤ b ∧ b ≤ 241)) → ¬ (b = 242 ∧ (j = 0 ∨ j = 49)) → m2 b j = m b j := fun b j z1 z2 z3 => by rw [f2 b j z1, to b j z2 z3]
  have nB : ∀ b j, ¬ fSo b j → ¬ ((b = 249 ∨ b = 250) ∧ j < 4) → (∀ q, lq (kdB m 0) 40 0 n q = true → ¬ ((b = 8475 ∧ j = q) ∨ ((b = 8520 + q ∨ b = 8561 + q) ∧ j < 4))) → ¬ mB (lq (kdB m 0) 40 0 n) b j := fun b j z1 z2 z3 z => by
    rcases z with z | z | ⟨q, y1, y2⟩
    · exact z1 z
    · exact z2 z
    · exact z3 q y1 y2
  have cls : ∀ b j, 37 ≤ b → b ≤ 241 → m2 b j = m1 b j := fun b j b1 b2 => by
    rw [f2 b j (nB b j (by unfold fSo fV; omega) (by omega) (fun q z => by omega)), a_st_ne (by omega), a_st_ne (by omega)]
  have m1c : ∀ b j, 42 ≤ b → b ≤ 241 → (∀ q, lq (kdB m 0) 40 0 n q = true → ¬ ((b = 42 + 5 * q ∧ j = 3) ∨ ((b = 44 + 5 * q ∨ b = 45 + 5 * q) ∧ j < 4))) → m1 b j = m b j := fun b j b1 b2 z => by
    rw [f1 b j (fun y => by
      rcases y with y | ⟨q, y1, y2⟩
      · omega
      · exact z q y1 y2), a_st_ne (by omega)]
  have iv := h.ro (m2 := m2) (fun b j hb => by
    unfold fG sc0 at hb
    exact un b j (nB b j (by unfold fSo fV; omega) (by omega) (fun q z => by have := q40 q z; omega)) (by omega) (by omega)) (by rw [cls _ _ (by omega) (by omega), fc _ _ (by omega)]) (un _ _ (nB _ _ (by unfold fSo fV; omega) (by omega) (fun q z => by omega)) (by omega) (by omega)) (by
    rw [cls _ _ (by omega) (by omega), f37, f2 242 49 (nB _ _ (by unfold fSo fV; omega) (by omega) (fun q z => by omega)), a_st_self]
    exact ⟨rfl, b0⟩) t1 t2 t3 (fun q hq => by
    by_cases e : lq (kdB m 0) 40 0 n q = true
    · have kz : m (42 + 5 * q) 3 = 0 := of_decide_eq_true (lq_P _ _ _ e).2.2
      obtain ⟨κ, κ4, w3, w4, w5, w6, w7, w8, w9⟩ := (hr q hq).kind (by rw [kz]; decide)
      have κ0 : κ = 0 := nI_inj (by omega) (by decide) (w3.symm.trans kz)
      obtain ⟨x1, x2⟩ := v1 q e
      obtain ⟨y1, y2⟩ := v2 q e
      have lc : ∀ b j, 42 + 5 * q ≤ b → b ≤ 46 + 5 * q → ¬ ((b = 42 + 5 * q ∧ j = 3) ∨ ((b = 44 + 5 * q ∨ b = 45 + 5 * q) ∧ j < 4)) → m2 b j = m b j := fun b j b1 b2 z => by
        rw [cls b j (by omega) (by omega)]
        exact m1c b j (by omega) (by omega) (fun q' _ => by omega)
      have lr : ∀ b j, (b = 8473 ∨ b = 8474 ∨ b = 8476 ∨ b = 8477 ∨ b = 8479 + q ∨ b = 8602 + q) → m2 b j = m b j := fun b j hb => un b j (nB b j (by unfold fSo fV; omega) (by omega) (fun q' z => by have := q40 q' z; omega)) (by omega) (by omega)
      have k13 : ld st (m (43 + 5 * q)) = 1 ∨ ld st (m (43 + 5 * q)) = 3 := ld_13
      refine ⟨fun f hf => by rw [lc _ _ (by omega) (by omega) (by omega)]; exact (hr q hq).1 f hf, Or.inr ⟨?_, ld st (m (43 + 5 * q)), by omega, by rw [cls _ _ (by omega) (by omega)]; exact x1, y1, fun j hj => ?_, fun _ j hj => ?_, ?_, fun f hf => ?_, ?_⟩⟩
      · rw [lr _ _ (by omega)]
        rcases (hr q hq).th1 with z | z
        · exact absurd ((hr q hq).th.mpr z) (by rw [kz]; decide)
        · exact z
      · rw [lc _ _ (by omega) (by omega) (by omega), lr _ _ (by omega)]; exact w5 j hj
      · rw [cls (44 + 5 * q) j (by omega) (by omega), cls (45 + 5 * q) j (by omega) (by omega), (x2 j hj).1, (x2 j hj).2, (y2 j hj).1, (y2 j hj).2]
        exact ⟨rfl, rfl⟩
      · rw [lr 8474 q (by omega), lc (42 + 5 * q) 4 (by omega) (by omega) (by omega), lc (42 + 5 * q) 5 (by omega) (by omega) (by omega)]
        rcases w7 with w7 | w7
        · exact Or.inl w7
        · exact absurd w7.2.2.2.2 (by omega)
      · rw [lc (42 + 5 * q) 6 (by omega) (by omega) (by omega), lc (46 + 5 * q) f (by omega) (by omega) (by omega), lr (8602 + q) f (by omega)]; exact w8 f hf
      · rw [lc (42 + 5 * q) 6 (by omega) (by omega) (by omega)]; exact w9
    · refine (hr q hq).fr hq (fun b j hb => ?_)
      have ne : ∀ q', lq (kdB m 0) 40 0 n q' = true → q' ≠ q := fun q' z y => e (y ▸ z)
      by_cases b3 : b ≤ 241
      · rw [cls b j (by omega) b3]
        exact m1c b j (by omega) (by omega) (fun q' z => by have := ne q' z; omega)
      · exact un b j (nB b j (by unfold fSo fV; omega) (by omega) (fun q' z => by have := ne q' z; have := q40 q' z; omega)) (by omega) (by omega))
  exact ⟨_, _, rfl, ⟨by rw [f2 242 0 (nB _ _ (by unfold fSo fV; omega) (by omega) (fun q z => by omega)), a_st_no (by omega), a_st_self], rfl⟩, iv.1, iv.2⟩
