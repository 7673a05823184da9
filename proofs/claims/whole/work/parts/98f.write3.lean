/-! CALLS: write, pieces of the reference's half -/
theorem m_wo_l {F k l : Nat} {v : Int32} (hk : k < 40) (hl : l < 4) : ∀ (d i N : Nat) (m : aM), i + d = 4 → d < N → (∀ j, j < i → m (8479 + k) j = if j = l then v else m 252 j) → ∃ m', ll_Mod_writeOld_8 F N (nI k) (nI l) v (nI i) m = (if m' 8475 k = 0 then some (0, m') else o_b2 (f_Mod_takesSeen F (nI k) m') fun _ m3 => some (0, m3)) ∧ (∀ j, j < 4 → m' (8479 + k) j = if j = l then v else m 252 j) ∧ Fr (fun b j => b = 8479 + k ∧ j < 4) m m'
  | 0, i, N, m, hd, hN, h => by
    obtain ⟨N, rfl⟩ : ∃ k, N = k + 1 := ⟨N - 1, by omega⟩
    obtain rfl : i = 4 := by omega
    refine ⟨m, ?_, h, Fr.rf⟩
    show lb_Mod_writeOld_8 F (ll_Mod_writeOld_8 F N) (nI k) (nI l) v (nI 4) m = _
    unfold lb_Mod_writeOld_8
    rw [if_pos (by decide), inb_nI hk (by decide), o_gd_t, nI_clamp (by omega)]
  | d + 1, i, N, m, hd, hN, h => by
    obtain ⟨N, rfl⟩ : ∃ k, N = k + 1 := ⟨N - 1, by omega⟩
    obtain ⟨m', e, h1, f1⟩ := m_wo_l (F := F) (v := v) hk hl d (i + 1) N (a_st m (8479 + k) i (if i = l then v else m 252 i)) (by omega) (by omega) (fun j hj => by
      rw [a_st_ne (b := 252) (by omega)]
      by_cases c : j = i
      · rw [c, a_st_self]
      · rw [a_st_no (by omega)]; exact h j (by omega))
    refine ⟨m', ?_, fun j hj => (h1 j hj).trans (by rw [a_st_ne (b := 252) (by omega)]), Fr.sto f1 ⟨rfl, by omega⟩⟩
    rw [← e, show ll_Mod_writeOld_8 F (N + 1) (nI k) (nI l) v (nI i) m = lb_Mod_writeOld_8 F (ll_Mod_writeOld_8 F N) (nI k) (nI l) v (nI i) m from rfl]
    unfold lb_Mod_writeOld_8 b_Mod_writeOld_39
    simp only [if_neg (show ¬ (4 : Int32) ≤ nI i from nI_ge (b := 4) (by omega) (by decide)), inb_nI (show i < 4 by omega) (by decide), inb_nI hk (by decide), o_gd_t, o_let_eq, nI_clamp (show i < 2 ^ 31 by omega), nI_clamp (show k < 2 ^ 31 by omega), nI_1]
    by_cases c : i = l
    · rw [if_pos (show nI i = nI l by rw [c]), if_pos c]
    · rw [if_neg (fun z => c (nI_inj (by omega) (by omega) z)), if_neg c]
def fWm (k : Nat) : Nat → Nat → Prop := fun b j => fOa b j ∨ fSo b j ∨ ((b = 8479 + k ∨ b = 8520 + k ∨ b = 8561 + k) ∧ j < 4)
theorem m_writeOld {F k κ l : Nat} {v : Int32} {st : lS} {m : aM} (hk : k < 40) (hl : l < 4) (hL : ML m st) (h : m 8475 k = nI κ) (hκ : κ < 4) (hF : 5000 ≤ F) : ∃ m', f_Mod_writeOld F (nI k) (nI l) v m = some (0, m') ∧ (∀ j, j < 4 → m' (8479 + k) j = wO0 st κ l v (m (8479 + k)) (m (8520 + k)) (m (8561 + k)) j) ∧ (¬ κ = 0 → ∀ j, j < 4 → m' (8520 + k) j = sN st j (wO0 st κ l v (m (8479 + k)) (m (8520 + k)) (m (8561 + k))) ∧ m' (8561 + k) j = sK st j (wO0 st κ l v (m (8479 + k)) (m (8520 + k)) (m (8561 + k)))) ∧ Fr (fWm k) m m' := by
  obtain ⟨m2, e2, v2, f2⟩ := m_oldAs (F := F) hk hL h hκ hF
  obtain ⟨m3, e3, v3, f3⟩ := m_wo_l (F := F) (v := v) hk hl 4 0 F m2 (by omega) (by omega) (fun j hj => by omega)
  have f13 : Fr (fWm k) m m3 := (f2.mono (fun b j hb => Or.inl hb)).tr (f3.mono (fun b j hb => Or.inr (Or.inr ⟨Or.inl hb.1, hb.2⟩)))
  have o3 : ∀ j, j < 4 → m3 (8479 + k) j = wO0 st κ l v (m (8479 + k)) (m (8520 + k)) (m (8561 + k)) j := fun j hj => by
    rw [v3 j hj, v2 j hj]
    rfl
  have hL3 : ML m3 st := hL.fr (fun b j hb => f13 b j (by unfold fL at hb; unfold fWm fOa fSo fV; omega))
  have k3 : m3 8475 k = nI κ := by rw [f13 _ _ (by unfold fWm fOa fSo fV; omega), h]
  unfold f_Mod_writeOld
  rw [e2, o_b2_some, show ll_Mod_writeOld_8 F F (nI k) (nI l) v 0 m2 = _ from e3, k3]
  by_cases c : κ = 0
  · rw [if_pos (by rw [c]; rfl)]
    exact ⟨m3, rfl, o3, fun z => absurd c z, f13⟩
  · obtain ⟨m4, e4, v4, f4⟩ := m_takesSeen (F := F) hk hL3 hF
    rw [if_neg (show ¬ nI κ = 0 from fun z => c (nI_inj (by omega) (by decide) (show nI κ = nI 0 from z))), e4, o_b2_some]
    refine ⟨m4, rfl, fun j hj => ?_, fun _ j hj => ?_, f13.tr (f4.mono (fun b j hb => hb.elim (fun z => Or.inr (Or.inl z)) (fun z => Or.inr (Or.inr (by omega)))))⟩
    · rw [f4 _ _ (by unfold fSo fV; omega)]; exact o3 j hj
    · rw [(v4 j hj).1, (v4 j hj).2]
      exact ⟨sN_cg hL hj o3, sK_cg hj o3⟩
theorem m_tp3_l {F k a2 a3 : Nat} (h2 : 252 < a2) (h3 : 252 < a3) : ∀ (d i N : Nat) (m : aM), i + d = 4 → d < N → (∀ j, j < i → m 250 j = m a2 j ∧ m 249 j = m a3 j) → ∃ m', ll_Mod_takesPut_3 F N (nI k) a2 a3 (nI i) m = (o_b2 (f_Mod_puts F m') fun _ m2 => ll_Mod_takesPut_44 F F (nI k) 0 m2) ∧ (∀ j, j < 4 → m' 250 j = m a2 j ∧ m' 249 j = m a3 j) ∧ Fr (fun b j => (b = 249 ∨ b = 250) ∧ j < 4) m m'
  | 0, i, N, m, hd, hN, h => by
    obtain ⟨N, rfl⟩ : ∃ k, N = k + 1 := ⟨N - 1, by omega⟩
    obtain rfl : i = 4 := by omega
    exact ⟨m, rfl, h, Fr.rf⟩
  | d + 1, i, N, m, hd, hN, h => by
    obtain ⟨N, rfl⟩ : ∃ k, N = k + 1 := ⟨N - 1, by omega⟩
    obtain ⟨m', e, h1, f1⟩ := m_tp3_l (F := F) (k := k) h2 h3 d (i + 1) N (a_st (a_st m 250 i (m a2 i)) 249 i (m a3 i)) (by omega) (by omega) (fun j hj => by
      rw [a_st_ne (b := a2) (by omega), a_st_ne (b := a2) (by omega), a_st_ne (b := a3) (by omega), a_st_ne (b := a3) (by omega)]
      by_cases c : j = i
      · rw [c, a_st_self, a_st_ne (b := 250) (by decide), a_st_self]; exact ⟨rfl, rfl⟩
      · rw [a_st_no (by omega), a_st_no (by omega), a_st_no (by omega), a_st_no (by omega)]; exact h j (by omega))
    refine ⟨m', ?_, fun j hj => ?_, Fr.sto (Fr.sto f1 ⟨Or.inl rfl, by omega⟩) ⟨Or.inr rfl, by omega⟩⟩
    · rw [← e, show ll_Mod_takesPut_3 F (N + 1) (nI k) a2 a3 (nI i) m = lb_Mod_takesPut_3 F (ll_Mod_takesPut_3 F N) (nI k) a2 a3 (nI i) m from rfl]
      unfold lb_Mod_takesPut_3
      simp only [if_neg (show ¬ (4 : Int32) ≤ nI i from nI_ge (b := 4) (by omega) (by decide)), inb_nI (show i < 4 by omega) (by decide), o_gd_t, o_let_eq, nI_clamp (show i < 2 ^ 31 by omega), nI_1, a_st_ne (show a3 ≠ 250 by omega)]
    · obtain ⟨q1, q2⟩ := h1 j hj
      rw [a_st_ne (b := a2) (by omega), a_st_ne (b := a2) (by omega)] at q1
      rw [a_st_ne (b := a3) (by omega), a_st_ne (b := a3) (by omega)] at q2
      exact ⟨q1, q2⟩
theorem m_tp44_l {F k : Nat} (hk : k < 40) : ∀ (d i N : Nat) (m : aM), i + d = 4 → d < N → (∀ j, j < i → m (8479 + k) j = m 252 j) → ∃ m', ll_Mod_takesPut_44 F N (nI k) (nI i) m = some (0, m') ∧ (∀ j, j < 4 → m' (8479 + k) j = m 252 j) ∧ Fr (fun b j => b = 8479 + k ∧ j < 4) m m'
  | 0, i, N, m, hd, hN, h => by
    obtain ⟨N, rfl⟩ : ∃ k, N = k + 1 := ⟨N - 1, by omega⟩
    obtain rfl : i = 4 := by omega
    exact ⟨m, rfl, h, Fr.rf⟩
  | d + 1, i, N, m, hd, hN, h => by
    obtain ⟨N, rfl⟩ : ∃ k, N = k + 1 := ⟨N - 1, by omega⟩
    obtain ⟨m', e, h1, f1⟩ := m_tp44_l (F := F) hk d (i + 1) N (a_st m (8479 + k) i (m 252 i)) (by omega) (by omega) (fun j hj => by
      rw [a_st_ne (b := 252) (by omega)]
      by_cases c : j = i
      · rw [c, a_st_self]
      · rw [a_st_no (by omega)]; exact h j (by omega))
    refine ⟨m', ?_, fun j hj => (h1 j hj).trans (by rw [a_st_ne (b := 252) (by omega)]), Fr.sto f1 ⟨rfl, by omega⟩⟩
    rw [← e, show ll_Mod_takesPut_44 F (N + 1) (nI k) (nI i) m = lb_Mod_takesPut_44 F (ll_Mod_takesPut_44 F N) (nI k) (nI i) m from rfl]
    unfold lb_Mod_takesPut_44
    simp only [if_neg (show ¬ (4 : Int32) ≤ nI i from nI_ge (b := 4) (by omega) (by decide)), inb_nI (show i < 4 by omega) (by decide), inb_nI hk (by decide), o_gd_t, o_let_eq, nI_clamp (show i < 2 ^ 31 by omega), nI_clamp (show k < 2 ^ 31 by omega), nI_1]
theorem m_takesPut {F k a2 a3 : Nat} {st : lS} {m : aM} (hk : k < 40) (h2 : 252 < a2) (h3 : 252 < a3) (hL : ML m st) (hF : 5000 ≤ F) : ∃ m', f_Mod_takesPut F (nI k) a2 a3 m = some (0, m') ∧ (∀ j, j < 4 → m' (8479 + k) j = sO st j (m a3) (m a2)) ∧ Fr (fun b j => fOa b j ∨ (b = 8479 + k ∧ j < 4)) m m' := by
  obtain ⟨m1, e1, v1, f1⟩ := m_tp3_l (F := F) (k := k) h2 h3 4 0 F m (by omega) (by omega) (fun j hj => by omega)
  have hL1 : ML m1 st := hL.fr (fun b j hb => f1 b j (by unfold fL at hb; omega))
  obtain ⟨m3, e3, v3, f3⟩ := m_puts (F := F) hL1 hF
  obtain ⟨m4, e4, v4, f4⟩ := m_tp44_l (F := F) hk 4 0 F m3 (by omega) (by omega) (fun j hj => by omega)
  unfold f_Mod_takesPut
  rw [show ll_Mod_takesPut_3 F F (nI k) a2 a3 0 m = _ from e1, e3, o_b2_some, show ll_Mod_takesPut_44 F F (nI k) 0 m3 = _ from e4]
  refine ⟨m4, rfl, fun j hj => ?_, ((f1.mono (fun b j hb => Or.inl (Or.inr (by omega)))).tr (f3.mono (fun b j hb => Or.inl (hb.elim Or.inl (fun z => Or.inr (by omega)))))).tr (f4.mono (fun b j hb => Or.inr hb))⟩
  rw [v4 j hj, v3 j hj]
  exact sO_cg hL hj (fun i hi => (v1 i hi).2) (fun i hi => (v1 i hi).1)
