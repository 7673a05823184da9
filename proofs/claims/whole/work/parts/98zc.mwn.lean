/-! CALLS: write, the reference writes the new form -/
theorem m_wn13_l {F k l z z' : Nat} {v : Int32} (hl : l < 4) (hz : 8692 ≤ z) : ∀ (d i N : Nat) (m : aM), i + d = 4 → d < N → (∀ j, j < i → m z j = if j = l then v else m 251 j) → ∃ m' N', ll_Mod_writeNew_13 F N z' (nI k) (nI l) v z (nI i) m = ll_Mod_writeNew_13 F (N' + 1) z' (nI k) (nI l) v z 4 m' ∧ (∀ j, j < 4 → m' z j = if j = l then v else m 251 j) ∧ Fr (fun b j => b = z ∧ j < 4) m m'
  | 0, i, N, m, hd, hN, h => by
    obtain ⟨N, rfl⟩ : ∃ k, N = k + 1 := ⟨N - 1, by omega⟩
    obtain rfl : i = 4 := by omega
    exact ⟨m, N, rfl, h, Fr.rf⟩
  | d + 1, i, N, m, hd, hN, h => by
    obtain ⟨N, rfl⟩ : ∃ k, N = k + 1 := ⟨N - 1, by omega⟩
    obtain ⟨m', N', e, h1, f1⟩ := m_wn13_l (F := F) (k := k) (z' := z') (v := v) hl hz d (i + 1) N (a_st m z i (if i = l then v else m 251 i)) (by omega) (by omega) (fun j hj => by
      rw [a_st_ne (b := 251) (by omega)]
      by_cases c : j = i
      · rw [c, a_st_self]
      · rw [a_st_no (by omega)]; exact h j (by omega))
    refine ⟨m', N', ?_, fun j hj => (h1 j hj).trans (by rw [a_st_ne (b := 251) (by omega)]), Fr.sto f1 ⟨rfl, by omega⟩⟩
    rw [← e, show ll_Mod_writeNew_13 F (N + 1) z' (nI k) (nI l) v z (nI i) m = lb_Mod_writeNew_13 F (ll_Mod_writeNew_13 F N) z' (nI k) (nI l) v z (nI i) m from rfl]
    unfold lb_Mod_writeNew_13 b_Mod_writeNew_40
    simp only [if_neg (show ¬ (4 : Int32) ≤ nI i from nI_ge (b := 4) (by omega) (by decide)), inb_nI (show i < 4 by omega) (by decide), o_gd_t, o_let_eq, nI_clamp (show i < 2 ^ 31 by omega), nI_1]
    by_cases c : i = l
    · rw [if_pos (show nI i = nI l by rw [c]), if_pos c]
    · rw [if_neg (fun z => c (nI_inj (by omega) (by omega) z)), if_neg c]
theorem m_wn64_l {F k z a4 z' : Nat} {st : lS} (hk : k < 40) (hz : 8692 ≤ z) : ∀ (d i N : Nat) (m : aM), ML m st → i + d = 4 → d < N → (∀ j, j < i → m z j = sK st j (m (8479 + k))) → ∃ m' , ll_Mod_writeNew_64 F N z' (nI k) a4 z (nI i) m = (o_b2 (f_Mod_takesPut F (nI k) a4 z m') fun _ m2 => some ((0, z'), m2)) ∧ (∀ j, j < 4 → m' z j = sK st j (m (8479 + k))) ∧ Fr (fun b j => b = z ∧ j < 4) m m'
  | 0, i, N, m, hL, hd, hN, h => by
    obtain ⟨N, rfl⟩ : ∃ k, N = k + 1 := ⟨N - 1, by omega⟩
    obtain rfl : i = 4 := by omega
    exact ⟨m, rfl, h, Fr.rf⟩
  | d + 1, i, N, m, hL, hd, hN, h => by
    obtain ⟨N, rfl⟩ : ∃ k, N = k + 1 := ⟨N - 1, by omega⟩
    have row : (a_st m z i (sK st i (m (8479 + k)))) (8479 + k) = m (8479 + k) := a_st_ne (by omega)
    obtain ⟨m', e, h1, f1⟩ := m_wn64_l (F := F) (a4 := a4) (z' := z') (st := st) hk hz d (i + 1) N (a_st m z i (sK st i (m (8479 + k)))) (hL.fr (fun b j hb => by unfold fL at hb; rw [a_st_ne (by omega)])) (by omega) (by omega) (fun j hj => by
      rw [row]
      by_cases c : j = i
      · rw [c, a_st_self]
      · rw [a_st_no (by omega)]; exact h j (by omega))
    rw [row] at h1
    refine ⟨m', ?_, h1, Fr.sto f1 ⟨rfl, by omega⟩⟩
    rw [← e, show ll_Mod_writeNew_64 F (N + 1) z' (nI k) a4 z (nI i) m = lb_Mod_writeNew_64 F (ll_Mod_writeNew_64 F N) z' (nI k) a4 z (nI i) m from rfl]
    unfold lb_Mod_writeNew_64 b_Mod_writeNew_96
    rw [if_neg (show ¬ (4 : Int32) ≤ nI i from nI_ge (b := 4) (by omega) (by decide)), m_isKept hL (show i < 4 by omega), o_b_some]
    simp only [inb_nI (show i < 4 by omega) (by decide), inb_nI hk (by decide), o_gd_t, o_let_eq, nI_clamp (show i < 2 ^ 31 by omega), nI_clamp (show k < 2 ^ 31 by omega), nI_1]
    unfold sK
    by_cases c : st.2.1 i = true
    · rw [if_pos c, if_neg (by decide), if_pos c]
    · rw [if_neg c, if_pos rfl, if_neg c]
theorem m_wn116_l {F k z z' : Nat} (hk : k < 40) (hz : 8692 ≤ z) : ∀ (d i N : Nat) (m : aM), i + d = 4 → d < N → (∀ j, j < i → m (8520 + k) j = m z j) → ∃ m', ll_Mod_writeNew_116 F N z' (nI k) z (nI i) m = (if m' 8475 k = 1 then o_b2 (f_Mod_takesPut F (nI k) z (8561 + k) m') fun _ m2 => some ((0, z'), m2) else some ((0, z'), m')) ∧ (∀ j, j < 4 → m' (8520 + k) j = m z j) ∧ Fr (fun b j => b = 8520 + k ∧ j < 4) m m'
  | 0, i, N, m, hd, hN, h => by
    obtain ⟨N, rfl⟩ : ∃ k, N = k + 1 := ⟨N - 1, by omega⟩
    obtain rfl : i = 4 := by omega
    refine ⟨m, ?_, h, Fr.rf⟩
    show lb_Mod_writeNew_116 F (ll_Mod_writeNew_116 F N) z' (nI k) z (nI 4) m = _
    unfold lb_Mod_writeNew_116
    rw [if_pos (by decide), inb_nI hk (by decide), o_gd_t, nI_clamp (by omega), o_gd_t]
  | d + 1, i, N, m, hd, hN, h => by
    obtain ⟨N, rfl⟩ : ∃ k, N = k + 1 := ⟨N - 1, by omega⟩
    obtain ⟨m', e, h1, f1⟩ := m_wn116_l (F := F) (z' := z') hk hz d (i + 1) N (a_st m (8520 + k) i (m z i)) (by omega) (by omega) (fun j hj => by
      rw [a_st_ne (b := z) (by omega)]
      by_cases c : j = i
      · rw [c, a_st_self]
      · rw [a_st_no (by omega)]; exact h j (by omega))
    refine ⟨m', ?_, fun j hj => (h1 j hj).trans (by rw [a_st_ne (b := z) (by omega)]), Fr.sto f1 ⟨rfl, by omega⟩⟩
    rw [← e, show ll_Mod_writeNew_116 F (N + 1) z' (nI k) z (nI i) m = lb_Mod_writeNew_116 F (ll_Mod_writeNew_116 F N) z' (nI k) z (nI i) m from rfl]
    unfold lb_Mod_writeNew_116
    simp only [if_neg (show ¬ (4 : Int32) ≤ nI i from nI_ge (b := 4) (by omega) (by decide)), inb_nI (show i < 4 by omega) (by decide), inb_nI hk (by decide), o_gd_t, o_let_eq, nI_clamp (show i < 2 ^ 31 by omega), nI_clamp (show k < 2 ^ 31 by omega), nI_1]
def fWz (k z : Nat) : Nat → Nat → Prop := fun b j => fWm k b j ∨ b = z ∨ b = z + 1
theorem fr_zr {P : Nat → Nat → Prop} {m m' : aM} {z : Nat} (h : Fr P m m') (hz : ∀ j, P z j) : Fr P m (a_zr m' z) := fun b j hb => by
  have ne : b ≠ z := fun e => hb (by rw [e]; exact hz j)
  rw [a_zr_at ne]
  exact h b j hb
theorem m_writeNew {F k κ l z : Nat} {v : Int32} {st : lS} {m : aM} (hk : k < 40) (hl : l < 4) (hz : 8692 ≤ z) (hL : ML m st) (h : m 8475 k = nI κ) (hκ : κ < 3) (hF : 5000 ≤ F) : ∃ z' m', f_Mod_writeNew F z (nI k) (nI l) v m = some ((0, z'), m') ∧ (z' = z + 1 ∨ z' = z + 2) ∧ (∀ j, j < 4 → m' (8479 + k) j = if κ = 2 then m (8479 + k) j else sO st j (wB1 st κ (m (8479 + k)) (m (8561 + k))) (wN1 st κ l v (m (8479 + k)) (m (8520 + k)))) ∧ (κ = 1 ∨ κ = 2 → ∀ j, j < 4 → m' (8520 + k) j = wN1 st κ l v (m (8479 + k)) (m (8520 + k)) j ∧ m' (8561 + k) j = m (8561 + k) j) ∧ Fr (fWz k z) m m' := by
  obtain ⟨m2, e2, v2, f2⟩ := m_newAs (F := F) hk hL h (by omega) hF
  obtain ⟨m3, N', e3, v3, f3⟩ := m_wn13_l (F := F) (k := k) (z' := z + 1) (v := v) hl hz 4 0 F (a_zr m2 z) (by omega) (by omega) (fun j hj => by omega)
  have f23 : Fr (fWz k z) m m3 := (fr_zr (P := fWz k z) (f2.mono (fun b j hb => Or.inl (Or.inr (Or.inl hb)))) (fun j => Or.inr (Or.inl rfl))).tr (f3.mono (fun b j hb => Or.inr (Or.inl hb.1)))
  have low : ∀ b j, b < 8692 → ¬ fSo b j → m3 b j = m b j := fun b j b1 b2 => by rw [f3 b j (by omega), a_zr_at (by omega), f2 b j b2]
  have lo2 : ∀ b j, 8475 ≤ b → b < 8692 → m3 b j = m b j := fun b j b1 b2 => low b j b2 (by unfold fSo fV; omega)
  have hL3 : ML m3 st := hL.fr (fun b j hb => low b j (by unfold fL at hb; omega) (by unfold fL at hb; unfold fSo fV; omega))
  have n3 : ∀ j, j < 4 → m3 z j = wN1 st κ l v (m (8479 + k)) (m (8520 + k)) j := fun j hj => by
    rw [v3 j hj]
    unfold wN1
    by_cases c : j = l
    · rw [if_pos c, if_pos c]
    · rw [if_neg c, if_neg c, a_zr_at (by omega), v2 j hj]
  have k3 : m3 8475 k = nI κ := by rw [lo2 _ _ (by omega) (by omega), h]
  have sT : f_Mod_writeNew F z (nI k) (nI l) v m = (if nI κ = 0 then ll_Mod_writeNew_64 F F (z + 1 + 1) (nI k) z (z + 1) 0 (a_zr m3 (z + 1)) else ll_Mod_writeNew_116 F F (z + 1) (nI k) z 0 m3) := by
    unfold f_Mod_writeNew
    rw [e2, o_b2_some, o_let_eq, show ll_Mod_writeNew_13 F F (z + 1) (nI k) (nI l) v z 0 (a_zr m2 z) = _ from e3]
    show lb_Mod_writeNew_13 F (ll_Mod_writeNew_13 F N') (z + 1) (nI k) (nI l) v z 4 m3 = _
    unfold lb_Mod_writeNew_13
    rw [if_pos (by decide), inb_nI hk (by decide), o_gd_t, nI_clamp (by omega), k3, o_let_eq]
  rw [sT]
  by_cases c0 : κ = 0
  · have hL4 : ML (a_zr m3 (z + 1)) st := hL3.fr (fun b j hb => a_zr_at (by unfold fL at hb; omega))
    obtain ⟨m4, e4, v4, f4⟩ := m_wn64_l (F := F) (a4 := z) (z' := z + 1 + 1) (z := z + 1) hk (by omega) 4 0 F (a_zr m3 (z + 1)) hL4 (by omega) (by omega) (fun j hj => by omega)
    have hL5 : ML m4 st := hL4.fr (fun b j hb => f4 b j (by unfold fL at hb; omega))
    obtain ⟨m5, e5, v5, f5⟩ := m_takesPut (F := F) (a2 := z) (a3 := z + 1) hk (by omega) (by omega) hL5 hF
    rw [if_pos (by rw [c0]; rfl), show ll_Mod_writeNew_64 F F (z + 1 + 1) (nI k) z (z + 1) 0 (a_zr m3 (z + 1)) = _ from e4, e5, o_b2_some]
    refine ⟨_, _, rfl, Or.inr rfl, fun j hj => ?_, fun q => by omega, ((fr_zr (P := fWz k z) f23 (fun j => Or.inr (Or.inr rfl))).tr (f4.mono (fun b j hb => Or.inr (Or.inr hb.1)))).tr (f5.mono (fun b j hb => Or.inl (hb.elim Or.inl (fun q => Or.inr (Or.inr (by omega))))))⟩
    rw [v5 j hj, if_neg (by omega)]
    refine sO_cg hL hj (fun i hi => ?_) (fun i hi => ?_)
    · rw [v4 i hi]
      unfold wB1
      rw [if_neg (by omega)]
      exact sK_cg hi (fun q hq => by rw [a_zr_at (by omega)]; exact lo2 _ _ (by omega) (by omega))
    · rw [f4 _ _ (by omega), a_zr_at (by omega)]
      exact n3 i hi
  · obtain ⟨m4, e4, v4, f4⟩ := m_wn116_l (F := F) (z' := z + 1) hk hz 4 0 F m3 (by omega) (by omega) (fun j hj => by omega)
    have f14 : Fr (fWz k z) m m4 := f23.tr (f4.mono (fun b j hb => Or.inl (Or.inr (Or.inr (by omega)))))
    rw [if_neg (show ¬ nI κ = 0 from fun q => c0 (nI_inj (by omega) (by decide) (show nI κ = nI 0 from q))), show ll_Mod_writeNew_116 F F (z + 1) (nI k) z 0 m3 = _ from e4, f4 8475 k (by omega), k3]
    by_cases c1 : κ = 1
    · have hL4 : ML m4 st := hL3.fr (fun b j hb => f4 b j (by unfold fL at hb; omega))
      obtain ⟨m5, e5, v5, f5⟩ := m_takesPut (F := F) (a2 := z) (a3 := 8561 + k) hk (by omega) (by omega) hL4 hF
      rw [if_pos (by rw [c1]; rfl), e5, o_b2_some]
      refine ⟨_, _, rfl, Or.inl rfl, fun j hj => ?_, fun _ j hj => ⟨?_, ?_⟩, f14.tr (f5.mono (fun b j hb => Or.inl (hb.elim Or.inl (fun q => Or.inr (Or.inr (by omega))))))⟩
      · rw [v5 j hj, if_neg (by omega)]
        refine sO_cg hL hj (fun i hi => ?_) (fun i hi => ?_)
        · rw [f4 _ _ (by omega), lo2 _ _ (by omega) (by omega)]
          unfold wB1
          rw [if_pos (Or.inl c1)]
        · rw [f4 _ _ (by omega)]
          exact n3 i hi
      · rw [f5 _ _ (by unfold fOa fV; omega), v4 j hj]
        exact n3 j hj
      · rw [f5 _ _ (by unfold fOa fV; omega), f4 _ _ (by omega), lo2 _ _ (by omega) (by omega)]
    · rw [if_neg (show ¬ nI κ = 1 from fun q => c1 (nI_inj (by omega) (by decide) (show nI κ = nI 1 from q)))]
      refine ⟨_, _, rfl, Or.inl rfl, fun j hj => ?_, fun _ j hj => ⟨?_, ?_⟩, f14⟩
      · rw [if_pos (by omega), f4 _ _ (by omega), lo2 _ _ (by omega) (by omega)]
      · rw [v4 j hj]
        exact n3 j hj
      · rw [f4 _ _ (by omega), lo2 _ _ (by omega) (by omega)]
