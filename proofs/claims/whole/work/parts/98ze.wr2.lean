/-! CALLS: write, the reference's half whole -/
def fMw (k z p f l : Nat) : Nat → Nat → Prop := fun b j => fWz k z b j ∨ (b = 8602 + k ∧ j = f) ∨ (b = 8669 + 3 * p + f ∧ j = l) ∨ ((b = 8474 ∨ b = 8475 ∨ b = 8476 ∨ b = 8477) ∧ j = k)
/-- what breaks, in the reference -/
theorem m_judge {F k κ z : Nat} {x1 : Int32} {st : lS} {m : aM} (hk : k < 40) (hL : ML m st) (h : m 8475 k = nI κ) (hκ : κ < 3) (hF : 5000 ≤ F) : ∃ m', b_Mod_write_202 F z x1 (nI k) m = some ((1, z), m') ∧ Fr (fun b j => fOa b j ∨ ((b = 8474 ∨ b = 8476 ∨ b = 8477) ∧ j = k)) m m' ∧ ((κ = 1 ∨ κ = 2) → ¬ sR st (m (8561 + k)) (m (8520 + k)) = true → m' 8474 k = 1 ∧ m' 8476 k = (if m 8474 k = 0 then m 242 46 else m 8476 k) ∧ m' 8477 k = (if m 8474 k = 0 then x1 else m 8477 k)) ∧ ((κ = 1 ∨ κ = 2) → sR st (m (8561 + k)) (m (8520 + k)) = true → m' 8474 k = 0) ∧ (¬ (κ = 1 ∨ κ = 2) → m' 8474 k = m 8474 k) := by
  unfold b_Mod_write_202 b_Mod_write_262
  simp only [inb_nI hk (by decide), o_gd_t, nI_clamp (show k < 2 ^ 31 by omega), h, o_let_eq]
  by_cases c : κ = 0
  · rw [if_pos (by rw [c]; rfl)]
    exact ⟨m, rfl, Fr.rf, fun z => by omega, fun z => by omega, fun _ => rfl⟩
  · obtain ⟨m5, e5, f5⟩ := m_isRightBy (F := F) (a1 := 8520 + k) (a2 := 8561 + k) (by omega) (by omega) hL hF
    have f5' : Fr (fun b j => fOa b j ∨ ((b = 8474 ∨ b = 8476 ∨ b = 8477) ∧ j = k)) m m5 := f5.mono (fun b j hb => Or.inl (hb.elim Or.inl (fun q => Or.inr (by omega))))
    have u : ∀ b j, b = 8474 ∨ b = 8476 ∨ b = 8477 ∨ (b = 242 ∧ j = 46) → m5 b j = m b j := fun b j hb => f5 b j (by unfold fV; omega)
    rw [if_neg (show ¬ nI κ = 0 from fun q => c (nI_inj (by omega) (by decide) (show nI κ = nI 0 from q))), e5, o_b2_some]
    by_cases s : sR st (m (8561 + k)) (m (8520 + k)) = true
    · rw [if_pos s, if_neg (by decide), if_neg (by decide)]
      exact ⟨_, rfl, f5'.st (Or.inr (by omega)), fun _ q => absurd s q, fun _ _ => a_st_self, fun q => by omega⟩
    · rw [if_neg s, if_pos rfl, if_pos rfl, if_pos rfl, u 8474 k (by omega)]
      by_cases b0 : m 8474 k = 0
      · rw [if_pos b0, if_pos b0, if_pos b0, u 242 46 (by omega)]
        refine ⟨_, rfl, ((f5'.st (Or.inr (by omega))).st (Or.inr (by omega))).st (Or.inr (by omega)), fun _ _ => ⟨a_st_self, ?_, ?_⟩, fun _ q => absurd q s, fun q => by omega⟩
        · rw [a_st_no (by omega), a_st_no (by omega), a_st_self]
        · rw [a_st_no (by omega), a_st_self]
      · rw [if_neg b0, if_neg b0, if_neg b0]
        refine ⟨_, rfl, f5'.st (Or.inr (by omega)), fun _ _ => ⟨a_st_self, ?_, ?_⟩, fun _ q => absurd q s, fun q => by omega⟩
        · rw [a_st_no (by omega), u _ _ (by omega)]
        · rw [a_st_no (by omega), u _ _ (by omega)]
theorem m_wl {F k κ p f l z : Nat} {v : Int32} {st : lS} {m : aM} (hk : k < 40) (hp : p < 8) (hf : f < 2) (hl : l < 4) (hz : 8692 ≤ z) (hL : ML m st) (h : m 8475 k = nI κ) (hκ : κ < 4) (hF : 5000 ≤ F) : ∃ z' m9, b_Mod_write_133 F z (nI p) (nI k) (nI f) (nI l) v m = some ((1, z'), m9) ∧ (z ≤ z' ∧ z' ≤ z + 2) ∧ Fr (fMw k z p f l) m m9 ∧ m9 (8602 + k) f = m 242 46 ∧ m9 (8669 + 3 * p + f) l = m 242 46 ∧ m9 8475 k = nI (k30 κ) ∧ (∀ j, j < 4 → m9 (8479 + k) j = wOf st (k30 κ) f l v (m (8479 + k)) (m (8520 + k)) (m (8561 + k)) j) ∧ (κ = 1 ∨ κ = 2 → ∀ j, j < 4 → m9 (8520 + k) j = wNf st (k30 κ) f l v (m (8479 + k)) (m (8520 + k)) (m (8561 + k)) j ∧ m9 (8561 + k) j = wBf st (k30 κ) f l v (m (8479 + k)) (m (8520 + k)) (m (8561 + k)) j) ∧ ((κ = 1 ∨ κ = 2) → ¬ sR st (wBf st (k30 κ) f l v (m (8479 + k)) (m (8520 + k)) (m (8561 + k))) (wNf st (k30 κ) f l v (m (8479 + k)) (m (8520 + k)) (m (8561 + k))) = true → m9 8474 k = 1 ∧ m9 8476 k = (if m 8474 k = 0 then m 242 46 else m 8476 k) ∧ m9 8477 k = (if m 8474 k = 0 then nI p else m 8477 k)) ∧ ((κ = 1 ∨ κ = 2) → sR st (wBf st (k30 κ) f l v (m (8479 + k)) (m (8520 + k)) (m (8561 + k))) (wNf st (k30 κ) f l v (m (8479 + k)) (m (8520 + k)) (m (8561 + k))) = true → m9 8474 k = 0) ∧ (¬ (κ = 1 ∨ κ = 2) → m9 8474 k = m 8474 k) := by
  have k3 := k30_iff (κ := κ)
  -- the notes and the kind
  let mn : aM := a_st (a_st (a_st m (8602 + k) f (m 242 46)) (8669 + 3 * p + f) l (m 242 46)) 8475 k (nI (k30 κ))
  have nn : ∀ b j, ¬ (b = 8602 + k ∧ j = f) → ¬ (b = 8669 + 3 * p + f ∧ j = l) → ¬ (b = 8475 ∧ j = k) → mn b j = m b j := fun b j h1 h2 h3 => by
    show a_st (a_st (a_st m (8602 + k) f (m 242 46)) (8669 + 3 * p + f) l (m 242 46)) 8475 k (nI (k30 κ)) b j = _
    rw [a_st_no h3, a_st_no h2, a_st_no h1]
  have nK : mn 8475 k = nI (k30 κ) := a_st_self
  have e0 : b_Mod_write_133 F z (nI p) (nI k) (nI f) (nI l) v m = b_Mod_write_177 F z (nI p) (nI k) (nI f) (nI l) v mn := by
    unfold b_Mod_write_133
    simp only [inb_nI hk (by decide), inb_nI hf (by decide), inb_nI hp (by decide), inb_nI hl (by decide), o_gd_t, o_let_eq, nI_clamp (show k < 2 ^ 31 by omega), nI_clamp (show f < 2 ^ 31 by omega), nI_clamp (show p < 2 ^ 31 by omega), nI_clamp (show l < 2 ^ 31 by omega)]
    rw [show a_st m (8602 + k) f (m 242 46) 242 46 = m 242 46 from a_st_no (by omega), show a_st (a_st m (8602 + k) f (m 242 46)) (8669 + 3 * p + f) l (m 242 46) 8475 k = nI κ by rw [a_st_ne (by omega), a_st_ne (by omega), h]]
    by_cases c3 : κ = 3
    · rw [if_pos (by rw [c3]; rfl)]
      show _ = b_Mod_write_177 F z (nI p) (nI k) (nI f) (nI l) v (a_st (a_st (a_st m (8602 + k) f (m 242 46)) (8669 + 3 * p + f) l (m 242 46)) 8475 k (nI (k30 κ)))
      rw [show nI (k30 κ) = 0 by unfold k30; rw [if_pos c3]; rfl]
    · rw [if_neg (show ¬ nI κ = 3 from fun q => c3 (nI_inj (by omega) (by decide) (show nI κ = nI 3 from q)))]
      show _ = b_Mod_write_177 F z (nI p) (nI k) (nI f) (nI l) v (a_st (a_st (a_st m (8602 + k) f (m 242 46)) (8669 + 3 * p + f) l (m 242 46)) 8475 k (nI (k30 κ)))
      rw [show nI (k30 κ) = nI κ by unfold k30; rw [if_neg c3], a_st_id (m := a_st (a_st m (8602 + k) f (m 242 46)) (8669 + 3 * p + f) l (m 242 46)) (a := 8475) (i := k) (x := nI κ) (by rw [a_st_ne (by omega), a_st_ne (by omega), h])]
  have r1 : mn (8479 + k) = m (8479 + k) := funext fun j => nn _ _ (by omega) (by omega) (by omega)
  have r2 : mn (8520 + k) = m (8520 + k) := funext fun j => nn _ _ (by omega) (by omega) (by omega)
  have r3 : mn (8561 + k) = m (8561 + k) := funext fun j => nn _ _ (by omega) (by omega) (by omega)
  have hLn : ML mn st := hL.fr (fun b j hb => by unfold fL at hb; exact nn _ _ (by omega) (by omega) (by omega))
  have key : ∃ z' m4, b_Mod_write_177 F z (nI p) (nI k) (nI f) (nI l) v mn = b_Mod_write_202 F z' (nI p) (nI k) m4 ∧ (z ≤ z' ∧ z' ≤ z + 2) ∧ Fr (fWz k z) mn m4 ∧ (∀ j, j < 4 → m4 (8479 + k) j = wOf st (k30 κ) f l v (m (8479 + k)) (m (8520 + k)) (m (8561 + k)) j) ∧ (κ = 1 ∨ κ = 2 → ∀ j, j < 4 → m4 (8520 + k) j = wNf st (k30 κ) f l v (m (8479 + k)) (m (8520 + k)) (m (8561 + k)) j ∧ m4 (8561 + k) j = wBf st (k30 κ) f l v (m (8479 + k)) (m (8520 + k)) (m (8561 + k)) j) := by
    unfold b_Mod_write_177
    have hff : f = 0 ∨ f = 1 := by omega
    rcases hff with rfl | rfl
    · obtain ⟨m4, e4, v4, w4, f4⟩ := m_writeOld (F := F) (v := v) hk hl hLn nK (by have := k3.2.2.1 hκ; omega) hF
      rw [r1, r2, r3] at v4 w4
      rw [if_pos (show nI 0 = 0 from rfl), e4, o_b2_some]
      exact ⟨z, m4, rfl, by omega, f4.mono (fun b j hb => Or.inl hb), fun j hj => (v4 j hj).trans (if_pos rfl).symm, fun q j hj => ⟨(w4 (fun y => (k3.2.2.2 hκ).mp y q) j hj).1.trans (if_pos rfl).symm, (w4 (fun y => (k3.2.2.2 hκ).mp y q) j hj).2.trans (if_pos rfl).symm⟩⟩
    · obtain ⟨z', m4, e4, z1, v4, w4, f4⟩ := m_writeNew (F := F) (v := v) hk hl hz hLn nK (k3.2.2.1 hκ) hF
      rw [r1, r2, r3] at v4 w4
      rw [if_neg (by decide), e4, o_b2_some]
      refine ⟨z', m4, rfl, by omega, f4, fun j hj => (v4 j hj).trans (if_neg (by decide)).symm, fun q j hj => ⟨(w4 (k3.2.1.mpr q) j hj).1.trans (if_neg (by decide)).symm, ?_⟩⟩
      rw [(w4 (k3.2.1.mpr q) j hj).2]
      exact (if_neg (by decide)).symm
  obtain ⟨z', m4, e4, zz, f4, v4, w4⟩ := key
  have ow : ∀ b j, (b = 8474 ∨ b = 8475 ∨ b = 8476 ∨ b = 8477 ∨ b = 8602 + k ∨ (8669 ≤ b ∧ b ≤ 8691) ∨ (b = 242 ∧ j = 46)) → m4 b j = mn b j := fun b j hb => f4 b j (by unfold fWz fWm fOa fSo fV; omega)
  have hL4 : ML m4 st := hLn.fr (fun b j hb => f4 b j (by unfold fL at hb; unfold fWz fWm fOa fSo fV; omega))
  obtain ⟨m9, e9, f9, g1, g2, g3⟩ := m_judge (F := F) (x1 := nI p) (z := z') hk hL4 ((ow _ _ (by omega)).trans nK) (k3.2.2.1 hκ) hF
  have sRe : κ = 1 ∨ κ = 2 → sR st (m4 (8561 + k)) (m4 (8520 + k)) = sR st (wBf st (k30 κ) f l v (m (8479 + k)) (m (8520 + k)) (m (8561 + k))) (wNf st (k30 κ) f l v (m (8479 + k)) (m (8520 + k)) (m (8561 + k))) := fun q => sR_cg hL (fun j hj => (w4 q j hj).2) (fun j hj => (w4 q j hj).1)
  have u : ∀ b j, ¬ fOa b j → ¬ ((b = 8474 ∨ b = 8476 ∨ b = 8477) ∧ j = k) → m9 b j = m4 b j := fun b j h1 h2 => f9 b j (fun q => q.elim h1 h2)
  have t4 : m4 242 46 = m 242 46 := (ow _ _ (by omega)).trans (nn _ _ (by omega) (by omega) (by omega))
  have b4 : ∀ b, b = 8474 ∨ b = 8476 ∨ b = 8477 → m4 b k = m b k := fun b hb => (ow _ _ (by omega)).trans (nn _ _ (by omega) (by omega) (by omega))
  refine ⟨z', m9, e0.trans (e4.trans e9), zz, fun b j hb => ?_, ?_, ?_, ?_, fun j hj => ?_, fun q j hj => ⟨?_, ?_⟩, fun q s => ?_, fun q s => ?_, fun q => ?_⟩
  · have h1 : ¬ fWz k z b j := fun q => hb (Or.inl q)
    have h2 : ¬ fOa b j := fun q => h1 (Or.inl (Or.inl q))
    rw [u b j h2 (fun q => hb (Or.inr (Or.inr (Or.inr (by omega))))), f4 b j h1, nn b j (fun q => hb (Or.inr (Or.inl q))) (fun q => hb (Or.inr (Or.inr (Or.inl q)))) (fun q => hb (Or.inr (Or.inr (Or.inr (by omega)))))]
  · rw [u _ _ (by unfold fOa fV; omega) (by omega), ow _ _ (by omega)]
    show a_st (a_st (a_st m (8602 + k) f (m 242 46)) (8669 + 3 * p + f) l (m 242 46)) 8475 k (nI (k30 κ)) (8602 + k) f = _
    rw [a_st_ne (by omega), a_st_ne (by omega), a_st_self]
  · rw [u _ _ (by unfold fOa fV; omega) (by omega), ow _ _ (by omega)]
    show a_st (a_st (a_st m (8602 + k) f (m 242 46)) (8669 + 3 * p + f) l (m 242 46)) 8475 k (nI (k30 κ)) (8669 + 3 * p + f) l = _
    rw [a_st_ne (by omega), a_st_self]
  · rw [u _ _ (by unfold fOa fV; omega) (by omega), ow _ _ (by omega), nK]
  · rw [u _ _ (by unfold fOa fV; omega) (by omega), v4 j hj]
  · rw [u _ _ (by unfold fOa fV; omega) (by omega), (w4 q j hj).1]
  · rw [u _ _ (by unfold fOa fV; omega) (by omega), (w4 q j hj).2]
  · have := g1 (k3.2.1.mpr q) (by rw [sRe q]; exact s)
    rw [b4 8474 (by omega), b4 8476 (by omega), b4 8477 (by omega), t4] at this
    exact this
  · exact g2 (k3.2.1.mpr q) (by rw [sRe q]; exact s)
  · rw [g3 (fun y => q (k3.2.1.mp y)), b4 8474 (by omega)]
