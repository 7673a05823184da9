/-! THE LENS IN USE: the reference -/
def fV : Nat → Nat → Prop := fun b j => b = 242 ∧ (j = 2 ∨ (13 ≤ j ∧ j ≤ 18))
theorem fV_fL {b j : Nat} (h : fL b j) : ¬ fV b j := by
  unfold fL at h
  unfold fV
  omega
theorem fM_V : ∀ b j, fM b j → fV b j := fun b j h => by
  unfold fM at h
  unfold fV
  omega
theorem ML.fr {m m' : aM} {st : lS} (h : ML m st) (f : ∀ b j, fL b j → m' b j = m b j) : ML m' st := by
  obtain ⟨h1, h2, ⟨w, h3, h3'⟩, h4, h5⟩ := h
  refine ⟨(f _ _ (by unfold fL; omega)).trans h1, (f _ _ (by unfold fL; omega)).trans h2, ⟨w, (f _ _ (by unfold fL; omega)).trans h3, h3'⟩, h4, ?_⟩
  rcases h5 with ⟨a1, a2⟩ | ⟨a1, T, n, b1, b2, b3, b4, b5, b6⟩
  · exact Or.inl ⟨(f _ _ (by unfold fL; omega)).trans a1, a2⟩
  · refine Or.inr ⟨(f _ _ (by unfold fL; omega)).trans a1, T, n, b1, b2, (f _ _ (by unfold fL; omega)).trans b3, fun j hj => (f _ _ (by unfold fL; omega)).trans (b4 j hj), fun l hl => ?_, fun i x hx => (f _ _ (by unfold fL; omega)).trans (b6 i x hx)⟩
    rw [f 245 l (by unfold fL; omega)]
    exact b5 l hl
section
variable {F : Nat} {st : lS}
/-- reading anew from a place of the text -/
theorem m_readsAt {T : Nat → Int32} {n p : Nat} {m : aM} (hT : Tx T n) (h3 : m 242 3 = nI n) (h4 : ∀ j, j < n → m 244 j = T j) (hp : p ≤ n) : ∃ m', f_Mod_readsAt (nI p) m = some (0, m') ∧ MS T n 0 (m 249) (m 250) (m 242 16) m' p 0 ∧ Fr fV m m' := by
  refine ⟨a_st (a_st (a_st (a_st (a_st (a_st m 242 17 1) 242 2 (m 242 3)) 242 13 (nI p)) 242 14 0) 242 15 0) 242 18 0, ?_, ⟨⟨hT, ?_, fun j hj => ?_⟩, ?_, ?_, ?_, ?_, hp, ?_, ?_, ?_⟩, ?_⟩
  · unfold f_Mod_readsAt
    simp only [o_let_eq, a_st_no (show ¬ (242 = 242 ∧ 3 = 17) by decide)]
  · simp [a_rd, h3]
  · simp only [a_rd]
    simp [h4 j hj]
  · simp [a_rd]
  · simp [a_rd]; rfl
  · simp [a_rd]
  · simp [a_rd]
  · funext j; simp [a_rd]
  · funext j; simp [a_rd]
  · simp [a_rd]
  · exact (((((Fr.rf.st (by simp [fV])).st (by simp [fV])).st (by simp [fV])).st (by simp [fV])).st (by simp [fV])).st (by simp [fV])
theorem m_valueOf {m : aM} {l : Nat} {x : Nat × pV} (h : ML m st) (h12 : m 242 12 = 1) (hl : l < 8) (hx : st.1 l = some x) (hF : 5000 ≤ F) : ∃ m', f_Mod_valueOf F (nI l) m = some (x.2 (m 249) (m 250), m') ∧ Fr fV m m' := by
  rcases h.2.2.2.2 with ⟨h0, _⟩ | ⟨_, T, n, hT, ok, h3, h4, h5, _⟩
  · rw [h12] at h0; exact absurd h0 (by decide)
  · obtain ⟨hp, q, e⟩ := ok.2.2.1 l x hl hx
    obtain ⟨m1, e1, ms, f1⟩ := m_readsAt (p := x.1) hT h3 h4 hp
    obtain ⟨y, m2, e2, r2, _, f2, _⟩ := ((m_total0 (T := T) (n := n) (al := !decide (nI l < 4)) (s := 0) (a := m 249) (b := m 250) (ft := m 242 16) (fun z => absurd rfl z) hF) m1 x.1 ms).1 q x.2 e
    refine ⟨m2, ?_, f1.tr (f2.mono fM_V)⟩
    unfold f_Mod_valueOf
    rw [inb_nI hl (by decide), o_gd_t, nI_clamp (by omega), (h5 l hl).2 x hx, e1, o_b2_some, e2, o_b2_some, r2]
theorem ML.h12 {m : aM} (h : ML m st) : m 242 12 = 0 ∧ st = stD ∨ m 242 12 = 1 ∧ ∀ l, l < 8 → (st.1 l = none → m 245 l = -1) ∧ ∀ x, st.1 l = some x → ¬ m 245 l = -1 := by
  rcases h.2.2.2.2 with h0 | ⟨h1, T, n, hT, ok, h3, h4, h5, _⟩
  · exact Or.inl h0
  · refine Or.inr ⟨h1, fun l hl => ⟨(h5 l hl).1, fun x hx => ?_⟩⟩
    rw [(h5 l hl).2 x hx]
    have := (ok.2.2.1 l x hl hx).1
    have := hT.1
    intro z
    have := congrArg Int32.toInt z
    rw [nI_toInt (by omega)] at this
    have : (-1 : Int32).toInt = -1 := rfl
    omega
theorem m_sees_l (hF : 5000 ≤ F) : ∀ (d i N : Nat) (m : aM), i + d = 4 → d < N → ML m st → (∀ j, j < i → m 251 j = sN st j (m 249)) → ∃ m', ll_Mod_sees_2 F N (nI i) m = some (0, m') ∧ (∀ j, j < 4 → m' 251 j = sN st j (m 249)) ∧ Fr (fun b j => fV b j ∨ (b = 251 ∧ j < 4)) m m'
  | 0, i, N, m, hd, hN, hL, h => by
    obtain ⟨N, rfl⟩ : ∃ k, N = k + 1 := ⟨N - 1, by omega⟩
    obtain rfl : i = 4 := by omega
    exact ⟨m, rfl, h, Fr.rf⟩
  | d + 1, i, N, m, hd, hN, hL, h => by
    obtain ⟨N, rfl⟩ : ∃ k, N = k + 1 := ⟨N - 1, by omega⟩
    have go : ∀ m3, Fr fV m m3 → ∃ m', ll_Mod_sees_2 F N (nI (i + 1)) (a_st m3 251 i (sN st i (m 249))) = some (0, m') ∧ (∀ j, j < 4 → m' 251 j = sN st j (m 249)) ∧ Fr (fun b j => fV b j ∨ (b = 251 ∧ j < 4)) m m' := fun m3 f3 => by
      have q1 : a_st m3 251 i (sN st i (m 249)) 249 = m 249 := by rw [a_st_ne (by decide)]; exact funext fun j => f3 _ _ (by simp [fV])
      obtain ⟨m', e4, h4, f4⟩ := m_sees_l hF d (i + 1) N (a_st m3 251 i (sN st i (m 249))) (by omega) (by omega) (hL.fr (fun b j hb => by rw [a_st_ne (by unfold fL at hb; omega), f3 b j (fV_fL hb)])) (fun j hj => by
        rw [q1]
        by_cases c : j = i
        · rw [c, a_st_self]
        · rw [a_st_no (by omega), f3 251 j (by simp [fV])]; exact h j (by omega))
      rw [q1] at h4
      exact ⟨m', e4, h4, Fr.tr ((f3.mono (fun b j hb => Or.inl hb)).st (Or.inr ⟨rfl, by omega⟩)) f4⟩
    have e0 : ll_Mod_sees_2 F (N + 1) (nI i) m = lb_Mod_sees_2 F (ll_Mod_sees_2 F N) (nI i) m := rfl
    rw [e0]
    unfold lb_Mod_sees_2 b_Mod_sees_51
    have c4 : ¬ (4 : Int32) ≤ nI i := nI_ge (b := 4) (by omega) (by decide)
    simp only [if_neg c4, inb_nI (show i < 4 by omega) (by decide), o_gd_t, o_let_eq, nI_clamp (show i < 2 ^ 31 by omega), nI_1, show nI i + 4 = nI (i + 4) from nI_add i 4, inb_nI (show i + 4 < 8 by omega) (by decide), nI_clamp (show i + 4 < 2 ^ 31 by omega)]
    rcases hL.h12 with ⟨h0, rfl⟩ | ⟨h1, h5⟩
    · rw [if_pos h0]
      have g := go m Fr.rf
      have z : sN stD i (m 249) = m 249 i := by
        show (if 4 + i < 4 then fun _ b => b (4 + i) else fun a _ => a (4 + i - 4) : pV) (m 249) (m 249) = _
        rw [if_neg (by omega), show 4 + i - 4 = i by omega]
      rw [z] at g
      exact g
    · rw [if_neg (by rw [h1]; decide)]
      have e4 : 4 + i = i + 4 := by omega
      cases z : st.1 (i + 4) with
      | none =>
        have g := go m Fr.rf
        have z' : sN st i (m 249) = 0 := by unfold sN; rw [e4, z]
        rw [z'] at g
        rw [if_pos ((h5 (i + 4) (by omega)).1 z)]
        exact g
      | some x =>
        obtain ⟨m2, e2, f2⟩ := m_valueOf hL h1 (show i + 4 < 8 by omega) z hF
        have g := go m2 f2
        have z' : sN st i (m 249) = x.2 (m 249) (m 250) := by
          unfold sN
          rw [e4, z]
          exact hL.dp.1 (i + 4) x (by omega) z _ _ _ _ (fun _ _ => rfl) (fun q => by simp at q; omega)
        rw [z'] at g
        rw [if_neg ((h5 (i + 4) (by omega)).2 x z), e2, o_b2_some]
        exact g
theorem m_sees {m : aM} (h : ML m st) (hF : 5000 ≤ F) : ∃ m', f_Mod_sees F m = some (0, m') ∧ (∀ j, j < 4 → m' 251 j = sN st j (m 249)) ∧ Fr (fun b j => fV b j ∨ (b = 251 ∧ j < 4)) m m' := m_sees_l hF 4 0 F m (by omega) (by omega) h (fun j hj => by omega)
theorem m_puts_l (hF : 5000 ≤ F) : ∀ (d i N : Nat) (m : aM), i + d = 4 → d < N → ML m st → (∀ j, j < i → m 252 j = sO st j (m 249) (m 250)) → ∃ m', ll_Mod_puts_2 F N (nI i) m = some (0, m') ∧ (∀ j, j < 4 → m' 252 j = sO st j (m 249) (m 250)) ∧ Fr (fun b j => fV b j ∨ (b = 252 ∧ j < 4)) m m'
  | 0, i, N, m, hd, hN, hL, h => by
    obtain ⟨N, rfl⟩ : ∃ k, N = k + 1 := ⟨N - 1, by omega⟩
    obtain rfl : i = 4 := by omega
    exact ⟨m, rfl, h, Fr.rf⟩
  | d + 1, i, N, m, hd, hN, hL, h => by
    obtain ⟨N, rfl⟩ : ∃ k, N = k + 1 := ⟨N - 1, by omega⟩
    have go : ∀ m3, Fr fV m m3 → ∃ m', ll_Mod_puts_2 F N (nI (i + 1)) (a_st m3 252 i (sO st i (m 249) (m 250))) = some (0, m') ∧ (∀ j, j < 4 → m' 252 j = sO st j (m 249) (m 250)) ∧ Fr (fun b j => fV b j ∨ (b = 252 ∧ j < 4)) m m' := fun m3 f3 => by
      have q1 : a_st m3 252 i (sO st i (m 249) (m 250)) 249 = m 249 := by rw [a_st_ne (by decide)]; exact funext fun j => f3 _ _ (by simp [fV])
      have q2 : a_st m3 252 i (sO st i (m 249) (m 250)) 250 = m 250 := by rw [a_st_ne (by decide)]; exact funext fun j => f3 _ _ (by simp [fV])
      obtain ⟨m', e4, h4, f4⟩ := m_puts_l hF d (i + 1) N (a_st m3 252 i (sO st i (m 249) (m 250))) (by omega) (by omega) (hL.fr (fun b j hb => by rw [a_st_ne (by unfold fL at hb; omega), f3 b j (fV_fL hb)])) (fun j hj => by
        rw [q1, q2]
        by_cases c : j = i
        · rw [c, a_st_self]
        · rw [a_st_no (by omega), f3 252 j (by simp [fV])]; exact h j (by omega))
      rw [q1, q2] at h4
      exact ⟨m', e4, h4, Fr.tr ((f3.mono (fun b j hb => Or.inl hb)).st (Or.inr ⟨rfl, by omega⟩)) f4⟩
    have e0 : ll_Mod_puts_2 F (N + 1) (nI i) m = lb_Mod_puts_2 F (ll_Mod_puts_2 F N) (nI i) m := rfl
    rw [e0]
    unfold lb_Mod_puts_2 b_Mod_puts_52
    have c4 : ¬ (4 : Int32) ≤ nI i := nI_ge (b := 4) (by omega) (by decide)
    simp only [if_neg c4, inb_nI (show i < 4 by omega) (by decide), o_gd_t, o_let_eq, nI_clamp (show i < 2 ^ 31 by omega), nI_1, inb_nI (show i < 8 by omega) (by decide)]
    rcases hL.h12 with ⟨h0, rfl⟩ | ⟨h1, h5⟩
    · rw [if_pos h0]
      have g := go m Fr.rf
      have z : sO stD i (m 249) (m 250) = m 250 i := by
        show (if i < 4 then fun _ b => b i else fun a _ => a (i - 4) : pV) (m 249) (m 250) = _
        rw [if_pos (by omega)]
      rw [z] at g
      exact g
    · rw [if_neg (by rw [h1]; decide)]
      cases z : st.1 i with
      | none =>
        have g := go m Fr.rf
        have z' : sO st i (m 249) (m 250) = m 249 i := by unfold sO; rw [z]
        rw [z'] at g
        rw [if_pos ((h5 i (by omega)).1 z)]
        exact g
      | some x =>
        obtain ⟨m2, e2, f2⟩ := m_valueOf hL h1 (show i < 8 by omega) z hF
        have g := go m2 f2
        have z' : sO st i (m 249) (m 250) = x.2 (m 249) (m 250) := by unfold sO; rw [z]
        rw [z'] at g
        rw [if_neg ((h5 i (by omega)).2 x z), e2, o_b2_some]
        exact g
theorem m_puts {m : aM} (h : ML m st) (hF : 5000 ≤ F) : ∃ m', f_Mod_puts F m = some (0, m') ∧ (∀ j, j < 4 → m' 252 j = sO st j (m 249) (m 250)) ∧ Fr (fun b j => fV b j ∨ (b = 252 ∧ j < 4)) m m' := m_puts_l hF 4 0 F m (by omega) (by omega) h (fun j hj => by omega)
theorem m_isRight_l (hF : 5000 ≤ F) : ∀ (d i N : Nat) (ac : Bool) (m : aM), i + d = st.2.2.1.length → d < N → ML m st → ∃ m', ll_Mod_isRight_4 F N (if ac = true then 1 else 0) (nI i) m = some (if (ac && (st.2.2.1.drop i).all (fun x => !decide (x.2 (m 249) (m 250) = 0))) = true then 1 else 0, m') ∧ Fr fV m m'
  | 0, i, N, ac, m, hd, hN, hL => by
    obtain ⟨N, rfl⟩ : ∃ k, N = k + 1 := ⟨N - 1, by omega⟩
    obtain rfl : i = st.2.2.1.length := by omega
    have l16 := hL.2.2.2.1
    refine ⟨m, ?_, Fr.rf⟩
    show lb_Mod_isRight_4 F (ll_Mod_isRight_4 F N) (if ac = true then 1 else 0) (nI st.2.2.1.length) m = _
    unfold lb_Mod_isRight_4
    rw [hL.2.1, if_pos (nI_le (Nat.le_refl _) (by omega)), List.drop_length]
    cases ac <;> rfl
  | d + 1, i, N, ac, m, hd, hN, hL => by
    obtain ⟨N, rfl⟩ : ∃ k, N = k + 1 := ⟨N - 1, by omega⟩
    have l16 := hL.2.2.2.1
    have hi : i < st.2.2.1.length := by omega
    rcases hL.2.2.2.2 with ⟨_, rfl⟩ | ⟨_, T, n, hT, ok, h3, h4, h5, h6⟩
    · exact absurd hi (by simp [stD])
    have hx : st.2.2.1[i]? = some st.2.2.1[i] := List.getElem?_eq_getElem hi
    obtain ⟨hp, q, e⟩ := ok.2.2.2 i _ hx
    obtain ⟨m1, e1, ms, f1⟩ := m_readsAt (p := st.2.2.1[i].1) hT h3 h4 hp
    obtain ⟨y, m2, e2, r2, _, f2, _⟩ := ((m_ors0 (T := T) (n := n) (al := false) (s := 0) (a := m 249) (b := m 250) (ft := m 242 16) (fun z => absurd rfl z) hF) m1 st.2.2.1[i].1 ms).1 q _ e
    have fm : Fr fV m m2 := f1.tr (f2.mono fM_V)
    have q1 : m2 249 = m 249 := funext fun j => fm _ _ (by simp [fV])
    have q2 : m2 250 = m 250 := funext fun j => fm _ _ (by simp [fV])
    have e0 : ∀ x, ll_Mod_isRight_4 F (N + 1) x (nI i) m = lb_Mod_isRight_4 F (ll_Mod_isRight_4 F N) x (nI i) m := fun _ => rfl
    rw [e0]
    unfold lb_Mod_isRight_4 b_Mod_isRight_37 b_Mod_isRight_38
    rw [hL.2.1, if_neg (nI_ge hi (by omega)), inb_nI (show i < 16 by omega) (by decide), o_gd_t, nI_clamp (by omega), h6 i _ hx, e1, o_b2_some, e2, o_b2_some, nI_1, List.drop_eq_getElem_cons hi, List.all_cons]
    subst r2
    have ih := fun ac' => m_isRight_l hF d (i + 1) N ac' m2 (by omega) (by omega) (hL.fr (fun b j hb => fm b j (fV_fL hb)))
    rw [q1, q2] at ih
    by_cases c : st.2.2.1[i].2 (m 249) (m 250) = 0
    · rw [if_pos c]
      obtain ⟨m', e3, f3⟩ := ih false
      refine ⟨m', ?_, fm.tr f3⟩
      simp only [Bool.false_eq_true, if_false, Bool.false_and] at e3
      rw [e3]
      simp [c]
    · rw [if_neg c]
      obtain ⟨m', e3, f3⟩ := ih ac
      refine ⟨m', ?_, fm.tr f3⟩
      cases ac with
      | true =>
        simp only [if_true, show ¬ (1 : Int32) = 0 by decide, if_false] at e3 ⊢
        rw [e3]
        simp only [decide_eq_false c, Bool.not_false, Bool.true_and]
      | false =>
        simp only [Bool.false_eq_true, if_false, if_true, Bool.false_and] at e3 ⊢
        exact e3
theorem m_isRight {m : aM} (h : ML m st) (hF : 5000 ≤ F) : ∃ m', f_Mod_isRight F m = some (if sR st (m 249) (m 250) = true then 1 else 0, m') ∧ Fr fV m m' := by
  have l16 := h.2.2.2.1
  obtain ⟨m', e, f⟩ := m_isRight_l (F := F) hF st.2.2.1.length 0 F true m (by omega) (by omega) h
  exact ⟨m', e, f⟩
theorem m_isKept {m : aM} {l : Nat} (h : ML m st) (hl : l < 4) : f_Mod_isKept (nI l) m = some (if st.2.1 l = true then 1 else 0) := by
  obtain ⟨w, e, w16, hw⟩ := h.2.2.1
  unfold f_Mod_isKept
  rw [o_let_eq, e, kB_kept w w16 l hl, hw l hl]
  by_cases c : st.2.1 l = true <;> simp [c]
end
