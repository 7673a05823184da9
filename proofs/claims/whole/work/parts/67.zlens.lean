/-! THE CALL lens -/
def fM3 : Nat → Nat → Prop := fun b j => b = 242 ∧ (13 ≤ j ∧ j ≤ 21) ∨ b = 247 ∨ b = 248
theorem m_ra_l {T : Nat → Int32} {n F : Nat} (hF : 5000 ≤ F) : ∀ (d i N : Nat) (m : aM), i + d = 8 → d < N → TM T n m → m 242 13 = nI 0 → m 242 14 = nI 0 → m 242 15 = 0 → m 242 19 = nI 0 → m 242 20 = nI 0 → m 242 21 = nI 0 → (∀ j, j < i → m 247 j = -1) →
    (∀ q st', pLn T n 401 lS0 0 = .inr (q, st') → ∃ m', ll_Mod_readAll_42 F N (nI i) m = some (0, m') ∧ m' 242 15 = 0 ∧ m' 242 16 = m 242 16 ∧ RSt m' st' st'.2.2.2 ∧ okS T n st' ∧ Fr fM2 m m') ∧ (∀ k q, pLn T n 401 lS0 0 = .inl (k, q) → ∃ m', ll_Mod_readAll_42 F N (nI i) m = some (0, m') ∧ m' 242 15 = k ∧ k ≠ 0 ∧ m' 242 16 = nI q ∧ Fr fM2 m m')
  | 0, i, N, m, hd, hN, h, h1, h2, h3, h4, h5, h6, h7 => by
    obtain ⟨N, rfl⟩ : ∃ k, N = k + 1 := ⟨N - 1, by omega⟩
    obtain rfl : i = 8 := by omega
    have hn := h.1.1
    have mx : MX T n m 0 := ⟨h, h1, h2, h3, Nat.zero_le _⟩
    obtain ⟨e, ms⟩ := m_blanksS mx.ms hF
    have e0 : ll_Mod_readAll_42 F (N + 1) (nI 8) m = ll_Mod_readAll_65 F F (a_st m 242 13 (nI (kp T 0))) := by
      show lb_Mod_readAll_42 F (ll_Mod_readAll_42 F N) (nI 8) m = _
      unfold lb_Mod_readAll_42
      rw [if_pos (by decide), e, o_b2_some]
    rw [e0]
    have rs : RSt (a_st m 242 13 (nI (kp T 0))) lS0 lS0.2.2.2 := by
      refine ⟨by rw [a_st_no (by decide)]; exact h4, by rw [a_st_no (by decide)]; exact h5, ⟨0, by rw [a_st_no (by decide)]; exact h6, by decide, fun l _ => by simp [lS0]⟩, fun l hl => ⟨fun _ => by rw [a_st_ne (by decide)]; exact h7 l hl, fun x hx => by simp [lS0] at hx⟩, fun i x hx => by simp [lS0] at hx⟩
    have r := m_all_l hF 401 F 0 lS0 _ (MX.of ms) rs okS0 (by omega) (by omega)
    refine ⟨fun q st' z => ?_, fun k q z => ?_⟩
    · obtain ⟨m', z1, z2, z3, z4, z5, z6⟩ := r.1 q st' z
      exact ⟨m', z1, z2, by rw [z3, a_st_no (by decide)], z4, z5, Fr.sto z6 (by simp [fM2])⟩
    · obtain ⟨m', z1, z2, z3, z4, z6⟩ := r.2 k q z
      exact ⟨m', z1, z2, z3, z4, Fr.sto z6 (by simp [fM2])⟩
  | d + 1, i, N, m, hd, hN, h, h1, h2, h3, h4, h5, h6, h7 => by
    obtain ⟨N, rfl⟩ : ∃ k, N = k + 1 := ⟨N - 1, by omega⟩
    have f : Fr fM2 m (a_st m 247 i (-1)) := Fr.rf.st (by simp [fM2])
    have e0 : ll_Mod_readAll_42 F (N + 1) (nI i) m = ll_Mod_readAll_42 F N (nI (i + 1)) (a_st m 247 i (-1)) := by
      show lb_Mod_readAll_42 F (ll_Mod_readAll_42 F N) (nI i) m = _
      unfold lb_Mod_readAll_42
      rw [if_neg (show ¬ (8 : Int32) ≤ nI i from nI_ge (b := 8) (by omega) (by decide)), inb_nI (show i < 8 by omega) (by decide), o_gd_t, o_let_eq, nI_clamp (by omega), nI_1]
    rw [e0]
    have r := m_ra_l hF d (i + 1) N (a_st m 247 i (-1)) (by omega) (by omega) (h.fr2 f) (by rw [a_st_ne (by decide)]; exact h1) (by rw [a_st_ne (by decide)]; exact h2) (by rw [a_st_ne (by decide)]; exact h3) (by rw [a_st_ne (by decide)]; exact h4) (by rw [a_st_ne (by decide)]; exact h5) (by rw [a_st_ne (by decide)]; exact h6) (fun j hj => by
      by_cases c : j = i
      · rw [c, a_st_self]
      · rw [a_st_no (by omega)]; exact h7 j (by omega))
    refine ⟨fun q st' z => ?_, fun k q z => ?_⟩
    · obtain ⟨m', z1, z2, z3, z4, z5, z6⟩ := r.1 q st' z
      exact ⟨m', z1, z2, by rw [z3, a_st_ne (by decide)], z4, z5, f.tr z6⟩
    · obtain ⟨m', z1, z2, z3, z4, z6⟩ := r.2 k q z
      exact ⟨m', z1, z2, z3, z4, f.tr z6⟩
theorem m_readAll {T : Nat → Int32} {n F : Nat} {m : aM} (hT : Tx T n) (h2 : m 242 2 = nI n) (hm : ∀ j, j < n → m 243 j = T j) (hF : 5000 ≤ F) :
    (∀ q st', pLn T n 401 lS0 0 = .inr (q, st') → ∃ m', f_Mod_readAll F m = some (0, m') ∧ m' 242 15 = 0 ∧ m' 242 16 = -1 ∧ RSt m' st' st'.2.2.2 ∧ okS T n st' ∧ Fr fM3 m m') ∧ (∀ k q, pLn T n 401 lS0 0 = .inl (k, q) → ∃ m', f_Mod_readAll F m = some (0, m') ∧ m' 242 15 = k ∧ k ≠ 0 ∧ m' 242 16 = nI q ∧ Fr fM3 m m') := by
  unfold f_Mod_readAll
  simp only [o_let_eq]
  generalize hx : a_st (a_st (a_st (a_st (a_st (a_st (a_st (a_st m 242 17 0) 242 13 0) 242 14 0) 242 15 0) 242 16 (-1)) 242 19 0) 242 20 0) 242 21 0 = mx
  have f : Fr fM3 m mx := by
    rw [← hx]
    exact (((((((Fr.rf.st (by simp [fM3])).st (by simp [fM3])).st (by simp [fM3])).st (by simp [fM3])).st (by simp [fM3])).st (by simp [fM3])).st (by simp [fM3])).st (by simp [fM3])
  have g : ∀ {m' : aM}, Fr fM2 mx m' → Fr fM3 m m' := fun z => f.tr (z.mono (fun b j hb => by unfold fM2 at hb; unfold fM3; omega))
  have r := m_ra_l (T := T) (n := n) hF 8 0 F mx (by omega) (by omega) ⟨hT, by rw [f _ _ (by simp [fM3])]; exact h2, fun j hj => by rw [if_pos (by rw [← hx]; simp [a_rd]), f _ _ (by simp [fM3])]; exact hm j hj⟩ (by rw [← hx]; simp [a_rd]; rfl) (by rw [← hx]; simp [a_rd]; rfl) (by rw [← hx]; simp [a_rd]) (by rw [← hx]; simp [a_rd]; rfl) (by rw [← hx]; simp [a_rd]; rfl) (by rw [← hx]; simp [a_rd]; rfl) (fun j hj => by omega)
  refine ⟨fun q st' z => ?_, fun k q z => ?_⟩
  · obtain ⟨m', z1, z2, z3, z4, z5, z6⟩ := r.1 q st' z
    exact ⟨m', z1, z2, by rw [z3, ← hx]; simp [a_rd], z4, z5, g z6⟩
  · obtain ⟨m', z1, z2, z3, z4, z6⟩ := r.2 k q z
    exact ⟨m', z1, z2, z3, z4, g z6⟩
theorem m_cp1 {F n : Nat} : ∀ (d k N : Nat) (m : aM), k + d = n → n ≤ 400 → d < N → ∃ m1, ll_Mod_lens_92 F N (nI n) (nI k) m = ll_Mod_lens_117 F F (nI n) 0 m1 ∧ (∀ j, k ≤ j → j < n → m1 244 j = m 243 j) ∧ (∀ j, j < k → m1 244 j = m 244 j) ∧ Fr (fun b _ => b = 244) m m1
  | 0, k, N, m, hd, h4, hN => by
    obtain ⟨N, rfl⟩ : ∃ k, N = k + 1 := ⟨N - 1, by omega⟩
    obtain rfl : k = n := by omega
    refine ⟨m, ?_, fun j h1 h2 => by omega, fun _ _ => rfl, Fr.rf⟩
    show lb_Mod_lens_92 F (ll_Mod_lens_92 F N) (nI k) (nI k) m = _
    unfold lb_Mod_lens_92
    rw [if_pos (nI_le (Nat.le_refl _) (by omega))]
  | d + 1, k, N, m, hd, h4, hN => by
    obtain ⟨N, rfl⟩ : ∃ k, N = k + 1 := ⟨N - 1, by omega⟩
    obtain ⟨m1, e, h1, h2, f1⟩ := m_cp1 (F := F) (n := n) d (k + 1) N (a_st m 244 k (m 243 k)) (by omega) h4 (by omega)
    refine ⟨m1, ?_, fun j j1 j2 => ?_, fun j hj => by rw [h2 j (by omega), a_st_no (by omega)], Fr.sto f1 rfl⟩
    · show lb_Mod_lens_92 F (ll_Mod_lens_92 F N) (nI n) (nI k) m = _
      unfold lb_Mod_lens_92
      simp only [if_neg (nI_ge (show k < n by omega) (show n < 2 ^ 31 by omega)), inb_nI (show k < 400 by omega) (by decide), o_gd_t, o_let_eq, nI_clamp (show k < 2 ^ 31 by omega), nI_1]
      exact e
    · by_cases c : j = k
      · rw [c, h2 k (by omega), a_st_self]
      · rw [h1 j (by omega) j2, a_st_ne (by decide)]
theorem m_cp2 {F n : Nat} : ∀ (d k N : Nat) (m : aM), k + d = 8 → d < N → ∃ m1, ll_Mod_lens_117 F N (nI n) (nI k) m = ll_Mod_lens_143 F F (nI n) 0 m1 ∧ (∀ j, k ≤ j → j < 8 → m1 245 j = m 247 j) ∧ (∀ j, j < k → m1 245 j = m 245 j) ∧ Fr (fun b _ => b = 245) m m1
  | 0, k, N, m, hd, hN => by
    obtain ⟨N, rfl⟩ : ∃ k, N = k + 1 := ⟨N - 1, by omega⟩
    obtain rfl : k = 8 := by omega
    exact ⟨m, rfl, fun j h1 h2 => by omega, fun _ _ => rfl, Fr.rf⟩
  | d + 1, k, N, m, hd, hN => by
    obtain ⟨N, rfl⟩ : ∃ k, N = k + 1 := ⟨N - 1, by omega⟩
    obtain ⟨m1, e, h1, h2, f1⟩ := m_cp2 (F := F) (n := n) d (k + 1) N (a_st m 245 k (m 247 k)) (by omega) (by omega)
    refine ⟨m1, ?_, fun j j1 j2 => ?_, fun j hj => by rw [h2 j (by omega), a_st_no (by omega)], Fr.sto f1 rfl⟩
    · show lb_Mod_lens_117 F (ll_Mod_lens_117 F N) (nI n) (nI k) m = _
      unfold lb_Mod_lens_117
      simp only [if_neg (show ¬ (8 : Int32) ≤ nI k from nI_ge (b := 8) (by omega) (by decide)), inb_nI (show k < 8 by omega) (by decide), o_gd_t, o_let_eq, nI_clamp (show k < 2 ^ 31 by omega), nI_1]
      exact e
    · by_cases c : j = k
      · rw [c, h2 k (by omega), a_st_self]
      · rw [h1 j (by omega) j2, a_st_ne (by decide)]
theorem m_cp3 {F n w : Nat} : ∀ (d k N : Nat) (m : aM), k + d = w → w ≤ 16 → m 242 20 = nI w → d < N → ∃ m1, ll_Mod_lens_143 F N (nI n) (nI k) m = some (m 242 19, m1) ∧ (∀ j, k ≤ j → j < w → m1 246 j = m 248 j) ∧ (∀ j, j < k → m1 246 j = m 246 j) ∧ m1 242 3 = nI n ∧ m1 242 6 = nI w ∧ m1 242 7 = m 242 21 ∧ m1 242 4 = m 242 19 ∧ m1 242 12 = 1 ∧ Fr (fun b j => b = 246 ∨ b = 242 ∧ (j = 3 ∨ j = 6 ∨ j = 7 ∨ j = 4 ∨ j = 12)) m m1
  | 0, k, N, m, hd, h16, hw, hN => by
    obtain ⟨N, rfl⟩ : ∃ k, N = k + 1 := ⟨N - 1, by omega⟩
    obtain rfl : k = w := by omega
    refine ⟨a_st (a_st (a_st (a_st (a_st m 242 3 (nI n)) 242 6 (nI k)) 242 7 (m 242 21)) 242 4 (m 242 19)) 242 12 1, ?_, fun j h1 h2 => by omega, fun j _ => by simp [a_rd], by simp [a_rd], by simp [a_rd], by simp [a_rd], by simp [a_rd], by simp [a_rd], ((((Fr.rf.st (by simp)).st (by simp)).st (by simp)).st (by simp)).st (by simp)⟩
    show lb_Mod_lens_143 F (ll_Mod_lens_143 F N) (nI n) (nI k) m = _
    unfold lb_Mod_lens_143
    rw [if_pos (by rw [hw]; exact nI_le (Nat.le_refl _) (by omega))]
    simp [a_rd, o_let_eq, hw]
  | d + 1, k, N, m, hd, h16, hw, hN => by
    obtain ⟨N, rfl⟩ : ∃ k, N = k + 1 := ⟨N - 1, by omega⟩
    obtain ⟨m1, e, h1, h2, h3, h4, h5, h6, h7, f1⟩ := m_cp3 (F := F) (n := n) (w := w) d (k + 1) N (a_st m 246 k (m 248 k)) (by omega) h16 (by rw [a_st_ne (by decide)]; exact hw) (by omega)
    refine ⟨m1, ?_, fun j j1 j2 => ?_, fun j hj => by rw [h2 j (by omega), a_st_no (by omega)], h3, h4, by rw [h5, a_st_ne (by decide)], by rw [h6, a_st_ne (by decide)], h7, Fr.sto f1 (by simp)⟩
    · show lb_Mod_lens_143 F (ll_Mod_lens_143 F N) (nI n) (nI k) m = _
      unfold lb_Mod_lens_143
      simp only [if_neg (show ¬ m 242 20 ≤ nI k by rw [hw]; exact nI_ge (show k < w by omega) (by omega)), inb_nI (show k < 16 by omega) (by decide), o_gd_t, o_let_eq, nI_clamp (show k < 2 ^ 31 by omega), nI_1]
      rw [e, a_st_ne (by decide)]
    · by_cases c : j = k
      · rw [c, h2 k (by omega), a_st_self]
      · rw [h1 j (by omega) j2, a_st_ne (by decide)]
/-- what the call lens writes -/
def fLn : Nat → Nat → Prop := fun b j => (b = 0 ∧ (j = 1 ∨ j = 4)) ∨ (2 ≤ b ∧ b ≤ 9) ∨ (b = 11 ∧ j ≠ 0 ∧ j ≠ 5) ∨ (12 ≤ b ∧ b ≤ 20) ∨ (b = 242 ∧ (j ≤ 7 ∨ (12 ≤ j ∧ j ≤ 21))) ∨ (244 ≤ b ∧ b ≤ 248)
theorem m_lens1 {x : Int32} {m : aM} {F : Nat} (h : ¬ (0 ≤ x ∧ x ≤ m 242 1)) : f_Mod_lens F x m = some (0, a_st m 242 0 1) := by
  unfold f_Mod_lens b_Mod_lens_23
  simp only [o_let_eq, z_in, o_b_some, a_st_no (show ¬ (242 = 242 ∧ 1 = 0) by decide), if_neg h, if_true, z_bad, a_st_self, show ¬ (1 : Int32) = 0 by decide, if_false, o_b2_some, a_st_st]
theorem m_lens2 {x : Int32} {m : aM} {F : Nat} (h : 0 ≤ x ∧ x ≤ m 242 1) (h2 : ¬ m 242 45 ≤ 1) : f_Mod_lens F x m = some (0, a_st m 242 0 2) := by
  unfold f_Mod_lens b_Mod_lens_23 b_Mod_lens_44
  simp only [o_let_eq, z_in, o_b_some, a_st_no (show ¬ (242 = 242 ∧ 1 = 0) by decide), a_st_no (show ¬ (242 = 242 ∧ 45 = 0) by decide), if_pos h, if_neg h2, if_true, z_bad, a_st_self, show ¬ (1 : Int32) = 0 by decide, show ¬ (2 : Int32) = 0 by decide, if_false, o_b2_some, a_st_st]
theorem m_lens3 {x : Int32} {m : aM} {F : Nat} (h : 0 ≤ x ∧ x ≤ m 242 1) (h2 : m 242 45 ≤ 1) : f_Mod_lens F x m = o_b2 (f_Mod_readAll F (a_st (a_st m 242 0 0) 242 2 x)) fun _ m5 => if m5 242 15 = 0 then ll_Mod_lens_92 F F x 0 (a_st (a_st m5 242 1 0) 242 5 (m5 242 16)) else some (m5 242 15 - 10, a_st (a_st m5 242 1 0) 242 5 (m5 242 16)) := by
  unfold f_Mod_lens b_Mod_lens_23 b_Mod_lens_44
  simp only [o_let_eq, z_in, o_b_some, a_st_no (show ¬ (242 = 242 ∧ 1 = 0) by decide), a_st_no (show ¬ (242 = 242 ∧ 45 = 0) by decide), if_pos h, if_pos h2, if_true, z_bad, a_st_self, show ¬ (1 : Int32) = 0 by decide, if_false, o_b2_some, a_st_no (show ¬ (242 = 242 ∧ 16 = 1) by decide), a_st_no (show ¬ (242 = 242 ∧ 15 = 5) by decide), a_st_no (show ¬ (242 = 242 ∧ 15 = 1) by decide)]
theorem zf_lens (x : Int32) (m : aM) (F t : Nat) (st : lS) (hF : 5000 ≤ F) (ht : t ≤ 400) (h1 : m 0 1 = nI t) (h2 : m 242 1 = nI t) (h3 : ∀ j, j < t → m 1 j = m 243 j) (h4 : m 37 6 = m 242 45) (h5 : m 0 4 = m 242 5) (hL : LC m st) :
    ∃ r m1, f_Led_lens F x m = some (r, m1) ∧ ∃ v m2, f_Mod_lens F x m1 = some (v, m2) ∧ Co [IAE, ISE] r v (m2 242 0) ∧ (∃ st', LC m2 st') ∧ (m2 0 1 = nI 0 ∧ m2 242 1 = nI 0 ∨ m2 0 1 = nI t ∧ m2 242 1 = nI t) ∧ m2 0 4 = m2 242 5 ∧ Fr fLn m m2 := by
  unfold f_Led_lens
  by_cases c1 : (0 : Int32) ≤ x ∧ x ≤ nI t
  case neg =>
    have e : ∀ A : Option (oX × aM), (if x < 0 then some ((.inr IAE : oX), m) else if x ≤ m 0 1 then A else some ((.inr IAE : oX), m)) = some (.inr IAE, m) := fun A => by
      by_cases d : x < 0
      · rw [if_pos d]
      · rw [if_neg d, h1, if_neg (fun z => c1 ⟨by rw [i_le]; rw [i_lt] at d; omega, z⟩)]
    refine ⟨_, _, e _, _, _, m_lens1 (by rw [h2]; exact c1), ⟨0, rfl, a_st_self⟩, ⟨st, hL.fr (fun b j hb => by unfold fL at hb; rw [a_st_no (by omega)])⟩, Or.inr ⟨?_, ?_⟩, ?_, Fr.rf.st (by simp [fLn])⟩
    · rw [a_st_ne (by decide)]; exact h1
    · rw [a_st_no (by decide)]; exact h2
    · rw [a_st_ne (by decide), a_st_no (by decide)]; exact h5
  have cx : ¬ x < 0 := by have := c1.1; rw [i_le] at this; rw [i_lt]; omega
  rw [if_neg cx, h1, if_pos c1.2]
  by_cases c2 : m 37 6 ≤ 1
  case neg =>
    have c2' : ¬ m 242 45 ≤ 1 := by rw [← h4]; exact c2
    rw [if_neg c2]
    refine ⟨_, _, rfl, _, _, m_lens2 (by rw [h2]; exact c1) c2', ⟨1, rfl, a_st_self⟩, ⟨st, hL.fr (fun b j hb => by unfold fL at hb; rw [a_st_no (by omega)])⟩, Or.inr ⟨?_, ?_⟩, ?_, Fr.rf.st (by simp [fLn])⟩
    · rw [a_st_ne (by decide)]; exact h1
    · rw [a_st_no (by decide)]; exact h2
    · rw [a_st_ne (by decide), a_st_no (by decide)]; exact h5
  have c2' : m 242 45 ≤ 1 := by rw [← h4]; exact c2
  rw [if_pos c2]
  obtain ⟨n, hn31, rfl⟩ := nI_of cx
  have hn : n ≤ t := (nI_leI (by omega) (by omega)).mp c1.2
  let T : Nat → Int32 := fun j => if j < n then m 1 j else -1
  have hT : Tx T n := ⟨by omega, fun j hj => if_neg (by omega)⟩
  have hTm : ∀ j, j < n → m 1 j = T j := fun j hj => (if_pos hj).symm
  have cl := c_lens (F := F) (m := a_st m 0 1 0) hT (fun j hj => by rw [a_st_ne (by decide)]; exact hTm j hj) (by omega)
  have mref : ∀ m4 : aM, (∀ j, m4 242 j = m 242 j) → (∀ j, m4 243 j = m 243 j) →
      (∀ q st', pLn T n 401 lS0 0 = .inr (q, st') → ∃ m', f_Mod_readAll F (a_st (a_st m4 242 0 0) 242 2 (nI n)) = some (0, m') ∧ m' 242 15 = 0 ∧ m' 242 16 = -1 ∧ RSt m' st' st'.2.2.2 ∧ okS T n st' ∧ Fr fM3 (a_st (a_st m4 242 0 0) 242 2 (nI n)) m') ∧ (∀ k q, pLn T n 401 lS0 0 = .inl (k, q) → ∃ m', f_Mod_readAll F (a_st (a_st m4 242 0 0) 242 2 (nI n)) = some (0, m') ∧ m' 242 15 = k ∧ k ≠ 0 ∧ m' 242 16 = nI q ∧ Fr fM3 (a_st (a_st m4 242 0 0) 242 2 (nI n)) m') := fun m4 g1 g2 =>
    m_readAll hT (by rw [a_st_self]) (fun j hj => by rw [a_st_ne (by decide), a_st_ne (by decide), g2, ← h3 j (by omega)]; exact hTm j hj) hF
  simp only [o_let_eq]
  generalize hY : pLn T n 401 lS0 0 = Y at cl mref
  cases Y with
  | inl y =>
    obtain ⟨m3, e3, k3, q3, f3⟩ := cl.1 y.1 y.2 rfl
    rw [e3, o_b2_some, if_pos rfl]
    have fc : Fr (fun b j => (b = 0 ∧ (j = 1 ∨ j = 4)) ∨ (b = 11 ∧ j ≠ 0 ∧ j ≠ 5) ∨ (12 ≤ b ∧ b ≤ 20)) m (a_st m3 0 4 (m3 11 7)) := (((Fr.rf.st (by simp)).st (by simp)).tr (f3.mono (fun b j hb => by unfold fR2 at hb; omega))).st (by simp)
    have v11 : a_st m3 0 4 (m3 11 7) 11 6 = y.1 := by rw [a_st_ne (by decide)]; exact k3
    refine ⟨_, _, rfl, ?_⟩
    rw [v11]
    generalize hm4 : a_st m3 0 4 (m3 11 7) = m4 at fc
    obtain ⟨m5, e5, k5, nz5, q5, f5⟩ := (mref m4 (fun j => fc _ _ (by simp)) (fun j => fc _ _ (by simp))).2 y.1 y.2 rfl
    have g1 : m4 242 1 = nI t := (fc _ _ (by simp)).trans h2
    have g45 : m4 242 45 ≤ 1 := by rw [fc 242 45 (by simp)]; exact c2'
    rw [m_lens3 (by rw [g1]; exact c1) g45, e5, o_b2_some, k5, if_neg nz5, q5]
    refine ⟨_, _, rfl, ⟨?_, rfl⟩, ⟨st, ?_⟩, Or.inl ⟨?_, ?_⟩, ?_, ?_⟩
    · rw [a_st_no (by decide), a_st_no (by decide), f5 _ _ (by simp [fM3]), a_st_no (by decide), a_st_self]
    · refine hL.fr (fun b j hb => ?_)
      unfold fL at hb
      rw [a_st_no (by omega), a_st_no (by omega), f5 b j (by unfold fM3; omega), a_st_no (by omega), a_st_no (by omega), fc b j (by omega)]
    · rw [a_st_ne (by decide), a_st_ne (by decide), f5 _ _ (by simp [fM3]), a_st_ne (by decide), a_st_ne (by decide), ← hm4, a_st_no (by decide), f3 _ _ (by simp [fR2]), a_st_ne (by decide), a_st_self]; rfl
    · rw [a_st_no (by decide), a_st_self]; rfl
    · rw [a_st_ne (by decide), a_st_ne (by decide), f5 _ _ (by simp [fM3]), a_st_ne (by decide), a_st_ne (by decide), ← hm4, a_st_self, q3, a_st_self]
    · exact ((((((fc.mono (fun b j hb => by unfold fLn; omega)).st (by simp [fLn])).st (by simp [fLn])).tr (f5.mono (fun b j hb => by unfold fM3 at hb; unfold fLn; omega))).st (by simp [fLn])).st (by simp [fLn]))
  | inr y =>
    obtain ⟨m3, u3, e3, rq3, f3⟩ := cl.2 y.1 y.2 rfl
    rw [e3, o_b2_some, if_neg (by decide)]
    have d3 : DS 12 (a_st m3 0 4 (-1)) y.2 u3 := rq3.2.2.2.1.gr (by rw [a_st_ne (by decide)]; exact rq3.2.2.2.1.1) (Nat.le_refl _) rq3.2.2.2.1.2.2.2.2.2.1 (fun j _ => ⟨by rw [a_st_ne (by decide)], by rw [a_st_ne (by decide)]⟩) (fun b j hb => by rw [a_st_ne (by omega)])
    obtain ⟨m4, e4, d4, f4⟩ := c_become (F := F) d3 (by omega)
    rw [e4, o_b2_some]
    have fc : Fr (fun b j => (b = 0 ∧ (j = 1 ∨ j = 4)) ∨ (2 ≤ b ∧ b ≤ 9) ∨ (b = 11 ∧ j ≠ 0 ∧ j ≠ 5) ∨ (12 ≤ b ∧ b ≤ 20)) m m4 := ((((Fr.rf.st (by simp)).st (by simp)).tr (f3.mono (fun b j hb => by unfold fR2 at hb; omega))).st (by simp)).tr (f4.mono (fun b j hb => by omega))
    refine ⟨_, _, rfl, ?_⟩
    rw [d4.2.1]
    obtain ⟨m5, e5, k5, q5, rs5, ok5, f5⟩ := (mref m4 (fun j => fc _ _ (by simp)) (fun j => fc _ _ (by simp))).1 y.1 y.2 rfl
    have g1 : m4 242 1 = nI t := (fc _ _ (by simp)).trans h2
    have g45 : m4 242 45 ≤ 1 := by rw [fc 242 45 (by simp)]; exact c2'
    rw [m_lens3 (by rw [g1]; exact c1) g45, e5, o_b2_some, k5, if_pos rfl, q5]
    obtain ⟨m6, e6, a6, _, f6⟩ := m_cp1 (F := F) (n := n) n 0 F (a_st (a_st m5 242 1 0) 242 5 (-1)) (by omega) (by omega) (by omega)
    obtain ⟨m7, e7, a7, _, f7⟩ := m_cp2 (F := F) (n := n) 8 0 F m6 (by omega) (by omega)
    obtain ⟨r1, r2, ⟨w, r3, r3'⟩, r4, r5⟩ := rs5
    have lw16 : y.2.2.2.1.length ≤ 16 := by have := ok5.1; have := ok5.2.1; omega
    have to5 : ∀ b j, b ≠ 244 → b ≠ 245 → ¬ (b = 242 ∧ (j = 1 ∨ j = 5)) → m7 b j = m5 b j := fun b j z1 z2 z3 => by rw [f7 b j z2, f6 b j z1, a_st_no (by omega), a_st_no (by omega)]
    obtain ⟨m8, e8, a8, _, b3, b6, b7, b4, b12, f8⟩ := m_cp3 (F := F) (n := n) (w := y.2.2.2.1.length) y.2.2.2.1.length 0 F m7 (by omega) lw16 ((to5 _ _ (by decide) (by decide) (by decide)).trans r2) (by omega)
    have e678 : ll_Mod_lens_92 F F (nI n) 0 (a_st (a_st m5 242 1 0) 242 5 (-1)) = some (nI y.2.2.2.2, m8) := by
      refine (show ll_Mod_lens_92 F F (nI n) 0 _ = _ from e6).trans ((show ll_Mod_lens_117 F F (nI n) 0 m6 = _ from e7).trans ((show ll_Mod_lens_143 F F (nI n) 0 m7 = _ from e8).trans ?_))
      rw [to5 _ _ (by decide) (by decide) (by decide), r1]
    have fm : Fr (fun b j => (b = 242 ∧ (j ≤ 7 ∨ (12 ≤ j ∧ j ≤ 21))) ∨ (244 ≤ b ∧ b ≤ 248)) m4 m8 := (((((Fr.rf.st (by simp)).st (by simp)).tr (f5.mono (fun b j hb => by unfold fM3 at hb; omega))).st (by simp)).st (by simp)).tr ((f6.mono (fun b j hb => by omega)).tr ((f7.mono (fun b j hb => by omega)).tr (f8.mono (fun b j hb => by omega))))
    have mid : ∀ b j, b ≠ 244 → b ≠ 245 → b ≠ 246 → b ≠ 242 → m8 b j = m5 b j := fun b j z1 z2 z3 z4 => by rw [f8 b j (by omega), to5 b j z1 z2 (by omega)]
    have m2421 : ∀ j, j ≠ 3 → j ≠ 6 → j ≠ 7 → j ≠ 4 → j ≠ 12 → m8 242 j = a_st (a_st m5 242 1 0) 242 5 (-1) 242 j := fun j z1 z2 z3 z4 z5 => by rw [f8 242 j (by omega), f7 242 j (by omega), f6 242 j (by omega)]
    rw [e678]
    refine ⟨_, _, rfl, ⟨?_, rfl⟩, ⟨y.2, ⟨u3, ?_⟩, ?_, ?_, ⟨w, ?_, r3'⟩, lw16, Or.inr ⟨b12, T, n, hT, ok5, b3, fun j hj => ?_, fun l hl => ?_, fun i x hx => ?_⟩⟩, Or.inl ⟨?_, ?_⟩, ?_, ?_⟩
    · rw [m2421 0 (by decide) (by decide) (by decide) (by decide) (by decide), a_st_no (by decide), a_st_no (by decide), f5 _ _ (by simp [fM3]), a_st_no (by decide), a_st_self]
    · exact d4.gr ((fm _ _ (by simp)).trans d4.1) (Nat.le_refl _) d4.2.2.2.2.2.1 (fun j _ => ⟨fm _ _ (by simp), fm _ _ (by simp)⟩) (fun b j hb => fm _ _ (by omega))
    · rw [b4, to5 _ _ (by decide) (by decide) (by decide)]; exact r1
    · exact b6
    · rw [b7, to5 _ _ (by decide) (by decide) (by decide)]; exact r3
    · rw [f8 244 j (by simp), f7 244 j (by simp), a6 j (by omega) hj, a_st_ne (by decide), a_st_ne (by decide), f5 243 j (by simp [fM3]), a_st_ne (by decide), a_st_ne (by decide), fc 243 j (by simp), ← h3 j (by omega)]; exact hTm j hj
    · have : m8 245 l = m5 247 l := by rw [f8 245 l (by simp), a7 l (by omega) hl, f6 247 l (by simp), a_st_ne (by decide), a_st_ne (by decide)]
      rw [this]; exact r4 l hl
    · have hi : i < y.2.2.2.1.length := by
        rcases Nat.lt_or_ge i y.2.2.2.1.length with z | z
        · exact z
        · rw [List.getElem?_eq_none z] at hx; simp at hx
      rw [a8 i (by omega) hi, to5 248 i (by decide) (by decide) (by omega)]; exact r5 i x hx
    · rw [fm 0 1 (by simp), f4 0 1 (by simp), a_st_no (by decide), f3 _ _ (by simp [fR2]), a_st_ne (by decide), a_st_self]; rfl
    · rw [m2421 1 (by decide) (by decide) (by decide) (by decide) (by decide), a_st_no (by decide), a_st_self]; rfl
    · rw [fm 0 4 (by simp), f4 0 4 (by simp), a_st_self, m2421 5 (by decide) (by decide) (by decide) (by decide) (by decide), a_st_self]
    · exact (fc.mono (fun b j hb => by unfold fLn; omega)).tr (fm.mono (fun b j hb => by unfold fLn; omega))
