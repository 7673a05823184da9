/-! CALLS: feed, box, asked, still -/
def by8 (x : Int32) (s : Nat) : Int32 := (x >>> (nI s &&& 31)) &&& 255
theorem by8_u (x : Int32) (s : Nat) (hs : s ≤ 24) : (x.toUInt32 >>> ((nI s).toUInt32 &&& Int32.toUInt32 31)).toInt32 &&& 255 = by8 x s := by
  unfold by8
  refine b_ext (fun i hi => ?_)
  rw [b_and, b_and, b_255, b_ushr s (by omega), b_sshr s (by omega) x hi]
  by_cases c : i < 8
  · rw [if_pos (by omega)]
  · simp [c]
theorem c_feed1 {F N s t : Nat} {x : Int32} {m : aM} (hs : s ≤ 24) (ht : t < 400) (h : m 0 1 = nI t) : ll_Led_feedNumber_3 F (N + 1) x (nI s) m = ll_Led_feedNumber_3 F N x (nI s - 8) (a_st (a_st m 1 t (by8 x s)) 0 1 (nI (t + 1))) := by
  show lb_Led_feedNumber_3 F (ll_Led_feedNumber_3 F N) x (nI s) m = _
  unfold lb_Led_feedNumber_3 b_Led_feedNumber_43
  simp only [if_neg (nI_pos (show s < 2 ^ 31 by omega)), h, if_neg (nI_400 ht), o_let_eq, inb_nI ht (by decide), o_gd_t, nI_clamp (show t < 2 ^ 31 by omega), by8_u x s hs]
  rw [a_st_ne (by decide), h, nI_1]
theorem c_feedN {F t : Nat} {x : Int32} {m : aM} (hF : 10 ≤ F) (ht : t + 4 ≤ 400) (h : m 0 1 = nI t) : ∃ m', f_Led_feedNumber F x m = some (0, m') ∧ m' 0 1 = nI (t + 4) ∧ (∀ i, i < 4 → m' 1 (t + i) = by8 x (24 - 8 * i)) ∧ (∀ j, j < t → m' 1 j = m 1 j) ∧ Fr (fun b j => b = 1 ∨ (b = 0 ∧ j = 1)) m m' := by
  obtain ⟨N, rfl⟩ : ∃ N, F = N + 1 + 1 + 1 + 1 + 1 := ⟨F - 5, by omega⟩
  refine ⟨a_st (a_st (a_st (a_st (a_st (a_st (a_st (a_st m 1 t (by8 x 24)) 0 1 (nI (t + 1))) 1 (t + 1) (by8 x 16)) 0 1 (nI (t + 1 + 1))) 1 (t + 1 + 1) (by8 x 8)) 0 1 (nI (t + 1 + 1 + 1))) 1 (t + 1 + 1 + 1) (by8 x 0)) 0 1 (nI (t + 1 + 1 + 1 + 1)), ?_, ?_, fun i hi => ?_, fun j hj => ?_, ?_⟩
  · unfold f_Led_feedNumber
    rw [show (24 : Int32) = nI 24 from rfl, c_feed1 (by omega) (by omega) h, show nI 24 - 8 = nI 16 by decide, c_feed1 (by omega) (by omega) a_st_self, show nI 16 - 8 = nI 8 by decide, c_feed1 (by omega) (by omega) a_st_self, show nI 8 - 8 = nI 0 by decide, c_feed1 (by omega) (by omega) a_st_self]
    rfl
  · exact a_st_self
  · match i, hi with
    | 0, _ => simp [a_rd, show ¬ t = t + 1 + 1 + 1 by omega, show ¬ t = t + 1 + 1 by omega]
    | 1, _ => simp [a_rd]
    | 2, _ => simp [a_rd]
    | 3, _ => simp [a_rd]
  · have : j ≠ t ∧ j ≠ t + 1 ∧ j ≠ t + 1 + 1 ∧ j ≠ t + 1 + 1 + 1 := by omega
    simp [a_rd, this]
  · exact (((((((Fr.rf.st (by simp)).st (by simp)).st (by simp)).st (by simp)).st (by simp)).st (by simp)).st (by simp)).st (by simp)
/-- the bytes that come -/
def fdW (x1 x2 x3 x4 x5 : Int32) (i : Nat) : Int32 := by8 (if i < 4 then x1 else if i < 8 then x2 else if i < 12 then x3 else if i < 16 then x4 else x5) (24 - 8 * (i % 4))
theorem fd_k : ∀ k, k < 20 → (24 - 8 * (nI k % 4)) = nI (24 - 8 * (k % 4)) := by decide +kernel
theorem m_feed_l {F t : Nat} {x1 x2 x3 x4 x5 : Int32} (ht : t + 20 ≤ 400) : ∀ (d k N : Nat) (m : aM), k + d = 20 → d < N → m 242 1 = nI (t + k) → (∀ i, i < k → m 243 (t + i) = fdW x1 x2 x3 x4 x5 i) → ∃ m', ll_Mod_feed_23 F N x1 x2 x3 x4 x5 (nI k) m = some (nI (t + 20), m') ∧ m' 242 1 = nI (t + 20) ∧ (∀ i, i < 20 → m' 243 (t + i) = fdW x1 x2 x3 x4 x5 i) ∧ (∀ j, j < t → m' 243 j = m 243 j) ∧ Fr (fun b j => b = 243 ∨ (b = 242 ∧ j = 1)) m m'
  | 0, k, N, m, hd, hN, h, hw => by
    obtain ⟨N, rfl⟩ : ∃ k, N = k + 1 := ⟨N - 1, by omega⟩
    obtain rfl : k = 20 := by omega
    refine ⟨m, ?_, h, hw, fun _ _ => rfl, Fr.rf⟩
    show lb_Mod_feed_23 F (ll_Mod_feed_23 F N) x1 x2 x3 x4 x5 (nI 20) m = _
    unfold lb_Mod_feed_23
    rw [if_pos (by decide), h]
  | d + 1, k, N, m, hd, hN, h, hw => by
    obtain ⟨N, rfl⟩ : ∃ k, N = k + 1 := ⟨N - 1, by omega⟩
    obtain ⟨m', e, h1, h2, h3, f1⟩ := m_feed_l (F := F) (x1 := x1) (x2 := x2) (x3 := x3) (x4 := x4) (x5 := x5) ht d (k + 1) N (a_st (a_st m 243 (t + k) (fdW x1 x2 x3 x4 x5 k)) 242 1 (nI (t + k + 1))) (by omega) (by omega) a_st_self (fun i hi => by
      rw [a_st_ne (by decide)]
      by_cases c : i = k
      · rw [c, a_st_self]
      · rw [a_st_no (by omega)]; exact hw i (by omega))
    refine ⟨m', ?_, h1, h2, fun j hj => by rw [h3 j hj, a_st_ne (by decide), a_st_no (by omega)], Fr.sto (Fr.sto f1 (by simp)) (by simp)⟩
    have b76 : ∀ xt0, by8 xt0 (24 - 8 * (k % 4)) = fdW x1 x2 x3 x4 x5 k → b_Mod_feed_76 F (ll_Mod_feed_23 F N) x1 x2 x3 x4 x5 (nI k) xt0 m = some (nI (t + 20), m') := fun xt0 hx => by
      unfold b_Mod_feed_76
      simp only [o_let_eq, fd_k k (by omega), h, inb_nI (show t + k < 400 by omega) (by decide), o_gd_t, nI_clamp (show t + k < 2 ^ 31 by omega), nI_1]
      rw [a_st_ne (by decide), h, nI_1, show (xt0 >>> (nI (24 - 8 * (k % 4)) &&& 31)) &&& 255 = fdW x1 x2 x3 x4 x5 k from hx]
      exact e
    show lb_Mod_feed_23 F (ll_Mod_feed_23 F N) x1 x2 x3 x4 x5 (nI k) m = _
    unfold lb_Mod_feed_23
    rw [if_neg (show ¬ (20 : Int32) ≤ nI k from nI_ge (b := 20) (by omega) (by decide))]
    unfold fdW at b76
    rcases Nat.lt_or_ge k 4 with z | z
    · rw [if_neg (show ¬ (4 : Int32) ≤ nI k from nI_ge (b := 4) z (by decide))]
      exact b76 _ (by rw [if_pos z])
    rw [if_pos (show (4 : Int32) ≤ nI k from nI_le (a := 4) z (by omega))]
    rcases Nat.lt_or_ge k 8 with z2 | z2
    · rw [if_neg (show ¬ (8 : Int32) ≤ nI k from nI_ge (b := 8) z2 (by decide))]
      exact b76 _ (by rw [if_neg (by omega), if_pos z2])
    rw [if_pos (show (8 : Int32) ≤ nI k from nI_le (a := 8) z2 (by omega))]
    rcases Nat.lt_or_ge k 12 with z3 | z3
    · rw [if_neg (show ¬ (12 : Int32) ≤ nI k from nI_ge (b := 12) z3 (by decide))]
      exact b76 _ (by rw [if_neg (by omega), if_neg (by omega), if_pos z3])
    rw [if_pos (show (12 : Int32) ≤ nI k from nI_le (a := 12) z3 (by omega))]
    rcases Nat.lt_or_ge k 16 with z4 | z4
    · rw [if_neg (show ¬ (16 : Int32) ≤ nI k from nI_ge (b := 16) z4 (by decide))]
      exact b76 _ (by rw [if_neg (by omega), if_neg (by omega), if_neg (by omega), if_pos z4])
    rw [if_pos (show (16 : Int32) ≤ nI k from nI_le (a := 16) z4 (by omega))]
    exact b76 _ (by rw [if_neg (by omega), if_neg (by omega), if_neg (by omega), if_neg (by omega)])
theorem Iv.tp {m m2 : aM} (h : Iv m) (f : Fr (fun b j => b = 1 ∨ b = 243 ∨ (b = 0 ∧ j = 1) ∨ (b = 242 ∧ (j = 0 ∨ j = 1))) m m2) (ht : iT m2) : Iv m2 ∧ AgP m m2 := by
  obtain ⟨a1, a2, a3, a4, a5, a6, a7⟩ := h
  exact ⟨⟨ht, a2.fr (fun b j hb => f b j (by omega)), a3.fr (fun b j hb => f b j (by unfold fL at hb; omega)), a4.fr (fun b j hb => f b j (by omega)), a5.fr (fun b j hb => f b j (by omega)), a6.fr (fun b j hb => f b j (by omega)), a7.fr (fun b j hb => f b j (by omega))⟩, Or.inr (fun b j hb => f b j (by omega)), fun b j hb => f b j (by omega)⟩
theorem z_feedI (x1 x2 x3 x4 x5 : Int32) (F : Nat) (m : aM) (hF : 5000 ≤ F) (h : Iv m) : ZN (f_Led_feed F x1 x2 x3 x4 x5) (f_Mod_feed F x1 x2 x3 x4 x5) m := by
  obtain ⟨t, t4, h1, h2, h3⟩ := h.1
  unfold ZN f_Led_feed f_Mod_feed
  simp only [o_let_eq, h1, show nI t + 20 = nI (t + 20) from nI_add t 20]
  by_cases c : t + 20 ≤ 400
  case neg =>
    have c' : ¬ nI (t + 20) ≤ 400 := nI_ge (a := 400) (by omega) (by omega)
    simp only [if_neg c']
    refine ⟨_, _, rfl, ?_⟩
    rw [a_st_no (by decide), h2, show nI t + 20 = nI (t + 20) from nI_add t 20, if_neg c']
    exact ⟨_, rfl, (h.f0 th_fr).1, (h.f0 th_fr).2⟩
  have c' : nI (t + 20) ≤ 400 := nI_le (b := 400) c (by decide)
  simp only [if_pos c']
  obtain ⟨m2, e2, a2, b2, d2, f2⟩ := c_feedN (F := F) (x := x1) (by omega) (show t + 4 ≤ 400 by omega) h1
  obtain ⟨m4, e4, a4, b4, d4, f4⟩ := c_feedN (F := F) (x := x2) (by omega) (show t + 4 + 4 ≤ 400 by omega) a2
  obtain ⟨m6, e6, a6, b6, d6, f6⟩ := c_feedN (F := F) (x := x3) (by omega) (show t + 4 + 4 + 4 ≤ 400 by omega) a4
  obtain ⟨m8, e8, a8, b8, d8, f8⟩ := c_feedN (F := F) (x := x4) (by omega) (show t + 4 + 4 + 4 + 4 ≤ 400 by omega) a6
  obtain ⟨m10, e10, a10, b10, d10, f10⟩ := c_feedN (F := F) (x := x5) (by omega) (show t + 4 + 4 + 4 + 4 + 4 ≤ 400 by omega) a8
  simp only [e2, e4, e6, e8, e10, o_b2_some]
  have fc : Fr (fun b j => b = 1 ∨ (b = 0 ∧ j = 1)) m m10 := (((f2.tr f4).tr f6).tr f8).tr f10
  refine ⟨_, _, rfl, ?_⟩
  rw [a_st_no (by decide), fc 242 1 (by simp), h2, show nI t + 20 = nI (t + 20) from nI_add t 20, if_pos c']
  obtain ⟨m12, e12, a12, b12, d12, f12⟩ := m_feed_l (F := F) (t := t) (x1 := x1) (x2 := x2) (x3 := x3) (x4 := x4) (x5 := x5) c 20 0 F (a_st m10 242 0 0) (by omega) (by omega) (by rw [a_st_no (by decide), fc 242 1 (by simp)]; exact h2) (fun i hi => by omega)
  have fa : Fr (fun b j => b = 1 ∨ b = 243 ∨ (b = 0 ∧ j = 1) ∨ (b = 242 ∧ (j = 0 ∨ j = 1))) m m12 := ((fc.mono (fun b j hb => by omega)).st (by simp)).tr (f12.mono (fun b j hb => by omega))
  have lo : ∀ j, j < t → m12 1 j = m12 243 j := fun j hj => by
    rw [f12 1 j (by simp), a_st_ne (by decide), d10 j (by omega), d8 j (by omega), d6 j (by omega), d4 j (by omega), d2 j hj, d12 j hj, a_st_ne (by decide), fc 243 j (by simp)]
    exact h3 j hj
  have hi : ∀ i, i < 20 → m12 1 (t + i) = m12 243 (t + i) := fun i hi => by
    rw [f12 1 (t + i) (by simp), a_st_ne (by decide), b12 i hi]
    unfold fdW
    rcases Nat.lt_or_ge i 4 with z | z
    · rw [if_pos z, d10 _ (by omega), d8 _ (by omega), d6 _ (by omega), d4 _ (by omega), b2 i z, Nat.mod_eq_of_lt z]
    rcases Nat.lt_or_ge i 8 with z2 | z2
    · obtain ⟨k, rfl⟩ : ∃ k, i = 4 + k := ⟨i - 4, by omega⟩
      rw [if_neg (by omega), if_pos z2, d10 _ (by omega), d8 _ (by omega), d6 _ (by omega), show t + (4 + k) = t + 4 + k by omega, b4 k (by omega), show (4 + k) % 4 = k by omega]
    rcases Nat.lt_or_ge i 12 with z3 | z3
    · obtain ⟨k, rfl⟩ : ∃ k, i = 8 + k := ⟨i - 8, by omega⟩
      rw [if_neg (by omega), if_neg (by omega), if_pos z3, d10 _ (by omega), d8 _ (by omega), show t + (8 + k) = t + 4 + 4 + k by omega, b6 k (by omega), show (8 + k) % 4 = k by omega]
    rcases Nat.lt_or_ge i 16 with z4 | z4
    · obtain ⟨k, rfl⟩ : ∃ k, i = 12 + k := ⟨i - 12, by omega⟩
      rw [if_neg (by omega), if_neg (by omega), if_neg (by omega), if_pos z4, d10 _ (by omega), show t + (12 + k) = t + 4 + 4 + 4 + k by omega, b8 k (by omega), show (12 + k) % 4 = k by omega]
    · obtain ⟨k, rfl⟩ : ∃ k, i = 16 + k := ⟨i - 16, by omega⟩
      rw [if_neg (by omega), if_neg (by omega), if_neg (by omega), if_neg (by omega), show t + (16 + k) = t + 4 + 4 + 4 + 4 + k by omega, b10 k (by omega), show (16 + k) % 4 = k by omega]
  have iv := h.tp fa ⟨t + 20, c, by rw [f12 0 1 (by simp), a_st_ne (by decide), a10], a12, fun j hj => by
    rcases Nat.lt_or_ge j t with z | z
    · exact lo j z
    · have := hi (j - t) (by omega)
      rwa [show t + (j - t) = j by omega] at this⟩
  exact ⟨m12, by rw [a10]; exact e12, iv.1, iv.2⟩
