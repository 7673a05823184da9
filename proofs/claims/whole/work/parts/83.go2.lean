/-! CALLS: go, back, delete -/
theorem m_many2_l {F κ t : Nat} {m mr : aM} (he : ∀ b j, 8473 ≤ b → b ≤ 8641 → mr b j = m b j) (hr : ∀ k, k < 40 → rw m k t) (hκ : κ < 4) : ∀ (d k N : Nat) (x : Int32), k + d = 40 → d < N → ll_Mod_many_4 F N (nI κ) x (nI k) mr = some (cb (kdB m κ) d k x)
  | 0, k, N, x, hd, hN => by
    obtain ⟨N, rfl⟩ : ∃ k, N = k + 1 := ⟨N - 1, by omega⟩
    obtain rfl : k = 40 := by omega
    rfl
  | d + 1, k, N, x, hd, hN => by
    obtain ⟨N, rfl⟩ : ∃ k, N = k + 1 := ⟨N - 1, by omega⟩
    have q := (hr k (by omega)).kd hκ
    show lb_Mod_many_4 F (ll_Mod_many_4 F N) (nI κ) x (nI k) mr = _
    unfold lb_Mod_many_4 b_Mod_many_34 b_Mod_many_35 cb kdB
    simp only [if_neg (c40 (show k < 40 by omega)), inb_nI (show k < 40 by omega) (by decide), o_gd_t, nI_clamp (show k < 2 ^ 31 by omega), nI_1, decide_eq_true_eq, he 8473 k (by omega) (by omega), he 8475 k (by omega) (by omega)]
    by_cases c1 : m 8473 k = 0
    · rw [if_pos c1, if_neg (fun z => (q.mp z).1 c1)]; exact m_many2_l he hr hκ d (k + 1) N _ (by omega) (by omega)
    · rw [if_neg c1]
      by_cases c2 : m 8475 k = nI κ
      · rw [if_pos c2, if_pos (q.mpr ⟨c1, c2⟩)]; exact m_many2_l he hr hκ d (k + 1) N _ (by omega) (by omega)
      · rw [if_neg c2, if_neg (fun z => c2 (q.mp z).2)]; exact m_many2_l he hr hκ d (k + 1) N _ (by omega) (by omega)
theorem m_many2 {F κ t : Nat} {m mr : aM} (he : ∀ b j, 8473 ≤ b → b ≤ 8641 → mr b j = m b j) (hr : ∀ k, k < 40 → rw m k t) (hκ : κ < 4) (hF : 50 ≤ F) : f_Mod_many F (nI κ) mr = some (cb (kdB m κ) 40 0 0) := m_many2_l he hr hκ 40 0 F 0 (by omega) (by omega)
theorem c_dropOld_l {F : Nat} {m0 : aM} : ∀ (d k N : Nat) (m : aM), k + d = 40 → d < N → (∀ j, j < 40 → m (42 + 5 * j) 3 = if j < k ∧ m0 (42 + 5 * j) 3 = 1 then 2 else m0 (42 + 5 * j) 3) → (∀ b j, ¬ (42 ≤ b ∧ b ≤ 241 ∧ j = 3) → m b j = m0 b j) → (∀ b, 42 ≤ b → b ≤ 241 → b % 5 ≠ 2 → m b 3 = m0 b 3) → ∃ m', ll_Tab_dropOldForm_2 F N (nI k) m = some (0, m') ∧ (∀ j, j < 40 → m' (42 + 5 * j) 3 = if m0 (42 + 5 * j) 3 = 1 then 2 else m0 (42 + 5 * j) 3) ∧ (∀ b j, ¬ (42 ≤ b ∧ b ≤ 241 ∧ j = 3) → m' b j = m0 b j) ∧ (∀ b, 42 ≤ b → b ≤ 241 → b % 5 ≠ 2 → m' b 3 = m0 b 3)
  | 0, k, N, m, hd, hN, h, h2, h3 => by
    obtain ⟨N, rfl⟩ : ∃ k, N = k + 1 := ⟨N - 1, by omega⟩
    obtain rfl : k = 40 := by omega
    refine ⟨m, rfl, fun j hj => ?_, h2, h3⟩
    rw [h j hj]
    by_cases c : m0 (42 + 5 * j) 3 = 1
    · rw [if_pos ⟨hj, c⟩, if_pos c]
    · rw [if_neg (fun z => c z.2), if_neg c]
  | d + 1, k, N, m, hd, hN, h, h2, h3 => by
    obtain ⟨N, rfl⟩ : ∃ k, N = k + 1 := ⟨N - 1, by omega⟩
    have e0 : ll_Tab_dropOldForm_2 F (N + 1) (nI k) m = lb_Tab_dropOldForm_2 F (ll_Tab_dropOldForm_2 F N) (nI k) m := rfl
    have hk := h k (by omega)
    rw [if_neg (fun z => by omega)] at hk
    rw [e0]
    unfold lb_Tab_dropOldForm_2 b_Tab_dropOldForm_28
    simp only [if_neg (c40 (show k < 40 by omega)), inb_nI (show k < 40 by omega) (by decide), o_gd_t, rwp_n (show k < 40 by omega), nI_1, hk, o_let_eq]
    by_cases c : m0 (42 + 5 * k) 3 = 1
    · rw [if_pos c]
      refine c_dropOld_l d (k + 1) N (a_st m (42 + 5 * k) 3 2) (by omega) (by omega) (fun j hj => ?_) (fun b j hb => by rw [a_st_no (by omega)]; exact h2 b j hb) (fun b b1 b2 b3 => by rw [a_st_ne (by omega)]; exact h3 b b1 b2 b3)
      by_cases e : j = k
      · subst e
        rw [a_st_self, if_pos ⟨by omega, c⟩]
      · rw [a_st_ne (by omega), h j hj]
        by_cases z : j < k ∧ m0 (42 + 5 * j) 3 = 1
        · rw [if_pos z, if_pos ⟨by omega, z.2⟩]
        · rw [if_neg z, if_neg (fun q => z ⟨by omega, q.2⟩)]
    · rw [if_neg c]
      refine c_dropOld_l d (k + 1) N m (by omega) (by omega) (fun j hj => ?_) h2 h3
      rw [h j hj]
      by_cases z : j < k ∧ m0 (42 + 5 * j) 3 = 1
      · rw [if_pos z, if_pos ⟨by omega, z.2⟩]
      · rw [if_neg z, if_neg (fun q => z ⟨by
          rcases Nat.lt_or_ge j k with w | w
          · exact w
          · have : j = k := by omega
            rw [this] at q
            exact absurd q.2 c, q.2⟩)]
theorem m_go5_l {F : Nat} {m0 : aM} : ∀ (d k N : Nat) (m : aM), k + d = 40 → d < N → m 242 45 = 5 → (∀ j, j < k → m 8475 j = 2) → ∃ m', ll_Mod_go_118 F N (nI k) m = some (1, m') ∧ (∀ j, j < 40 → m' 8475 j = 2) ∧ Fr (fun b j => b = 8475 ∧ j < 40) m m'
  | 0, k, N, m, hd, hN, h5, h => by
    obtain ⟨N, rfl⟩ : ∃ k, N = k + 1 := ⟨N - 1, by omega⟩
    obtain rfl : k = 40 := by omega
    exact ⟨m, rfl, h, Fr.rf⟩
  | d + 1, k, N, m, hd, hN, h5, h => by
    obtain ⟨N, rfl⟩ : ∃ k, N = k + 1 := ⟨N - 1, by omega⟩
    obtain ⟨m', e, h1, f1⟩ := m_go5_l (F := F) (m0 := m0) d (k + 1) N (a_st m 8475 k 2) (by omega) (by omega) (by rw [a_st_ne (by decide)]; exact h5) (fun j hj => by
      by_cases c : j = k
      · rw [c, a_st_self]
      · rw [a_st_no (by omega)]; exact h j (by omega))
    refine ⟨m', ?_, h1, Fr.sto f1 ⟨rfl, by omega⟩⟩
    show lb_Mod_go_118 F (ll_Mod_go_118 F N) (nI k) m = _
    unfold lb_Mod_go_118
    simp only [if_neg (c40 (show k < 40 by omega)), h5, if_true, inb_nI (show k < 40 by omega) (by decide), o_gd_t, o_let_eq, nI_clamp (show k < 2 ^ 31 by omega), nI_1]
    exact e
/-- the stage goes on -/
theorem go_t {F s : Nat} {m m1 : aM} (h : Iv m) (f : Fr sc0 m m1) (hF : 5000 ≤ F) (s2 : m 37 6 = nI s) (s3 : m 242 45 = nI s) (s5 : s < 5) (hno : s = 4 → ∀ k, k < 40 → ¬ m (42 + 5 * k) 3 = nI 0 ∧ ¬ m (42 + 5 * k) 3 = nI 3) :
    ∃ mc, (o_let (a_st m1 37 6 ((m1 37 6) + 1)) fun m3 => (if (m3 37 6) = 5 then o_b2 (f_Tab_dropOldForm F m3) fun y4 m5 => some ((1 : Int32), m5) else some (1, m3))) = some (1, mc) ∧ (∀ b j, 242 ≤ b → mc b j = m1 b j) ∧ (∀ b j, b < 37 → mc b j = m1 b j) ∧ (∀ j, j ≠ 6 → mc 37 j = m1 37 j) ∧ (s ≠ 4 → ∀ b j, ¬ (b = 37 ∧ j = 6) → mc b j = m1 b j) ∧ ∀ mr, Fr sc0 mc mr → ∃ m2, b_Mod_go_106 F mr = some (1, m2) ∧ Iv m2 ∧ AgP m m2 := by
  obtain ⟨t, t1, t2, t3, hr⟩ := h.2.2.2.2.2.2.rw
  have n9 := h.2.2.2.2.2.2.n9
  have e6 : m1 37 6 = nI s := (f _ _ (by simp [sc0])).trans s2
  simp only [o_let_eq, e6, nI_1, a_st_self]
  by_cases c : s = 4
  · subst c
    rw [if_pos (show nI (4 + 1) = 5 from rfl)]
    obtain ⟨mc, ec, k1, k2, k3⟩ := c_dropOld_l (F := F) (m0 := a_st m1 37 6 (nI 5)) 40 0 F (a_st m1 37 6 (nI 5)) (by omega) (by omega) (fun j hj => by rw [if_neg (fun z => by omega)]) (fun _ _ _ => rfl) (fun _ _ _ _ => rfl)
    unfold f_Tab_dropOldForm
    rw [show ll_Tab_dropOldForm_2 F F 0 (a_st m1 37 6 (nI (4 + 1))) = _ from ec, o_b2_some]
    refine ⟨mc, rfl, fun b j hb => by rw [k2 b j (by omega), a_st_ne (by omega)], fun b j hb => by rw [k2 b j (by omega), a_st_ne (by omega)], fun j hj => by rw [k2 37 j (by omega), a_st_no (by omega)], fun z => absurd rfl z, fun mr fr => ?_⟩
    have r45 : mr 242 45 = nI 4 := by rw [fr _ _ (by simp [sc0]), k2 _ _ (by omega), a_st_ne (by decide), f _ _ (by simp [sc0])]; exact s3
    obtain ⟨m2, e2, q2, f2⟩ := m_go5_l (F := F) (m0 := m) 40 0 F (a_st mr 242 45 5) (by omega) (by omega) a_st_self (fun j hj => by omega)
    have to : ∀ b j, ¬ sc0 b j → ¬ (b = 37 ∧ j = 6) → ¬ (b = 242 ∧ j = 45) → ¬ (b = 8475 ∧ j < 40) → ¬ (42 ≤ b ∧ b ≤ 241 ∧ j = 3) → m2 b j = m b j := fun b j z1 z2 z3 z4 z5 => by
      rw [f2 b j z4, a_st_no z3, fr b j z1, k2 b j z5, a_st_no z2, f b j z1]
    have k3' : ∀ k, k < 40 → m2 (42 + 5 * k) 3 = if m (42 + 5 * k) 3 = 1 then 2 else m (42 + 5 * k) 3 := fun k hk => by
      have e : a_st m1 37 6 (nI 5) (42 + 5 * k) 3 = m (42 + 5 * k) 3 := by rw [a_st_ne (by omega), f _ _ (by unfold sc0; omega)]
      rw [f2 _ _ (by omega), a_st_ne (by omega), fr _ _ (by unfold sc0; omega), k1 k hk, e]
    have fr2 : Fr fG m m2 := fun b j hb => by unfold fG sc0 at hb; exact to b j (by unfold sc0; omega) (by omega) (by omega) (by omega) (by omega)
    have rows : ∀ k, k < 40 → rw m2 k t := fun k hk => by
      obtain ⟨h0, h1⟩ := hr k hk
      refine ⟨fun q hq => by rw [to _ _ (by unfold sc0; omega) (by omega) (by omega) (by omega) (by omega)]; exact h0 q hq, ?_⟩
      rcases h1 with ⟨h1, h2⟩ | ⟨h1, κ, h2, h3, h4, h5, h6, h7, h8, h9⟩
      · refine Or.inl ⟨?_, ?_⟩
        · rw [to _ _ (by unfold sc0; omega) (by omega) (by omega) (by omega) (by omega)]; exact h1
        · rw [k3' k hk, h2]; rfl
      · have κ12 : κ = 1 ∨ κ = 2 := by
          have n1 : κ ≠ 0 := fun z => (hno rfl k hk).1 (by rw [h3, z])
          have n2 : κ ≠ 3 := fun z => (hno rfl k hk).2 (by rw [h3, z])
          omega
        refine Or.inr ⟨?_, 2, by omega, ?_, q2 k hk, fun j hj => ?_, fun _ j hj => ?_, ?_, fun q hq => ?_, ?_⟩
        · rw [to _ _ (by unfold sc0; omega) (by omega) (by omega) (by omega) (by omega)]; exact h1
        · rw [k3' k hk, h3]
          rcases κ12 with rfl | rfl <;> rfl
        · have e3 : m2 (43 + 5 * k) j = m (43 + 5 * k) j := by
            by_cases z : j = 3
            · subst z
              rw [f2 _ _ (by omega), a_st_ne (by omega), fr _ _ (by unfold sc0; omega), k3 _ (by omega) (by omega) (by omega), a_st_ne (by omega), f _ _ (by unfold sc0; omega)]
            · exact to _ _ (by unfold sc0; omega) (by omega) (by omega) (by omega) (by omega)
          rw [e3, to (8479 + k) j (by unfold sc0; omega) (by omega) (by omega) (by omega) (by omega)]; exact h5 j hj
        · have e3 : ∀ b, b = 44 + 5 * k ∨ b = 45 + 5 * k → m2 b j = m b j := fun b hb => by
            by_cases z : j = 3
            · subst z
              rw [f2 _ _ (by omega), a_st_ne (by omega), fr _ _ (by unfold sc0; omega), k3 _ (by omega) (by omega) (by omega), a_st_ne (by omega), f _ _ (by unfold sc0; omega)]
            · exact to _ _ (by unfold sc0; omega) (by omega) (by omega) (by omega) (by omega)
          rw [e3 _ (Or.inl rfl), e3 _ (Or.inr rfl), to (8520 + k) j (by unfold sc0; omega) (by omega) (by omega) (by omega) (by omega), to (8561 + k) j (by unfold sc0; omega) (by omega) (by omega) (by omega) (by omega)]; exact h6 κ12 j hj
        · rw [to 8474 k (by unfold sc0; omega) (by omega) (by omega) (by omega) (by omega), to (42 + 5 * k) 4 (by unfold sc0; omega) (by omega) (by omega) (by omega) (by omega), to (42 + 5 * k) 5 (by unfold sc0; omega) (by omega) (by omega) (by omega) (by omega), to 8476 k (by unfold sc0; omega) (by omega) (by omega) (by omega) (by omega), to 8477 k (by unfold sc0; omega) (by omega) (by omega) (by omega) (by omega)]
          rcases h7 with z | ⟨z1, z2, z3, z4, z5⟩
          · exact Or.inl z
          · exact Or.inr ⟨z1, z2, z3, z4, by omega⟩
        · rw [to (42 + 5 * k) 6 (by unfold sc0; omega) (by omega) (by omega) (by omega) (by omega), to (46 + 5 * k) q (by unfold sc0; omega) (by omega) (by omega) (by omega) (by omega), to (8602 + k) q (by unfold sc0; omega) (by omega) (by omega) (by omega) (by omega)]; exact h8 q hq
        · rw [to (42 + 5 * k) 6 (by unfold sc0; omega) (by omega) (by omega) (by omega) (by omega)]; exact h9
    have iv := h.rw fr2 (s := 5) (t := t) (by omega) (by rw [f2 _ _ (by simp), a_st_ne (by decide), fr _ _ (by simp [sc0]), k2 _ _ (by omega), a_st_self]) (by rw [f2 _ _ (by simp), a_st_self]; rfl) t1 t2 t3 (by rw [to 37 9 (by unfold sc0; omega) (by omega) (by omega) (by omega) (by omega), to 242 49 (by unfold sc0; omega) (by omega) (by omega) (by omega) (by omega)]; exact n9) rows
    refine ⟨m2, ?_, iv.1, iv.2⟩
    unfold b_Mod_go_106
    rw [o_let_eq, r45]
    exact e2
  · have c5 : ¬ nI (s + 1) = 5 := fun z => by have := nI_inj (b := 5) (by omega) (by decide) z; omega
    rw [if_neg c5]
    refine ⟨_, rfl, fun b j hb => by rw [a_st_ne (by omega)], fun b j hb => by rw [a_st_ne (by omega)], fun j hj => a_st_no (by omega), fun _ b j hb => a_st_no hb, fun mr fr => ?_⟩
    have r45 : mr 242 45 = nI s := by rw [fr _ _ (by simp [sc0]), a_st_ne (by decide), f _ _ (by simp [sc0])]; exact s3
    have to : ∀ b j, ¬ sc0 b j → ¬ (b = 37 ∧ j = 6) → ¬ (b = 242 ∧ j = 45) → a_st mr 242 45 (nI (s + 1)) b j = m b j := fun b j z1 z2 z3 => by rw [a_st_no z3, fr b j z1, a_st_no z2, f b j z1]
    have iv := h.rw (m2 := a_st mr 242 45 (nI (s + 1))) (fun b j hb => by unfold fG sc0 at hb; exact to b j (by unfold sc0; omega) (by omega) (by omega)) (s := s + 1) (t := t) (by omega) (by rw [a_st_ne (by decide), fr _ _ (by simp [sc0]), a_st_self]) a_st_self t1 t2 t3 (by rw [to 37 9 (by unfold sc0; omega) (by omega) (by omega), to 242 49 (by unfold sc0; omega) (by omega) (by omega)]; exact n9) (fun k hk => (hr k hk).fr hk (fun b j hb => to b j (by unfold sc0; omega) (by omega) (by omega)))
    refine ⟨_, ?_, iv.1, iv.2⟩
    unfold b_Mod_go_106
    rw [o_let_eq, r45, nI_1]
    obtain ⟨N, rfl⟩ : ∃ N, F = N + 1 := ⟨F - 1, by omega⟩
    show lb_Mod_go_118 (N + 1) (ll_Mod_go_118 (N + 1) N) 0 _ = _
    unfold lb_Mod_go_118
    rw [if_neg (by decide), a_st_self, if_neg c5]
