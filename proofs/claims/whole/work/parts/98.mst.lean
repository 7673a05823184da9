/-! THE PLAN: which nodes stand, in the reference; the call stands -/
theorem m_in14 {s : Nat} {m : aM} (h : s < 6) : f_Mod_in (nI s) 1 4 m = some (if 1 ≤ s ∧ s ≤ 4 then 1 else 0) := by
  match s, h with
  | 0, _ => rfl
  | 1, _ => rfl
  | 2, _ => rfl
  | 3, _ => rfl
  | 4, _ => rfl
  | 5, _ => rfl
def mp33 (m : aM) (n a b : Nat) : Prop := ¬ m (8463 + a) b = 0 → stg n b ≤ stg n a
def mp34 (m : aM) (n a b : Nat) : Prop := ¬ m (8467 + a) b = 0 → ¬ (uwS (stg n a) ∧ uwS (stg n b))
theorem m_st118_l {F n a c : Nat} {R : Int32 → Int32 → aM → Option Int32} {m : aM} (hn : n < 2 ^ 31) (ha : a < 3) (hc : c ≤ 3) (h35 : m 242 35 = nI c) : ∀ (d b N : Nat), b + d = c → d < N → (∃ y, R (nI n) (nI (a + 1)) m = some y) → ∃ y, ll_Mod_stands0_118 F R N (nI n) (nI a) (nI b) m = some y ∧ ((∀ b', b ≤ b' → b' < c → mp33 m n a b' ∧ mp34 m n a b') → some y = R (nI n) (nI (a + 1)) m) ∧ (¬ (∀ b', b ≤ b' → b' < c → mp33 m n a b' ∧ mp34 m n a b') → y = 0)
  | 0, b, N, hd, hN, ⟨y, hy⟩ => by
    obtain ⟨N, rfl⟩ : ∃ k, N = k + 1 := ⟨N - 1, by omega⟩
    refine ⟨y, ?_, fun _ => hy.symm, fun z => absurd (fun b' h1 h2 => by omega) z⟩
    show lb_Mod_stands0_118 F R (ll_Mod_stands0_118 F R N) (nI n) (nI a) (nI b) m = _
    unfold lb_Mod_stands0_118
    rw [h35, if_pos (nI_le (by omega) (by omega)), nI_1, hy]
  | d + 1, b, N, hd, hN, ⟨y, hy⟩ => by
    obtain ⟨N, rfl⟩ : ∃ k, N = k + 1 := ⟨N - 1, by omega⟩
    have hb : b < 3 := by omega
    obtain ⟨y', e, z1, z2⟩ := m_st118_l (F := F) (R := R) (m := m) hn ha hc h35 d (b + 1) N (by omega) (by omega) ⟨y, hy⟩
    rw [show ll_Mod_stands0_118 F R (N + 1) (nI n) (nI a) (nI b) m = lb_Mod_stands0_118 F R (ll_Mod_stands0_118 F R N) (nI n) (nI a) (nI b) m from rfl]
    unfold lb_Mod_stands0_118 b_Mod_stands0_155 b_Mod_stands0_196
    simp only [h35, if_neg (show ¬ nI c ≤ nI b from nI_ge (by omega) (by omega)), inb_nI ha (by decide), inb_nI hb (by decide), o_gd_t, o_let_eq, nI_clamp (show a < 2 ^ 31 by omega), nI_clamp (show b < 2 ^ 31 by omega), m_stageOf hn ha, m_stageOf hn hb, o_b_some, m_in14 stg6, nI_1, e]
    have sa := stg6 (n := n) (a := a)
    have sb := stg6 (n := n) (a := b)
    have le : nI (stg n b) ≤ nI (stg n a) ↔ stg n b ≤ stg n a := nI_leI (by omega) (by omega)
    have yes : mp33 m n a b → mp34 m n a b → ∃ y0, some y' = some y0 ∧ ((∀ b', b ≤ b' → b' < c → mp33 m n a b' ∧ mp34 m n a b') → some y0 = R (nI n) (nI (a + 1)) m) ∧ (¬ (∀ b', b ≤ b' → b' < c → mp33 m n a b' ∧ mp34 m n a b') → y0 = 0) := fun k1 k2 => by
      refine ⟨y', rfl, fun z => z1 (fun b' h1 h2 => z b' (by omega) h2), fun z => z2 (fun k => z (fun b' h1 h2 => ?_))⟩
      by_cases q : b' = b
      · rw [q]; exact ⟨k1, k2⟩
      · exact k b' (by omega) h2
    have nay : ¬ (mp33 m n a b ∧ mp34 m n a b) → ∃ y0, some (0 : Int32) = some y0 ∧ ((∀ b', b ≤ b' → b' < c → mp33 m n a b' ∧ mp34 m n a b') → some y0 = R (nI n) (nI (a + 1)) m) ∧ (¬ (∀ b', b ≤ b' → b' < c → mp33 m n a b' ∧ mp34 m n a b') → y0 = 0) := fun k => ⟨0, rfl, fun z => absurd (z b (by omega) (by omega)) k, fun _ => rfl⟩
    by_cases c1 : mp33 m n a b
    · have p33 : ∀ {X Y : Option Int32}, (if m (8463 + a) b = 0 then X else if nI (stg n b) ≤ nI (stg n a) then X else Y) = X := fun {X Y} => by
        by_cases q : m (8463 + a) b = 0
        · rw [if_pos q]
        · rw [if_neg q, if_pos (le.mpr (c1 q))]
      rw [p33]
      by_cases q4 : m (8467 + a) b = 0
      · rw [if_pos q4]
        exact yes c1 (fun z => absurd q4 z)
      · rw [if_neg q4]
        by_cases u1 : 1 ≤ stg n a ∧ stg n a ≤ 4
        · by_cases u2 : 1 ≤ stg n b ∧ stg n b ≤ 4
          · simp only [if_pos u1, if_pos u2, show ¬ (1 : Int32) = 0 by decide, if_false]
            exact nay (fun k => k.2 q4 ⟨u1, u2⟩)
          · simp only [if_pos u1, if_neg u2, show ¬ (1 : Int32) = 0 by decide, if_false, if_true]
            exact yes c1 (fun _ z => u2 z.2)
        · simp only [if_neg u1, if_true]
          exact yes c1 (fun _ z => u1 z.1)
    · have q : ¬ m (8463 + a) b = 0 := fun z => c1 (fun k => absurd z k)
      have l2 : ¬ nI (stg n b) ≤ nI (stg n a) := fun z => c1 (fun _ => le.mp z)
      rw [if_neg q, if_neg l2]
      exact nay (fun k => c1 k.1)
theorem m_st107_l {F n c : Nat} {m : aM} (hn : n < 2 ^ 31) (hc : c ≤ 3) (h35 : m 242 35 = nI c) (hF : 5000 ≤ F) : ∀ (d a N : Nat), a + d = c → d < N → ∃ y, ll_Mod_stands0_107 F N (nI n) (nI a) m = some y ∧ (y = 0 ∨ y = 1) ∧ (y = 1 ↔ ∀ a' b', a ≤ a' → a' < c → b' < c → mp33 m n a' b' ∧ mp34 m n a' b')
  | 0, a, N, hd, hN => by
    obtain ⟨N, rfl⟩ : ∃ k, N = k + 1 := ⟨N - 1, by omega⟩
    refine ⟨1, ?_, Or.inr rfl, ⟨fun _ a' b' h1 h2 => by omega, fun _ => rfl⟩⟩
    show lb_Mod_stands0_107 F (ll_Mod_stands0_107 F N) (nI n) (nI a) m = _
    unfold lb_Mod_stands0_107
    rw [h35, if_pos (nI_le (by omega) (by omega))]
  | d + 1, a, N, hd, hN => by
    obtain ⟨N, rfl⟩ : ∃ k, N = k + 1 := ⟨N - 1, by omega⟩
    obtain ⟨y, e, y1, y2⟩ := m_st107_l (F := F) (m := m) hn hc h35 hF d (a + 1) N (by omega) (by omega)
    obtain ⟨y', e', z1, z2⟩ := m_st118_l (F := F) (R := ll_Mod_stands0_107 F N) (m := m) hn (show a < 3 by omega) hc h35 c 0 F (by omega) (by omega) ⟨y, e⟩
    rw [show ll_Mod_stands0_107 F (N + 1) (nI n) (nI a) m = lb_Mod_stands0_107 F (ll_Mod_stands0_107 F N) (nI n) (nI a) m from rfl]
    unfold lb_Mod_stands0_107
    rw [h35, if_neg (show ¬ nI c ≤ nI a from nI_ge (by omega) (by omega)), show ll_Mod_stands0_118 F (ll_Mod_stands0_107 F N) F (nI n) (nI a) 0 m = _ from e']
    refine ⟨y', rfl, ?_⟩
    by_cases k : ∀ b', 0 ≤ b' → b' < c → mp33 m n a b' ∧ mp34 m n a b'
    · have yy : y' = y := Option.some.inj ((z1 k).trans e)
      rw [yy]
      refine ⟨y1, y2.trans ⟨fun z a' b' h1 h2 h3 => ?_, fun z a' b' h1 h2 h3 => z a' b' (by omega) h2 h3⟩⟩
      by_cases q : a' = a
      · rw [q]; exact k b' (by omega) h3
      · exact z a' b' (by omega) h2 h3
    · rw [z2 k]
      exact ⟨Or.inl rfl, ⟨fun z => absurd z (by decide), fun z => absurd (fun b' _ h3 => z a b' (by omega) (by omega) h3) k⟩⟩
theorem m_st13_l {F n q c : Nat} {w : Int32} {R : Int32 → Int32 → Int32 → aM → Option Int32} {m : aM} (hn : n < 2 ^ 31) (hq : q < 5) (hc : c ≤ 3) (h35 : m 242 35 = nI c) (h31 : ∀ a, a < 3 → m (8457 + q) a = m 31 (3 * q + a)) : ∀ (d a N : Nat), a + d = c → d < N → (∃ y, R (nI n) w (nI (q + 1)) m = some y) → ∃ y, ll_Mod_stands0_13 F R N (nI n) w (nI q) (nI a) m = some y ∧ ((∀ a', a ≤ a' → a' < c → okP m w n q a') → some y = R (nI n) w (nI (q + 1)) m) ∧ (¬ (∀ a', a ≤ a' → a' < c → okP m w n q a') → y = 0)
  | 0, a, N, hd, hN, ⟨y, hy⟩ => by
    obtain ⟨N, rfl⟩ : ∃ k, N = k + 1 := ⟨N - 1, by omega⟩
    refine ⟨y, ?_, fun _ => hy.symm, fun z => absurd (fun b' h1 h2 => by omega) z⟩
    show lb_Mod_stands0_13 F R (ll_Mod_stands0_13 F R N) (nI n) w (nI q) (nI a) m = _
    unfold lb_Mod_stands0_13
    rw [h35, if_pos (nI_le (by omega) (by omega)), nI_1, hy]
  | d + 1, a, N, hd, hN, ⟨y, hy⟩ => by
    obtain ⟨N, rfl⟩ : ∃ k, N = k + 1 := ⟨N - 1, by omega⟩
    have ha : a < 3 := by omega
    obtain ⟨y', e, z1, z2⟩ := m_st13_l (F := F) (w := w) (R := R) (m := m) hn hq hc h35 h31 d (a + 1) N (by omega) (by omega) ⟨y, hy⟩
    rw [show ll_Mod_stands0_13 F R (N + 1) (nI n) w (nI q) (nI a) m = lb_Mod_stands0_13 F R (ll_Mod_stands0_13 F R N) (nI n) w (nI q) (nI a) m from rfl]
    unfold lb_Mod_stands0_13 b_Mod_stands0_48 b_Mod_stands0_57 b_Mod_stands0_79 b_Mod_stands0_93
    simp only [h35, if_neg (show ¬ nI c ≤ nI a from nI_ge (by omega) (by omega)), inb_nI hq (by decide), inb_nI ha (by decide), o_gd_t, o_let_eq, nI_clamp (show q < 2 ^ 31 by omega), nI_clamp (show a < 2 ^ 31 by omega), h31 a ha, m_stageOf hn ha, o_b_some, nI_1, e]
    have sa := stg6 (n := n) (a := a)
    have g3 : (3 : Int32) < nI (stg n a) ↔ 3 < stg n a := nI_ltI (a := 3) (by decide) (by omega)
    have g2 : (2 : Int32) ≤ nI (stg n a) ↔ 2 ≤ stg n a := nI_leI (a := 2) (by decide) (by omega)
    have yes : okP m w n q a → ∃ y0, some y' = some y0 ∧ ((∀ a', a ≤ a' → a' < c → okP m w n q a') → some y0 = R (nI n) w (nI (q + 1)) m) ∧ (¬ (∀ a', a ≤ a' → a' < c → okP m w n q a') → y0 = 0) := fun k1 => by
      refine ⟨y', rfl, fun z => z1 (fun b' h1 h2 => z b' (by omega) h2), fun z => z2 (fun k => z (fun b' h1 h2 => ?_))⟩
      by_cases q' : b' = a
      · rw [q']; exact k1
      · exact k b' (by omega) h2
    have nay : ¬ okP m w n q a → ∃ y0, some (0 : Int32) = some y0 ∧ ((∀ a', a ≤ a' → a' < c → okP m w n q a') → some y0 = R (nI n) w (nI (q + 1)) m) ∧ (¬ (∀ a', a ≤ a' → a' < c → okP m w n q a') → y0 = 0) := fun k => ⟨0, rfl, fun z => absurd (z a (by omega) (by omega)) k, fun _ => rfl⟩
    by_cases v2 : m 31 (3 * q + a) = 2
    · have nw : nwP m w q a := Or.inl v2
      have no : ¬ odQ m w q a := fun z => by have := z.1; rw [v2] at this; exact absurd this (by decide)
      simp only [v2, show ¬ (2 : Int32) = 1 by decide, if_false, if_true]
      by_cases k : 2 ≤ stg n a
      · rw [if_pos (g2.mpr k)]
        exact yes ⟨fun _ => k, fun z => absurd z no⟩
      · rw [if_neg (fun z => k (g2.mp z))]
        exact nay (fun z => k (z.1 nw))
    · by_cases v1 : m 31 (3 * q + a) = 1
      · by_cases bt : (w >>> (nI q &&& 31)) &&& 1 = 1
        · have nw : nwP m w q a := Or.inr ⟨v1, bt⟩
          have no : ¬ odQ m w q a := fun z => z.2 bt
          simp only [v1, bt, show ¬ (2 : Int32) = 1 by decide, if_false, if_true]
          by_cases k : 2 ≤ stg n a
          · rw [if_pos (g2.mpr k)]
            exact yes ⟨fun _ => k, fun z => absurd z no⟩
          · rw [if_neg (fun z => k (g2.mp z))]
            exact nay (fun z => k (z.1 nw))
        · have od : odQ m w q a := ⟨v1, bt⟩
          have no : ¬ nwP m w q a := fun z => z.elim v2 (fun k => bt k.2)
          simp only [v1, if_neg bt, show ¬ (1 : Int32) = 2 by decide, if_false, if_true]
          by_cases k : 3 < stg n a
          · rw [if_pos (g3.mpr k)]
            exact nay (fun z => by have := z.2 od; omega)
          · rw [if_neg (fun z => k (g3.mp z))]
            exact yes ⟨fun z => absurd z no, fun _ => by omega⟩
      · have no : ¬ nwP m w q a := fun z => z.elim v2 (fun k => v1 k.1)
        have no2 : ¬ odQ m w q a := fun k => v1 k.1
        simp only [if_neg v2, if_neg v1]
        exact yes ⟨fun z => absurd z no, fun z => absurd z no2⟩
theorem m_stand_l {F n c p : Nat} {w : Int32} {m : aM} (h : iPl m c p) (hn : n < 2 ^ 31) (hF : 5000 ≤ F) : ∀ (d q N : Nat), q + d = p → d < N → ∃ y, ll_Mod_stands0_2 F N (nI n) w (nI q) m = some y ∧ (y = 0 ∨ y = 1) ∧ (y = 1 ↔ (∀ q' a, q ≤ q' → q' < p → a < c → okP m w n q' a) ∧ ∀ a b, a < c → b < c → mp33 m n a b ∧ mp34 m n a b)
  | 0, q, N, hd, hN => by
    obtain ⟨N, rfl⟩ : ∃ k, N = k + 1 := ⟨N - 1, by omega⟩
    obtain ⟨c3, p5, _, h5, _, h6, _⟩ := h
    obtain ⟨y, e, y1, y2⟩ := m_st107_l (F := F) (m := m) hn c3 h5 hF c 0 F (by omega) (by omega)
    refine ⟨y, ?_, y1, y2.trans ⟨fun z => ⟨fun q a' h1 h2 h3 => by omega, fun a b h1 h2 => z a b (by omega) h1 h2⟩, fun z a b _ h1 h2 => z.2 a b h1 h2⟩⟩
    show lb_Mod_stands0_2 F (ll_Mod_stands0_2 F N) (nI n) w (nI q) m = _
    unfold lb_Mod_stands0_2
    rw [h6, if_pos (nI_le (by omega) (by omega))]
    exact e
  | d + 1, q, N, hd, hN => by
    obtain ⟨N, rfl⟩ : ∃ k, N = k + 1 := ⟨N - 1, by omega⟩
    obtain ⟨y, e, y1, y2⟩ := m_stand_l (F := F) (w := w) h hn hF d (q + 1) N (by omega) (by omega)
    obtain ⟨c3, p5, _, h5, _, h6, _, hb, _⟩ := h
    obtain ⟨y', e', z1, z2⟩ := m_st13_l (F := F) (w := w) (R := ll_Mod_stands0_2 F N) (m := m) hn (show q < 5 by omega) c3 h5 (fun a ha => (hb q a (by omega) ha).1.symm) c 0 F (by omega) (by omega) ⟨y, e⟩
    rw [show ll_Mod_stands0_2 F (N + 1) (nI n) w (nI q) m = lb_Mod_stands0_2 F (ll_Mod_stands0_2 F N) (nI n) w (nI q) m from rfl]
    unfold lb_Mod_stands0_2
    rw [h6, if_neg (show ¬ nI p ≤ nI q from nI_ge (by omega) (by omega)), show ll_Mod_stands0_13 F (ll_Mod_stands0_2 F N) F (nI n) w (nI q) 0 m = _ from e']
    refine ⟨y', rfl, ?_⟩
    by_cases k : ∀ a', 0 ≤ a' → a' < c → okP m w n q a'
    · have yy : y' = y := Option.some.inj ((z1 k).trans e)
      rw [yy]
      refine ⟨y1, y2.trans ⟨fun z => ⟨fun q' a h1 h2 h3 => ?_, z.2⟩, fun z => ⟨fun q' a h1 h2 h3 => z.1 q' a (by omega) h2 h3, z.2⟩⟩⟩
      by_cases g : q' = q
      · rw [g]; exact k a (by omega) h3
      · exact z.1 q' a (by omega) h2 h3
    · rw [z2 k]
      exact ⟨Or.inl rfl, ⟨fun z => absurd z (by decide), fun z => absurd (fun a _ h3 => z.1 q a (by omega) (by omega) h3) k⟩⟩
theorem pairs_iff {m : aM} {c p n : Nat} (h : iPl m c p) : (∀ a b, a < c → b < c → mp33 m n a b ∧ mp34 m n a b) ↔ ∀ a b, a < 3 → b < 3 → pr33 m n a b ∧ pr34 m n a b := by
  obtain ⟨c3, p5, _, _, _, _, _, _, _, h3, h4⟩ := h
  have i1 : ∀ x : Int32, isb x = true → ¬ x = 0 → x = 1 := fun x hx hn => (isb_or hx).resolve_left hn
  constructor
  · intro z a b ha hb
    refine ⟨fun k => ?_, fun k => ?_⟩
    · obtain ⟨e1, e2, e3⟩ := h3 a b ha hb
      obtain ⟨ac, bc⟩ := e3 (i1 _ e2 k)
      exact (z a b ac bc).1 (by rw [← e1]; exact k)
    · obtain ⟨e1, e2, e3⟩ := h4 a b ha hb
      obtain ⟨ab, bc⟩ := e2 (i1 _ e1 k)
      exact (z a b (by omega) bc).2 (by rw [e3, if_pos ab]; exact k)
  · intro z a b ac bc
    refine ⟨fun k => ?_, fun k => ?_⟩
    · obtain ⟨e1, e2, e3⟩ := h3 a b (by omega) (by omega)
      exact (z a b (by omega) (by omega)).1 (by rw [e1]; exact k)
    · obtain ⟨e1, e2, e3⟩ := h4 a b (by omega) (by omega)
      rw [e3] at k
      by_cases q1 : a < b
      · rw [if_pos q1] at k
        exact (z a b (by omega) (by omega)).2 k
      · rw [if_neg q1] at k
        by_cases q2 : b < a
        · rw [if_pos q2] at k
          exact fun y => (z b a (by omega) (by omega)).2 k ⟨y.2, y.1⟩
        · rw [if_neg q2] at k
          exact absurd rfl k
theorem m_stand {F n c p : Nat} {w : Int32} {m : aM} (h : iPl m c p) (hn : n < 2 ^ 31) (hF : 5000 ≤ F) : ∃ y, f_Mod_stands0 F (nI n) w m = some y ∧ (y = 0 ∨ y = 1) ∧ (y = 1 ↔ stdP m c p n w) := by
  obtain ⟨y, e, y1, y2⟩ := m_stand_l (F := F) (w := w) h hn hF p 0 F (by omega) (by have := h.2.1; omega)
  exact ⟨y, e, y1, y2.trans (and_congr ⟨fun z q a h1 h2 => z q a (by omega) h1 h2, fun z q a _ h1 h2 => z q a h1 h2⟩ (pairs_iff h))⟩
