/-! THE PLAN: which nodes stand -/
def p6 (a : Nat) : Nat := if a = 0 then 1 else if a = 1 then 6 else if a = 2 then 36 else 216
def stg (n a : Nat) : Nat := n / p6 a % 6
theorem stg6 {n a : Nat} : stg n a < 6 := Nat.mod_lt _ (by decide)
theorem a_pow_n {a : Nat} (h : a < 4) : a_pow a = nI (p6 a) := by
  match a, h with
  | 0, _ => rfl
  | 1, _ => rfl
  | 2, _ => rfl
  | 3, _ => rfl
theorem p6_b {a : Nat} : 0 < p6 a ∧ p6 a ≤ 216 := by
  unfold p6
  split
  · omega
  split
  · omega
  split <;> omega
theorem stg_e {n a : Nat} (hn : n < 2 ^ 31) : nI n / nI (p6 a) % 6 = nI (stg n a) := by
  have := p6_b (a := a)
  rw [nI_div hn (by omega)]
  have l : n / p6 a ≤ n := Nat.div_le_self _ _
  exact nI_mod (b := 6) (by omega) (by decide)
theorem c_stageOf {n a : Nat} {m : aM} (hn : n < 2 ^ 31) (ha : a < 4) : f_Pla_stageOf (nI n) (nI a) m = some (nI (stg n a)) := by
  have pb := p6_b (a := a)
  have ne : ¬ nI (p6 a) = 0 := nI_ne0 pb.1 (by omega)
  unfold f_Pla_stageOf f_Pla_power
  rw [if_neg (nI_pos (by omega)), if_neg (show ¬ (4 : Int32) ≤ nI a from nI_ge (b := 4) ha (by decide)), inb_nI ha (by decide), o_gd_t, nI_clamp (by omega), a_pow_n ha, o_b_some, if_neg ne, show nz (nI (p6 a)) = true from decide_eq_true ne, o_gd_t, stg_e hn]
theorem m_stageOf {n a : Nat} {m : aM} (hn : n < 2 ^ 31) (ha : a < 3) : f_Mod_stageOf (nI n) (nI a) m = some (nI (stg n a)) := by
  have pb := p6_b (a := a)
  have ne : ¬ nI (p6 a) = 0 := nI_ne0 pb.1 (by omega)
  unfold f_Mod_stageOf
  have e : f_Mod_power (nI a) m = some (nI (p6 a)) := by
    match a, ha with
    | 0, _ => rfl
    | 1, _ => rfl
    | 2, _ => rfl
  rw [e, o_b_some, show nz (nI (p6 a)) = true from decide_eq_true ne, o_gd_t, stg_e hn]
/-- what a program asks of a change -/
def btB (w : Int32) (q : Nat) : Prop := (w >>> (nI q &&& 31)) &&& 1 = 1
def nwP (m : aM) (w : Int32) (q a : Nat) : Prop := m 31 (3 * q + a) = 2 ∨ m 31 (3 * q + a) = 1 ∧ btB w q
def odQ (m : aM) (w : Int32) (q a : Nat) : Prop := m 31 (3 * q + a) = 1 ∧ ¬ btB w q
def okP (m : aM) (w : Int32) (n q a : Nat) : Prop := (nwP m w q a → 2 ≤ stg n a) ∧ (odQ m w q a → stg n a ≤ 3)
def mk6 (A B : Bool) : Int32 := if A then (if B then 12 else 60) else (if B then 15 else 63)
theorem mk6_n {A B : Bool} : mk6 A B &&& 60 = mk6 true B := by cases A <;> cases B <;> decide
theorem mk6_o {A B : Bool} : mk6 A B &&& 15 = mk6 A true := by cases A <;> cases B <;> decide
theorem mk6_t {A B : Bool} {s : Nat} (hs : s < 6) : ((mk6 A B) >>> (nI s &&& 31)) &&& 1 = 0 ↔ ¬ ((A = true → 2 ≤ s) ∧ (B = true → s ≤ 3)) := by
  have : ∀ A B : Bool, ∀ s : Fin 6, (((mk6 A B) >>> (nI s.val &&& 31)) &&& 1 = 0) ↔ ¬ ((A = true → 2 ≤ s.val) ∧ (B = true → s.val ≤ 3)) := by decide +kernel
  exact this A B ⟨s, hs⟩
theorem x3q {q a : Nat} (hq : q < 5) (ha : a < 3) : nI q * 3 + nI a = nI (3 * q + a) := by
  rw [show (3 : Int32) = nI 3 from rfl, nI_mul, nI_add, Nat.mul_comm]
theorem c_stages_l {F p a : Nat} {w : Int32} {m : aM} (hp : p ≤ 5) (ha : a < 3) (h6 : m 29 6 = nI p) (hb : ∀ q, q < 5 → bd (m 31 (3 * q + a)) 0 2) : ∀ (d q N : Nat) (A B : Bool), q + d = p → d < N → ∃ A' B' : Bool, ll_Pla_stagesFor_6 F N (nI a) w (mk6 A B) (nI q) m = some (mk6 A' B') ∧ (A' = true ↔ A = true ∨ ∃ q', q ≤ q' ∧ q' < p ∧ nwP m w q' a) ∧ (B' = true ↔ B = true ∨ ∃ q', q ≤ q' ∧ q' < p ∧ odQ m w q' a)
  | 0, q, N, A, B, hd, hN => by
    obtain ⟨N, rfl⟩ : ∃ k, N = k + 1 := ⟨N - 1, by omega⟩
    refine ⟨A, B, ?_, ⟨Or.inl, fun z => z.elim id (fun ⟨q', z1, z2, _⟩ => by omega)⟩, ⟨Or.inl, fun z => z.elim id (fun ⟨q', z1, z2, _⟩ => by omega)⟩⟩
    show lb_Pla_stagesFor_6 F (ll_Pla_stagesFor_6 F N) (nI a) w (mk6 A B) (nI q) m = _
    unfold lb_Pla_stagesFor_6
    rw [h6, if_pos (nI_le (by omega) (by omega))]
  | d + 1, q, N, A, B, hd, hN => by
    obtain ⟨N, rfl⟩ : ∃ k, N = k + 1 := ⟨N - 1, by omega⟩
    have hq : q < 5 := by omega
    rw [show ll_Pla_stagesFor_6 F (N + 1) (nI a) w (mk6 A B) (nI q) m = lb_Pla_stagesFor_6 F (ll_Pla_stagesFor_6 F N) (nI a) w (mk6 A B) (nI q) m from rfl]
    unfold lb_Pla_stagesFor_6 b_Pla_stagesFor_49 b_Pla_stagesFor_66 b_Pla_stagesFor_85 b_Pla_stagesFor_93 b_Pla_stagesFor_104
    have i15 : inb (nI (3 * q + a)) 15 = true := inb_nI (by omega) (by decide)
    simp only [h6, if_neg (show ¬ nI p ≤ nI q from nI_ge (by omega) (by omega)), x3q hq ha, if_neg (nI_pos (n := 3 * q + a) (by omega)), if_neg (show ¬ (15 : Int32) ≤ nI (3 * q + a) from nI_ge (b := 15) (by omega) (by decide)), i15, o_gd_t, o_let_eq, nI_clamp (show 3 * q + a < 2 ^ 31 by omega), nI_1, mk6_n, mk6_o]
    have stp : ∀ (A1 B1 : Bool), (A1 = true ↔ A = true ∨ nwP m w q a) → (B1 = true ↔ B = true ∨ odQ m w q a) → ∃ A' B' : Bool, ll_Pla_stagesFor_6 F N (nI a) w (mk6 A1 B1) (nI (q + 1)) m = some (mk6 A' B') ∧ (A' = true ↔ A = true ∨ ∃ q', q ≤ q' ∧ q' < p ∧ nwP m w q' a) ∧ (B' = true ↔ B = true ∨ ∃ q', q ≤ q' ∧ q' < p ∧ odQ m w q' a) := fun A1 B1 hA hB' => by
      obtain ⟨A', B', e, z1, z2⟩ := c_stages_l (F := F) (w := w) hp ha h6 hb d (q + 1) N A1 B1 (by omega) (by omega)
      refine ⟨A', B', e, z1.trans ⟨fun y => ?_, fun y => ?_⟩, z2.trans ⟨fun y => ?_, fun y => ?_⟩⟩
      · rcases y with y | ⟨q', y1, y2, y3⟩
        · exact (hA.mp y).imp id (fun k => ⟨q, by omega, by omega, k⟩)
        · exact Or.inr ⟨q', by omega, y2, y3⟩
      · rcases y with y | ⟨q', y1, y2, y3⟩
        · exact Or.inl (hA.mpr (Or.inl y))
        · by_cases k : q' = q
          · exact Or.inl (hA.mpr (Or.inr (k ▸ y3)))
          · exact Or.inr ⟨q', by omega, y2, y3⟩
      · rcases y with y | ⟨q', y1, y2, y3⟩
        · exact (hB'.mp y).imp id (fun k => ⟨q, by omega, by omega, k⟩)
        · exact Or.inr ⟨q', by omega, y2, y3⟩
      · rcases y with y | ⟨q', y1, y2, y3⟩
        · exact Or.inl (hB'.mpr (Or.inl y))
        · by_cases k : q' = q
          · exact Or.inl (hB'.mpr (Or.inr (k ▸ y3)))
          · exact Or.inr ⟨q', by omega, y2, y3⟩
    by_cases v2 : m 31 (3 * q + a) = 2
    · have nw : nwP m w q a := Or.inl v2
      have no : ¬ odQ m w q a := fun z => by have := z.1; rw [v2] at this; exact absurd this (by decide)
      simp only [if_pos v2, ite_self]
      exact stp true B ⟨fun _ => Or.inr nw, fun _ => rfl⟩ ⟨Or.inl, fun z => z.elim id (fun k => absurd k no)⟩
    · by_cases v1 : m 31 (3 * q + a) = 1
      · by_cases bt : (w >>> (nI q &&& 31)) &&& 1 = 1
        · have nw : nwP m w q a := Or.inr ⟨v1, bt⟩
          have no : ¬ odQ m w q a := fun z => z.2 bt
          simp only [if_neg v2, if_pos v1, if_pos bt, show ¬ (1 : Int32) = 0 by decide, if_false]
          exact stp true B ⟨fun _ => Or.inr nw, fun _ => rfl⟩ ⟨Or.inl, fun z => z.elim id (fun k => absurd k no)⟩
        · have od : odQ m w q a := ⟨v1, bt⟩
          have no : ¬ nwP m w q a := fun z => z.elim v2 (fun k => bt k.2)
          simp only [if_neg v2, if_pos v1, if_neg bt, if_true]
          exact stp A true ⟨Or.inl, fun z => z.elim id (fun k => absurd k no)⟩ ⟨fun _ => Or.inr od, fun _ => rfl⟩
      · have no : ¬ nwP m w q a := fun z => z.elim v2 (fun k => v1 k.1)
        have no2 : ¬ odQ m w q a := fun k => v1 k.1
        simp only [if_neg v2, if_neg v1, ite_self]
        exact stp A B ⟨Or.inl, fun z => z.elim id (fun k => absurd k no)⟩ ⟨Or.inl, fun z => z.elim id (fun k => absurd k no2)⟩
def pr33 (m : aM) (n a b : Nat) : Prop := ¬ m 33 (3 * a + b) = 0 → stg n b ≤ stg n a
def uwS (s : Nat) : Prop := 1 ≤ s ∧ s ≤ 4
def pr34 (m : aM) (n a b : Nat) : Prop := ¬ m 34 (3 * a + b) = 0 → ¬ (uwS (stg n a) ∧ uwS (stg n b))
theorem c_under {s : Nat} {m : aM} (h : s < 6) : f_Pla_isUnderWay (nI s) m = some (if 1 ≤ s ∧ s ≤ 4 then 1 else 0) := by
  match s, h with
  | 0, _ => rfl
  | 1, _ => rfl
  | 2, _ => rfl
  | 3, _ => rfl
  | 4, _ => rfl
  | 5, _ => rfl
theorem c_kp16_l {F n a : Nat} {R : Int32 → Int32 → aM → Option Int32} {m : aM} (hn : n < 2 ^ 31) (ha : a < 3) : ∀ (d b N : Nat), b + d = 3 → d < N → (∃ y, R (nI n) (nI (a + 1)) m = some y) → ∃ y, ll_Pla_keepsPairs_16 F R N (nI n) (nI a) (nI (stg n a)) (nI b) m = some y ∧ ((∀ b', b ≤ b' → b' < 3 → pr33 m n a b' ∧ pr34 m n a b') → some y = R (nI n) (nI (a + 1)) m) ∧ (¬ (∀ b', b ≤ b' → b' < 3 → pr33 m n a b' ∧ pr34 m n a b') → y = 0)
  | 0, b, N, hd, hN, ⟨y, hy⟩ => by
    obtain ⟨N, rfl⟩ : ∃ k, N = k + 1 := ⟨N - 1, by omega⟩
    obtain rfl : b = 3 := by omega
    refine ⟨y, ?_, fun _ => hy.symm, fun z => absurd (fun b' h1 h2 => by omega) z⟩
    show lb_Pla_keepsPairs_16 F R (ll_Pla_keepsPairs_16 F R N) (nI n) (nI a) (nI (stg n a)) (nI 3) m = _
    unfold lb_Pla_keepsPairs_16
    rw [if_pos (by decide), nI_1, hy]
  | d + 1, b, N, hd, hN, ⟨y, hy⟩ => by
    obtain ⟨N, rfl⟩ : ∃ k, N = k + 1 := ⟨N - 1, by omega⟩
    have i9 : inb (nI (3 * a + b)) 9 = true := inb_nI (by omega) (by decide)
    obtain ⟨y', e, z1, z2⟩ := c_kp16_l (F := F) (R := R) (m := m) hn ha d (b + 1) N (by omega) (by omega) ⟨y, hy⟩
    rw [show ll_Pla_keepsPairs_16 F R (N + 1) (nI n) (nI a) (nI (stg n a)) (nI b) m = lb_Pla_keepsPairs_16 F R (ll_Pla_keepsPairs_16 F R N) (nI n) (nI a) (nI (stg n a)) (nI b) m from rfl]
    unfold lb_Pla_keepsPairs_16 b_Pla_keepsPairs_54 b_Pla_keepsPairs_81
    simp only [if_neg (show ¬ (3 : Int32) ≤ nI b from nI_ge (b := 3) (by omega) (by decide)), c_stageOf hn (show b < 4 by omega), o_b_some, x3q (show a < 5 by omega) (show b < 3 by omega), i9, o_gd_t, o_let_eq, nI_clamp (show 3 * a + b < 2 ^ 31 by omega), c_under stg6, nI_1, e]
    have sa := stg6 (n := n) (a := a)
    have sb := stg6 (n := n) (a := b)
    have lt : nI (stg n a) < nI (stg n b) ↔ stg n a < stg n b := nI_ltI (by omega) (by omega)
    have yes : pr33 m n a b → pr34 m n a b → ∃ y0, some y' = some y0 ∧ ((∀ b', b ≤ b' → b' < 3 → pr33 m n a b' ∧ pr34 m n a b') → some y0 = R (nI n) (nI (a + 1)) m) ∧ (¬ (∀ b', b ≤ b' → b' < 3 → pr33 m n a b' ∧ pr34 m n a b') → y0 = 0) := fun k1 k2 => by
      refine ⟨y', rfl, fun z => z1 (fun b' h1 h2 => z b' (by omega) h2), fun z => z2 (fun k => z (fun b' h1 h2 => ?_))⟩
      by_cases q : b' = b
      · rw [q]; exact ⟨k1, k2⟩
      · exact k b' (by omega) h2
    have nay : ¬ (pr33 m n a b ∧ pr34 m n a b) → ∃ y0, some (0 : Int32) = some y0 ∧ ((∀ b', b ≤ b' → b' < 3 → pr33 m n a b' ∧ pr34 m n a b') → some y0 = R (nI n) (nI (a + 1)) m) ∧ (¬ (∀ b', b ≤ b' → b' < 3 → pr33 m n a b' ∧ pr34 m n a b') → y0 = 0) := fun k => ⟨0, rfl, fun z => absurd (z b (by omega) (by omega)) k, fun _ => rfl⟩
    by_cases c1 : pr33 m n a b
    · have p33 : ∀ {X Y : Option Int32}, (if m 33 (3 * a + b) = 0 then X else if nI (stg n a) < nI (stg n b) then Y else X) = X := fun {X Y} => by
        by_cases q : m 33 (3 * a + b) = 0
        · rw [if_pos q]
        · rw [if_neg q, if_neg (fun z => by have := c1 q; have := lt.mp z; omega)]
      rw [p33]
      by_cases q4 : m 34 (3 * a + b) = 0
      · rw [if_pos q4]
        exact yes c1 (fun z => absurd q4 z)
      · rw [if_neg q4]
        by_cases u1 : 1 ≤ stg n a ∧ stg n a ≤ 4
        · by_cases u2 : 1 ≤ stg n b ∧ stg n b ≤ 4
          · simp only [if_pos u1, if_pos u2, show ¬ (1 : Int32) = 0 by decide, if_false]
            exact nay (fun k => k.2 q4 ⟨u1, u2⟩)
          · simp only [if_pos u1, if_neg u2, show ¬ (1 : Int32) = 0 by decide, if_false, if_true]
            exact yes c1 (fun _ z => u2 z.2)
        · simp only [if_neg u1, if_true]
          exact yes c1 (fun _ z => u1 z.1)
    · have q : ¬ m 33 (3 * a + b) = 0 := fun z => c1 (fun k => absurd z k)
      have l2 : nI (stg n a) < nI (stg n b) := lt.mpr (by
        by_cases k : stg n a < stg n b
        · exact k
        · exact absurd (fun _ => by omega) c1)
      rw [if_neg q, if_pos l2]
      exact nay (fun k => c1 k.1)
theorem c_kp_l {F n : Nat} {m : aM} (hn : n < 2 ^ 31) (hF : 5000 ≤ F) : ∀ (d a N : Nat), a + d = 3 → d < N → ∃ y, ll_Pla_keepsPairs_2 F N (nI n) (nI a) m = some y ∧ (y = 0 ∨ y = 1) ∧ (y = 1 ↔ ∀ a' b', a ≤ a' → a' < 3 → b' < 3 → pr33 m n a' b' ∧ pr34 m n a' b')
  | 0, a, N, hd, hN => by
    obtain ⟨N, rfl⟩ : ∃ k, N = k + 1 := ⟨N - 1, by omega⟩
    obtain rfl : a = 3 := by omega
    exact ⟨1, rfl, Or.inr rfl, ⟨fun _ a' b' h1 h2 => by omega, fun _ => rfl⟩⟩
  | d + 1, a, N, hd, hN => by
    obtain ⟨N, rfl⟩ : ∃ k, N = k + 1 := ⟨N - 1, by omega⟩
    obtain ⟨y, e, y1, y2⟩ := c_kp_l (F := F) (m := m) hn hF d (a + 1) N (by omega) (by omega)
    obtain ⟨y', e', z1, z2⟩ := c_kp16_l (F := F) (R := ll_Pla_keepsPairs_2 F N) (m := m) hn (show a < 3 by omega) 3 0 F (by omega) (by omega) ⟨y, e⟩
    rw [show ll_Pla_keepsPairs_2 F (N + 1) (nI n) (nI a) m = lb_Pla_keepsPairs_2 F (ll_Pla_keepsPairs_2 F N) (nI n) (nI a) m from rfl]
    unfold lb_Pla_keepsPairs_2
    rw [if_neg (show ¬ (3 : Int32) ≤ nI a from nI_ge (b := 3) (by omega) (by decide)), c_stageOf hn (show a < 4 by omega), o_b_some, show ll_Pla_keepsPairs_16 F (ll_Pla_keepsPairs_2 F N) F (nI n) (nI a) (nI (stg n a)) 0 m = _ from e']
    refine ⟨y', rfl, ?_⟩
    by_cases c : ∀ b', 0 ≤ b' → b' < 3 → pr33 m n a b' ∧ pr34 m n a b'
    · have yy : y' = y := Option.some.inj ((z1 c).trans e)
      rw [yy]
      refine ⟨y1, y2.trans ⟨fun z a' b' h1 h2 h3 => ?_, fun z a' b' h1 h2 h3 => z a' b' (by omega) h2 h3⟩⟩
      by_cases q : a' = a
      · rw [q]; exact c b' (by omega) h3
      · exact z a' b' (by omega) h2 h3
    · rw [z2 c]
      exact ⟨Or.inl rfl, ⟨fun z => absurd z (by decide), fun z => absurd (fun b' _ h3 => z a b' (by omega) (by omega) h3) c⟩⟩
/-- a node stands, as the class sees it -/
def stdP (m : aM) (c p n : Nat) (w : Int32) : Prop := (∀ q a, q < p → a < c → okP m w n q a) ∧ ∀ a b, a < 3 → b < 3 → pr33 m n a b ∧ pr34 m n a b
theorem c_stand_l {F n c p : Nat} {w : Int32} {m : aM} (h : iPl m c p) (hn : n < 2 ^ 31) (hF : 5000 ≤ F) : ∀ (d a N : Nat), a + d = c → d < N → ∃ y, ll_Pla_isStanding_2 F N (nI n) w (nI a) m = some y ∧ (y = 0 ∨ y = 1) ∧ (y = 1 ↔ (∀ q a', q < p → a ≤ a' → a' < c → okP m w n q a') ∧ ∀ a b, a < 3 → b < 3 → pr33 m n a b ∧ pr34 m n a b)
  | 0, a, N, hd, hN => by
    obtain ⟨N, rfl⟩ : ∃ k, N = k + 1 := ⟨N - 1, by omega⟩
    obtain ⟨c3, p5, h5, _, h6, _⟩ := h
    obtain ⟨y, e, y1, y2⟩ := c_kp_l (F := F) (m := m) hn hF 3 0 F (by omega) (by omega)
    rw [show ll_Pla_isStanding_2 F (N + 1) (nI n) w (nI a) m = lb_Pla_isStanding_2 F (ll_Pla_isStanding_2 F N) (nI n) w (nI a) m from rfl]
    unfold lb_Pla_isStanding_2 f_Pla_keepsPairs
    rw [h5, if_pos (nI_le (by omega) (by omega)), show ll_Pla_keepsPairs_2 F F (nI n) 0 m = _ from e, o_b_some]
    have ib : isb y = true := decide_eq_true y1
    rw [ib, o_gd_t]
    exact ⟨y, rfl, y1, y2.trans ⟨fun z => ⟨fun q a' h1 h2 h3 => by omega, fun a b h1 h2 => z a b (by omega) h1 h2⟩, fun z a b _ h1 h2 => z.2 a b h1 h2⟩⟩
  | d + 1, a, N, hd, hN => by
    obtain ⟨N, rfl⟩ : ∃ k, N = k + 1 := ⟨N - 1, by omega⟩
    obtain ⟨y, e, y1, y2⟩ := c_stand_l (F := F) (w := w) h hn hF d (a + 1) N (by omega) (by omega)
    obtain ⟨c3, p5, h5, _, h6, _, _, hb, _⟩ := h
    obtain ⟨A, B, e2, zA, zB⟩ := c_stages_l (F := F) (w := w) p5 (show a < 3 by omega) h6 (fun q hq => (hb q a hq (by omega)).2) p 0 F false false (by omega) (by omega)
    have sa := stg6 (n := n) (a := a)
    have tt := mk6_t (A := A) (B := B) sa
    have ok : ((A = true → 2 ≤ stg n a) ∧ (B = true → stg n a ≤ 3)) ↔ ∀ q, q < p → okP m w n q a := by
      constructor
      · intro z q hq
        exact ⟨fun k => z.1 (zA.mpr (Or.inr ⟨q, by omega, hq, k⟩)), fun k => z.2 (zB.mpr (Or.inr ⟨q, by omega, hq, k⟩))⟩
      · intro z
        refine ⟨fun k => ?_, fun k => ?_⟩
        · rcases zA.mp k with k | ⟨q, _, k2, k3⟩
          · exact absurd k (by decide)
          · exact (z q k2).1 k3
        · rcases zB.mp k with k | ⟨q, _, k2, k3⟩
          · exact absurd k (by decide)
          · exact (z q k2).2 k3
    rw [show ll_Pla_isStanding_2 F (N + 1) (nI n) w (nI a) m = lb_Pla_isStanding_2 F (ll_Pla_isStanding_2 F N) (nI n) w (nI a) m from rfl]
    unfold lb_Pla_isStanding_2 f_Pla_stagesFor
    rw [h5, if_neg (show ¬ nI c ≤ nI a from nI_ge (by omega) (by omega)), show ll_Pla_stagesFor_6 F F (nI a) w 63 0 m = _ from e2, o_b_some, c_stageOf hn (show a < 4 by omega), o_b_some, o_let_eq, nI_1]
    by_cases c1 : ((mk6 A B) >>> (nI (stg n a) &&& 31)) &&& 1 = 0
    · rw [if_pos c1]
      refine ⟨0, rfl, Or.inl rfl, ⟨fun z => absurd z (by decide), fun z => absurd (ok.mpr (fun q hq => z.1 q a hq (by omega) (by omega))) (tt.mp c1)⟩⟩
    · rw [if_neg c1, e]
      have okk : ∀ q, q < p → okP m w n q a := ok.mp (Classical.byContradiction (fun z => c1 (tt.mpr z)))
      refine ⟨y, rfl, y1, y2.trans ⟨fun z => ⟨fun q a' h1 h2 h3 => ?_, z.2⟩, fun z => ⟨fun q a' h1 h2 h3 => z.1 q a' h1 (by omega) h3, z.2⟩⟩⟩
      by_cases k : a' = a
      · rw [k]; exact okk q h1
      · exact z.1 q a' h1 (by omega) h3
theorem c_stand {F n c p : Nat} {w : Int32} {m : aM} (h : iPl m c p) (hn : n < 2 ^ 31) (hF : 5000 ≤ F) : ∃ y, f_Pla_isStanding F (nI n) w m = some y ∧ (y = 0 ∨ y = 1) ∧ (y = 1 ↔ stdP m c p n w) := by
  obtain ⟨y, e, y1, y2⟩ := c_stand_l (F := F) (w := w) h hn hF c 0 F (by omega) (by have := h.1; omega)
  exact ⟨y, e, y1, y2.trans ⟨fun z => ⟨fun q a h1 h2 => z.1 q a h1 (by omega) h2, z.2⟩, fun z => ⟨fun q a h1 _ h2 => z.1 q a h1 h2, z.2⟩⟩⟩
