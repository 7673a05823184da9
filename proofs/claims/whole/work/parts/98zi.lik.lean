/-! LIKES: the class's table -/
def lkR (m0 : aM) (st : lS) (a b : Nat) : Prop := ∀ j, j < 4 → sN st j (bxr m0 a) = sN st j (bxr m0 b) ∧ sK st j (bxr m0 a) = sK st j (bxr m0 b)
theorem lkR_E {m0 : aM} {st : lS} : Eqv (lkR m0 st) := ⟨fun a j _ => ⟨rfl, rfl⟩, fun a b h j hj => ⟨(h j hj).1.symm, (h j hj).2.symm⟩, fun a b c h k j hj => ⟨(h j hj).1.trans (k j hj).1, (h j hj).2.trans (k j hj).2⟩⟩
noncomputable def hz13 (x : Int32) : Nat := Classical.choose (and13 x)
theorem hz13_lt (x : Int32) : hz13 x < 8192 := (Classical.choose_spec (and13 x)).1
theorem hz13_e (x : Int32) : x &&& 8191 = nI (hz13 x) := (Classical.choose_spec (and13 x)).2
def hA1 (v x : Int32) : Int32 := ((v ^^^ x) * (-1640531535)) ^^^ (((((v ^^^ x) * (-1640531535)) : Int32).toUInt32 >>> ((15 : Int32).toUInt32 &&& Int32.toUInt32 31)).toInt32)
def hB1 (v x : Int32) : Int32 := ((v ^^^ x) * (-2048144789)) ^^^ (((((v ^^^ x) * (-2048144789)) : Int32).toUInt32 >>> ((13 : Int32).toUInt32 &&& Int32.toUInt32 31)).toInt32)
/-- letters, one after another, through f -/
def mxL (f : Int32 → Int32 → Int32) (x : Nat → Int32) : Nat → Nat → Int32 → Int32
  | 0, _, v => v
  | d + 1, i, v => mxL f x d (i + 1) (f v (x i))
theorem mxL_z {f : Int32 → Int32 → Int32} {x : Nat → Int32} {i : Nat} {v : Int32} : mxL f x 0 i v = v := rfl
theorem mxL_s {f : Int32 → Int32 → Int32} {x : Nat → Int32} {d i : Nat} {v : Int32} : mxL f x (d + 1) i v = mxL f x d (i + 1) (f v (x i)) := rfl
theorem mxL_cg {f : Int32 → Int32 → Int32} {x y : Nat → Int32} : ∀ (d i : Nat) (v : Int32), (∀ j, j < i + d → x j = y j) → mxL f x d i v = mxL f y d i v
  | 0, i, v, _ => by rw [mxL_z, mxL_z]
  | d + 1, i, v, h => by
    rw [mxL_s, mxL_s, h i (by omega)]
    exact mxL_cg d (i + 1) _ (fun j hj => h j (by omega))
theorem c_pl35 {F a : Nat} {m : aM} (d : Nat) : ∀ (i N : Nat) (v : Int32), i + d = 4 → d < N → ll_Lik_placeOf_35 F N a v (nI i) m = some (mxL hB1 (m a) d i v &&& 8191) := by
  induction d with
  | zero =>
    intro i N v hd hN
    obtain ⟨N, rfl⟩ : ∃ k, N = k + 1 := ⟨N - 1, by omega⟩
    obtain rfl : i = 4 := by omega
    rw [mxL_z, show ll_Lik_placeOf_35 F (N + 1) a v (nI 4) m = lb_Lik_placeOf_35 F (ll_Lik_placeOf_35 F N) a v (nI 4) m from rfl]
    unfold lb_Lik_placeOf_35
    rw [if_pos (show (4 : Int32) ≤ nI 4 by decide)]
  | succ d ih =>
    intro i N v hd hN
    obtain ⟨N, rfl⟩ : ∃ k, N = k + 1 := ⟨N - 1, by omega⟩
    have e := ih (i + 1) N (hB1 v (m a i)) (by omega) (by omega)
    rw [mxL_s, ← e, show ll_Lik_placeOf_35 F (N + 1) a v (nI i) m = lb_Lik_placeOf_35 F (ll_Lik_placeOf_35 F N) a v (nI i) m from rfl]
    unfold lb_Lik_placeOf_35
    simp only [if_neg (show ¬ (4 : Int32) ≤ nI i from nI_ge (b := 4) (by omega) (by decide)), inb_nI (show i < 4 by omega) (by decide), o_gd_t, o_let_eq, nI_clamp (show i < 2 ^ 31 by omega), nI_1, hB1]
theorem c_pl5 {F a b : Nat} {m : aM} (hF : 5000 ≤ F) (d : Nat) : ∀ (i N : Nat) (v : Int32), i + d = 4 → d < N → ll_Lik_placeOf_5 F N a b v (nI i) m = some (mxL hB1 (m b) 4 0 (mxL hA1 (m a) d i v) &&& 8191) := by
  induction d with
  | zero =>
    intro i N v hd hN
    obtain ⟨N, rfl⟩ : ∃ k, N = k + 1 := ⟨N - 1, by omega⟩
    obtain rfl : i = 4 := by omega
    have e := c_pl35 (F := F) (a := b) (m := m) 4 0 F v (by omega) (by omega)
    rw [mxL_z (f := hA1), ← e, show ll_Lik_placeOf_5 F (N + 1) a b v (nI 4) m = lb_Lik_placeOf_5 F (ll_Lik_placeOf_5 F N) a b v (nI 4) m from rfl]
    unfold lb_Lik_placeOf_5
    rw [if_pos (show (4 : Int32) ≤ nI 4 by decide), show nI 0 = 0 from rfl]
  | succ d ih =>
    intro i N v hd hN
    obtain ⟨N, rfl⟩ : ∃ k, N = k + 1 := ⟨N - 1, by omega⟩
    have e := ih (i + 1) N (hA1 v (m a i)) (by omega) (by omega)
    rw [mxL_s (f := hA1), ← e, show ll_Lik_placeOf_5 F (N + 1) a b v (nI i) m = lb_Lik_placeOf_5 F (ll_Lik_placeOf_5 F N) a b v (nI i) m from rfl]
    unfold lb_Lik_placeOf_5
    simp only [if_neg (show ¬ (4 : Int32) ≤ nI i from nI_ge (b := 4) (by omega) (by decide)), inb_nI (show i < 4 by omega) (by decide), o_gd_t, o_let_eq, nI_clamp (show i < 2 ^ 31 by omega), nI_1, hA1]
noncomputable def hC (m0 : aM) (st : lS) (n : Nat) : Nat := hz13 (mxL hB1 (fun j => sK st j (bxr m0 n)) 4 0 (mxL hA1 (fun j => sN st j (bxr m0 n)) 4 0 17))
theorem hC_lk {m0 : aM} {st : lS} (a b : Nat) (h : lkR m0 st a b) : hC m0 st a = hC m0 st b := by
  unfold hC
  rw [mxL_cg (f := hA1) (x := fun j => sN st j (bxr m0 a)) (y := fun j => sN st j (bxr m0 b)) 4 0 17 (fun j hj => (h j (by omega)).1), mxL_cg (f := hB1) (x := fun j => sK st j (bxr m0 a)) (y := fun j => sK st j (bxr m0 b)) 4 0 _ (fun j hj => (h j (by omega)).2)]
theorem cpyN {a b : Nat → Int32} {d k j : Nat} : va_cpy a b 0 d k j = if d ≤ j ∧ j < d + k then a (j - d) else b j := by
  simp [va_cpy]
theorem c_keep {a0 n : Nat} {m : aM} (hn : n < 4096) (ha : 26 < a0) : ∃ m2, f_Lik_keepSeen a0 (nI n) 25 26 m = some (0, m2) ∧ (∀ i, i < 8 → m2 (a0 + 2) (8 * n + i) = if i < 4 then m 25 i else m 26 (i - 4)) ∧ Fr (fun b j => b = a0 + 2 ∧ 8 * n ≤ j ∧ j < 8 * n + 8) m m2 := by
  have e1 : nI n * 8 = nI (8 * n) := by rw [show (8 : Int32) = nI 8 from rfl, nI_mul, Nat.mul_comm]
  have e2 : nI (8 * n) + 4 = nI (8 * n + 4) := nI_add _ 4
  have c0 : (0 : Int32).toNatClampNeg = 0 := rfl
  have c4 : (4 : Int32).toNatClampNeg = 4 := rfl
  have q : ∀ k, k + 4 ≤ 32768 → cpg 0 (nI k) 4 4 32768 = true := fun k hk => decide_eq_true ⟨by decide, nI_pos (by omega), by decide, by decide, by rw [nI_clamp (by omega), c4]; omega⟩
  unfold f_Lik_keepSeen
  rw [if_neg (nI_pos (by omega)), if_neg (show ¬ (4096 : Int32) ≤ nI n from nI_ge (b := 4096) hn (by decide)), if_neg (by decide), if_pos (by decide), e1, e2, q _ (by omega), q _ (by omega), o_gd_t, o_let_eq, o_gd_t, o_let_eq]
  simp only [c0, c4, nI_clamp (show 8 * n < 2 ^ 31 by omega), nI_clamp (show 8 * n + 4 < 2 ^ 31 by omega)]
  refine ⟨_, rfl, fun i hi => ?_, fun b j hb => ?_⟩
  · rw [a_sf_at, cpyN, a_sf_ne (show (26 : Nat) ≠ a0 + 2 by omega), a_sf_at, cpyN]
    by_cases c : i < 4
    · rw [if_neg (by omega), if_pos (by omega), if_pos c, show 8 * n + i - 8 * n = i by omega]
    · rw [if_pos (by omega), if_neg c, show 8 * n + i - (8 * n + 4) = i - 4 by omega]
  · by_cases c : b = a0 + 2
    · rw [c, a_sf_at, cpyN, if_neg (by omega), a_sf_at, cpyN, if_neg (by omega)]
    · rw [a_sf_ne c, a_sf_ne c]
theorem c_same {F a0 r n : Nat} {m : aM} (hr : r < 4096) (hn : n < 4096) : ∀ (d i N : Nat), i + d = 8 → d < N → ∃ y, ll_Lik_isSameSeen_26 F N a0 (nI r) (nI n) (nI i) m = some y ∧ (y = 0 ∨ y = 1) ∧ (y = 1 ↔ ∀ j, i ≤ j → j < 8 → m (a0 + 2) (8 * r + j) = m (a0 + 2) (8 * n + j))
  | 0, i, N, hd, hN => by
    obtain ⟨N, rfl⟩ : ∃ k, N = k + 1 := ⟨N - 1, by omega⟩
    obtain rfl : i = 8 := by omega
    exact ⟨1, rfl, Or.inr rfl, ⟨fun _ j h1 h2 => by omega, fun _ => rfl⟩⟩
  | d + 1, i, N, hd, hN => by
    obtain ⟨N, rfl⟩ : ∃ k, N = k + 1 := ⟨N - 1, by omega⟩
    obtain ⟨y, e, y1, y2⟩ := c_same (F := F) (a0 := a0) (m := m) hr hn d (i + 1) N (by omega) (by omega)
    have e1 : ∀ q, nI q * 8 + nI i = nI (8 * q + i) := fun q => by rw [show (8 : Int32) = nI 8 from rfl, nI_mul, nI_add, Nat.mul_comm]
    rw [show ll_Lik_isSameSeen_26 F (N + 1) a0 (nI r) (nI n) (nI i) m = lb_Lik_isSameSeen_26 F (ll_Lik_isSameSeen_26 F N) a0 (nI r) (nI n) (nI i) m from rfl]
    unfold lb_Lik_isSameSeen_26
    simp only [if_neg (show ¬ (8 : Int32) ≤ nI i from nI_ge (b := 8) (by omega) (by decide)), e1, inb_nI (show 8 * r + i < 32768 by omega) (by decide), inb_nI (show 8 * n + i < 32768 by omega) (by decide), o_gd_t, o_let_eq, nI_clamp (show 8 * r + i < 2 ^ 31 by omega), nI_clamp (show 8 * n + i < 2 ^ 31 by omega), nI_1, e]
    by_cases c : m (a0 + 2) (8 * r + i) = m (a0 + 2) (8 * n + i)
    · rw [if_pos c]
      refine ⟨y, rfl, y1, y2.trans ⟨fun z j h1 h2 => ?_, fun z j h1 h2 => z j (by omega) h2⟩⟩
      by_cases q : j = i
      · rw [q]; exact c
      · exact z j (by omega) h2
    · rw [if_neg c]
      exact ⟨0, rfl, Or.inl rfl, ⟨fun z => absurd z (by decide), fun z => absurd (z i (by omega) (by omega)) c⟩⟩
/-- what the class's table holds after n rows -/
def LT (m0 : aM) (st : lS) (a0 n : Nat) (T : Nat → Option Nat) (m : aM) : Prop := HT (lkR m0 st) (hC m0 st) n T ∧ (∀ p, p < 8192 → m (a0 + 1) p = enM (T p)) ∧ ∀ r i, r < n → i < 8 → m (a0 + 2) (8 * r + i) = if i < 4 then sN st i (bxr m0 r) else sK st (i - 4) (bxr m0 r)
theorem c_firstLike {F a0 n : Nat} {m m0 : aM} {st : lS} {T : Nat → Option Nat} (hF : 20000 ≤ F) (ha : 8692 ≤ a0) (hn : n < 4096) (h : LT m0 st a0 n T m) (h25 : ∀ j, j < 4 → m 25 j = sN st j (bxr m0 n)) (h26 : ∀ j, j < 4 → m 26 j = sK st j (bxr m0 n)) : ∃ m2 T2, f_Lik_firstLike F a0 (nI n) 25 26 m = some (nI (fsL (lkR m0 st) n), m2) ∧ fsL (lkR m0 st) n ≤ n ∧ LT m0 st a0 (n + 1) T2 m2 ∧ ∀ b j, b ≠ a0 + 1 → b ≠ a0 + 2 → m2 b j = m b j := by
  obtain ⟨hT, hp, hs⟩ := h
  obtain ⟨m1, e1, v1, f1⟩ := c_keep (m := m) hn (show 26 < a0 by omega)
  have hp1 : ∀ p, p < 8192 → m1 (a0 + 1) p = enM (T p) := fun p h8 => by rw [f1 _ _ (by omega)]; exact hp p h8
  have hs1 : ∀ r i, r < n + 1 → i < 8 → m1 (a0 + 2) (8 * r + i) = if i < 4 then sN st i (bxr m0 r) else sK st (i - 4) (bxr m0 r) := fun r i hr hi => by
    by_cases c : r = n
    · rw [c, v1 i hi]
      by_cases d : i < 4
      · rw [if_pos d, if_pos d, h25 i d]
      · rw [if_neg d, if_neg d, h26 (i - 4) (by omega)]
    · rw [f1 _ _ (by omega)]
      exact hs r i (by omega) hi
  have lkI : ∀ r, r < n → ((∀ j, 0 ≤ j → j < 8 → m1 (a0 + 2) (8 * r + j) = m1 (a0 + 2) (8 * n + j)) ↔ lkR m0 st r n) := fun r hr => by
    constructor
    · intro z j hj
      refine ⟨?_, ?_⟩
      · have := z j (by omega) (by omega)
        rw [hs1 r j (by omega) (by omega), hs1 n j (by omega) (by omega), if_pos hj, if_pos hj] at this
        exact this
      · have := z (j + 4) (by omega) (by omega)
        rw [hs1 r (j + 4) (by omega) (by omega), hs1 n (j + 4) (by omega) (by omega), if_neg (by omega), if_neg (by omega), show j + 4 - 4 = j by omega] at this
        exact this
    · intro z j _ hj
      rw [hs1 r j (by omega) hj, hs1 n j (by omega) hj]
      by_cases d : j < 4
      · rw [if_pos d, if_pos d]
        exact (z j d).1
      · rw [if_neg d, if_neg d]
        exact (z (j - 4) (by omega)).2
  have pl : f_Lik_placeOf F 25 26 m1 = some (nI (hC m0 st n)) := by
    unfold f_Lik_placeOf
    rw [show ll_Lik_placeOf_5 F F 25 26 17 0 m1 = _ from c_pl5 (F := F) (a := 25) (b := 26) (m := m1) (by omega) 4 0 F 17 (by omega) (by omega), hz13_e]
    unfold hC
    rw [mxL_cg (f := hA1) (x := m1 25) (y := fun j => sN st j (bxr m0 n)) 4 0 17 (fun j hj => by rw [f1 _ _ (by omega)]; exact h25 j (by omega)), mxL_cg (f := hB1) (x := m1 26) (y := fun j => sK st j (bxr m0 n)) 4 0 _ (fun j hj => by rw [f1 _ _ (by omega)]; exact h26 j (by omega))]
  obtain ⟨t, t8, occ, fin⟩ := hT.probe lkR_E hC_lk (show n < 8192 by omega)
  have hl8 : hC m0 st n < 8192 := hz13_lt _
  -- the walk along the places
  have walk : ∀ (dd s N : Nat), s + dd = t → dd < N → ∃ N', ll_Lik_firstLike_17 F N a0 (nI n) (nI ((hC m0 st n + s) % 8192)) (nI s) m1 = lb_Lik_firstLike_17 F (ll_Lik_firstLike_17 F N') a0 (nI n) (nI ((hC m0 st n + t) % 8192)) (nI t) m1 := fun dd => by
    induction dd with
    | zero =>
      intro s N hd hN
      obtain ⟨N, rfl⟩ : ∃ k, N = k + 1 := ⟨N - 1, by omega⟩
      obtain rfl : s = t := by omega
      exact ⟨N, rfl⟩
    | succ dd ih =>
      intro s N hd hN
      obtain ⟨N, rfl⟩ : ∃ k, N = k + 1 := ⟨N - 1, by omega⟩
      obtain ⟨N', e'⟩ := ih (s + 1) N (by omega) (by omega)
      refine ⟨N', Eq.trans ?_ e'⟩
      obtain ⟨r, r1, r2⟩ := occ s (by omega)
      have m8 : (hC m0 st n + s) % 8192 < 8192 := Nat.mod_lt _ (by decide)
      have rl := (hT.1 _ _ r1).2.1
      obtain ⟨y, ey, y1, y2⟩ := c_same (F := F) (a0 := a0) (m := m1) (show r < 4096 by omega) hn 8 0 F (by omega) (by omega)
      show lb_Lik_firstLike_17 F (ll_Lik_firstLike_17 F N) a0 (nI n) (nI ((hC m0 st n + s) % 8192)) (nI s) m1 = _
      unfold lb_Lik_firstLike_17 f_Lik_isSameSeen
      rw [if_neg (show ¬ (8192 : Int32) ≤ nI s from nI_ge (b := 8192) (by omega) (by decide)), inb_nI m8 (by decide), o_gd_t, o_let_eq, nI_clamp (by omega), hp1 _ m8, r1, show enM (some r) = nI r from rfl, if_neg (nI_m1 (by omega)), if_neg (nI_pos (by omega)), if_neg (show ¬ (4096 : Int32) ≤ nI r from nI_ge (b := 4096) (by omega) (by decide)), if_neg (nI_pos (by omega)), if_pos (show nI n < 4096 from nI_lt (b := 4096) hn (by decide)), show ll_Lik_isSameSeen_26 F F a0 (nI r) (nI n) 0 m1 = _ from ey, o_b_some]
      have y0 : y = 0 := by
        rcases y1 with y1 | y1
        · exact y1
        · exact absurd ((lkI r rl).mp (y2.mp y1)) r2
      rw [if_pos y0, show nI ((hC m0 st n + s) % 8192) + 1 = nI ((hC m0 st n + s) % 8192 + 1) from nI_add _ 1, and13n (by omega), show nI s + 1 = nI (s + 1) from nI_add s 1, show ((hC m0 st n + s) % 8192 + 1) % 8192 = (hC m0 st n + (s + 1)) % 8192 by omega]
  obtain ⟨N', e'⟩ := walk t 0 F (by omega) (by omega)
  have m8 : (hC m0 st n + t) % 8192 < 8192 := Nat.mod_lt _ (by decide)
  have go : f_Lik_firstLike F a0 (nI n) 25 26 m = lb_Lik_firstLike_17 F (ll_Lik_firstLike_17 F N') a0 (nI n) (nI ((hC m0 st n + t) % 8192)) (nI t) m1 := by
    unfold f_Lik_firstLike
    rw [e1, o_b2_some, pl, o_b_some]
    rw [show (hC m0 st n + 0) % 8192 = hC m0 st n by omega] at e'
    exact e'
  have fr1 : ∀ b j, b ≠ a0 + 1 → b ≠ a0 + 2 → m1 b j = m b j := fun b j _ hb => f1 b j (by omega)
  rw [go]
  unfold lb_Lik_firstLike_17 f_Lik_isSameSeen
  rw [if_neg (show ¬ (8192 : Int32) ≤ nI t from nI_ge (b := 8192) (by omega) (by decide)), inb_nI m8 (by decide), o_gd_t, o_let_eq, nI_clamp (by omega), hp1 _ m8]
  rcases fin with ⟨g1, g2⟩ | ⟨r, g1, g2⟩
  · rw [g1, show enM none = -1 from rfl, if_pos rfl, o_gd_t, o_let_eq, fsL_eq lkR_E (Nat.le_refl n) (lkR_E.1 n) g2]
    refine ⟨_, updD T ((hC m0 st n + t) % 8192) n, rfl, Nat.le_refl _, ⟨hT.new t8 occ g1 g2, fun p hp8 => ?_, fun r i hr hi => ?_⟩, fun b j hb hb' => ?_⟩
    · rw [a_rd]
      unfold updD
      by_cases c : p = (hC m0 st n + t) % 8192
      · rw [if_pos ⟨rfl, c⟩, if_pos c]
        rfl
      · rw [if_neg (fun z => c z.2), if_neg c]
        exact hp1 p hp8
    · rw [a_st_ne (by omega)]
      exact hs1 r i hr hi
    · rw [a_st_ne hb]
      exact fr1 b j hb hb'
  · have rl := (hT.1 _ _ g1).2.1
    obtain ⟨y, ey, y1, y2⟩ := c_same (F := F) (a0 := a0) (m := m1) (show r < 4096 by omega) hn 8 0 F (by omega) (by omega)
    have yy : y = 1 := y2.mpr ((lkI r rl).mpr g2)
    rw [g1, show enM (some r) = nI r from rfl, if_neg (nI_m1 (by omega)), if_neg (nI_pos (by omega)), if_neg (show ¬ (4096 : Int32) ≤ nI r from nI_ge (b := 4096) (by omega) (by decide)), if_neg (nI_pos (by omega)), if_pos (show nI n < 4096 from nI_lt (b := 4096) hn (by decide)), show ll_Lik_isSameSeen_26 F F a0 (nI r) (nI n) 0 m1 = _ from ey, o_b_some, yy, if_neg (by decide), fsL_eq lkR_E (by omega) g2 (hT.1 _ _ g1).2.2]
    exact ⟨_, T, rfl, by omega, ⟨hT.old g2 rl, hp1, hs1⟩, fr1⟩
theorem c_forget {F a0 : Nat} : ∀ (d i N : Nat) (m : aM), i + d = 8192 → d < N → ∃ m2, ll_Lik_forget_2 F N a0 (nI i) m = some (0, m2) ∧ (∀ p, i ≤ p → p < 8192 → m2 (a0 + 1) p = -1) ∧ Fr (fun b j => b = a0 + 1 ∧ i ≤ j) m m2
  | 0, i, N, m, hd, hN => by
    obtain ⟨N, rfl⟩ : ∃ k, N = k + 1 := ⟨N - 1, by omega⟩
    obtain rfl : i = 8192 := by omega
    exact ⟨m, rfl, fun p h1 h2 => by omega, Fr.rf⟩
  | d + 1, i, N, m, hd, hN => by
    obtain ⟨N, rfl⟩ : ∃ k, N = k + 1 := ⟨N - 1, by omega⟩
    obtain ⟨m2, e, v, f⟩ := c_forget (F := F) (a0 := a0) d (i + 1) N (a_st m (a0 + 1) i (-1)) (by omega) (by omega)
    refine ⟨m2, Eq.trans ?_ e, fun p h1 h2 => ?_, Fr.sto (f.mono (fun b j hb => by omega)) (by omega)⟩
    · show lb_Lik_forget_2 F (ll_Lik_forget_2 F N) a0 (nI i) m = _
      unfold lb_Lik_forget_2
      rw [if_neg (show ¬ (8192 : Int32) ≤ nI i from nI_ge (b := 8192) (by omega) (by decide)), inb_nI (show i < 8192 by omega) (by decide), o_gd_t, o_let_eq, nI_clamp (by omega), show nI i + 1 = nI (i + 1) from nI_add i 1]
    · by_cases c : p = i
      · rw [c, f _ _ (by omega), a_st_self]
      · exact v p (by omega) h2
