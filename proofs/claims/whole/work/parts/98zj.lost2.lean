/-! CALLS: lost -/
noncomputable def bfn (m0 : aM) (st : lS) (r n l : Nat) : Bool := @decide (¬ st.2.1 l = true ∧ ¬ bxr m0 r l = bxr m0 n l) (Classical.propDecidable _)
theorem bfn_t {m0 : aM} {st : lS} {r n l : Nat} : bfn m0 st r n l = true ↔ ¬ st.2.1 l = true ∧ ¬ bxr m0 r l = bxr m0 n l := by
  unfold bfn
  exact @decide_eq_true_iff _ (Classical.propDecidable _)
noncomputable def loF (m0 : aM) (st : lS) : Nat → Nat → Int32 → Int32
  | 0, _, x => x
  | d + 1, n, x => loF m0 st d (n + 1) (bL (bfn m0 st (fsL (lkR m0 st) n) n) 4 0 x)
theorem bL_z {f : Nat → Bool} {l : Nat} {x : Int32} : bL f 0 l x = x := rfl
theorem bL_s {f : Nat → Bool} {d l : Nat} {x : Int32} : bL f (d + 1) l x = bL f d (l + 1) (if f l = true then x ||| ((1 : Int32) <<< (nI l &&& 31)) else x) := rfl
theorem c_lo75 {F a0 r n : Nat} {st : lS} {m0 m : aM} {x1 x3 : Int32} {r34 : Nat → Int32 → Int32 → Int32 → aM → Option (Int32 × aM)} (hL : LC m st) (h27 : ∀ j, j < 4 → m 27 j = bxr m0 r j) (h24 : ∀ j, j < 4 → m 24 j = bxr m0 n j) (d : Nat) : ∀ (l N : Nat) (x2 : Int32), l + d = 4 → d < N → ll_Box_lostLetters_75 F r34 N a0 x1 x2 x3 (nI l) m = r34 a0 x1 (bL (bfn m0 st r n) d l x2) (x3 + 1) m := by
  induction d with
  | zero =>
    intro l N x2 hd hN
    obtain ⟨N, rfl⟩ : ∃ k, N = k + 1 := ⟨N - 1, by omega⟩
    obtain rfl : l = 4 := by omega
    rw [bL_z, show ll_Box_lostLetters_75 F r34 (N + 1) a0 x1 x2 x3 (nI 4) m = lb_Box_lostLetters_75 F r34 (ll_Box_lostLetters_75 F r34 N) a0 x1 x2 x3 (nI 4) m from rfl]
    unfold lb_Box_lostLetters_75
    rw [if_pos (show (4 : Int32) ≤ nI 4 by decide)]
  | succ d ih =>
    intro l N x2 hd hN
    obtain ⟨N, rfl⟩ : ∃ k, N = k + 1 := ⟨N - 1, by omega⟩
    have l4 : l < 4 := by omega
    obtain ⟨u, ds⟩ := hL.1
    rw [bL_s, ← ih (l + 1) N _ (by omega) (by omega), show ll_Box_lostLetters_75 F r34 (N + 1) a0 x1 x2 x3 (nI l) m = lb_Box_lostLetters_75 F r34 (ll_Box_lostLetters_75 F r34 N) a0 x1 x2 x3 (nI l) m from rfl]
    unfold lb_Box_lostLetters_75 b_Box_lostLetters_118 b_Box_lostLetters_119
    simp only [if_neg (show ¬ (4 : Int32) ≤ nI l from nI_ge (b := 4) l4 (by decide)), c_isKept ds l4, o_b_some, inb_nI l4 (by decide), o_gd_t, o_let_eq, nI_clamp (show l < 2 ^ 31 by omega), nI_1, h27 l l4, h24 l l4, Int32.or_zero]
    by_cases c : st.2.1 l = true
    · rw [if_pos c, if_neg (by decide), if_neg (fun z => (bfn_t.mp z).1 c)]
    · rw [if_neg c, if_pos rfl]
      by_cases e : bxr m0 r l = bxr m0 n l
      · rw [if_pos e, if_neg (fun z => (bfn_t.mp z).2 e)]
      · rw [if_neg e, if_pos (bfn_t.mpr ⟨c, e⟩)]
def fLo (a0 : Nat) : Nat → Nat → Prop := fun b j => fBx b j ∨ b = a0 + 1 ∨ b = a0 + 2
theorem LT.fr {m0 m m' : aM} {st : lS} {a0 n : Nat} {T : Nat → Option Nat} (h : LT m0 st a0 n T m) (f : ∀ b j, a0 ≤ b → m' b j = m b j) : LT m0 st a0 n T m' := ⟨h.1, fun p hp => by rw [f _ _ (by omega)]; exact h.2.1 p hp, fun r i hr hi => by rw [f _ _ (by omega)]; exact h.2.2 r i hr hi⟩
theorem c_lost_l {F a0 : Nat} {st : lS} {m0 : aM} (hB : iB m0) (hF : 20000 ≤ F) (ha : 8692 ≤ a0) (d : Nat) : ∀ (n N : Nat) (x : Int32) (m : aM) (T : Nat → Option Nat), n + d = Pd (wd m0) 3 → d < N → LC m st → (∀ i, i < 4 → m 22 i = m0 22 i ∧ m 23 i = m0 23 i) → LT m0 st a0 n T m → ∃ m' , ll_Box_lostLetters_34 F N a0 (nI (Pd (wd m0) 3)) x (nI n) m = some (loF m0 st d n x, m') ∧ Fr (fLo a0) m m' := by
  have P := Pd_8 (w := wd m0) (fun j hj => ⟨(hB.wx hj).1, (hB.wx hj).2.1⟩)
  induction d with
  | zero =>
    intro n N x m T hd hN hL hm hT
    obtain ⟨N, rfl⟩ : ∃ k, N = k + 1 := ⟨N - 1, by omega⟩
    refine ⟨m, ?_, Fr.rf⟩
    show lb_Box_lostLetters_34 F (ll_Box_lostLetters_34 F N) a0 (nI (Pd (wd m0) 3)) x (nI n) m = _
    unfold lb_Box_lostLetters_34
    rw [if_pos (nI_le (by omega) (by omega))]
    rfl
  | succ d ih =>
    intro n N x m T hd hN hL hm hT
    obtain ⟨N, rfl⟩ : ∃ k, N = k + 1 := ⟨N - 1, by omega⟩
    obtain ⟨m1, e1, v1, f1⟩ := c_see (F := F) (n := n) hB hL (by omega) hm (by omega)
    have hT1 : LT m0 st a0 n T m1 := hT.fr (fun b j hb => f1 b j (by unfold fBx; omega))
    obtain ⟨m2, T2, e2, r2, hT2, f2⟩ := c_firstLike (F := F) (n := n) hF ha (by omega) hT1 (fun j hj => (v1 j hj).2.1) (fun j hj => (v1 j hj).2.2)
    have hm1 : ∀ i, i < 4 → m1 22 i = m0 22 i ∧ m1 23 i = m0 23 i := fun i hi => by rw [f1 _ _ (by unfold fBx; omega), f1 _ _ (by unfold fBx; omega)]; exact hm i hi
    have hm2 : ∀ i, i < 4 → m2 22 i = m0 22 i ∧ m2 23 i = m0 23 i := fun i hi => by rw [f2 _ _ (by omega) (by omega), f2 _ _ (by omega) (by omega)]; exact hm1 i hi
    obtain ⟨m3, e3, v3, f3⟩ := c_fill (F := F) (a := 27) (n := fsL (lkR m0 st) n) (m := m2) hB (by decide) (by omega) hm2 (by omega)
    have hL3 : LC m3 st := hL.fr (fun b j hb => by unfold fL at hb; rw [f3 b j (by omega), f2 b j (by omega) (by omega), f1 b j (by unfold fBx; omega)])
    have e4 := c_lo75 (F := F) (a0 := a0) (x1 := nI (Pd (wd m0) 3)) (x3 := nI n) (r34 := ll_Box_lostLetters_34 F N) (n := n) (m0 := m0) hL3 v3 (fun j hj => by rw [f3 _ _ (by omega), f2 _ _ (by omega) (by omega)]; exact (v1 j hj).1) 4 0 F x (by omega) (by omega)
    obtain ⟨m4, e5, f5⟩ := ih (n + 1) N (bL (bfn m0 st (fsL (lkR m0 st) n) n) 4 0 x) m3 T2 (by omega) (by omega) hL3 (fun i hi => by rw [f3 _ _ (by omega), f3 _ _ (by omega)]; exact hm2 i hi) (hT2.fr (fun b j hb => f3 b j (by omega)))
    refine ⟨m4, ?_, Fr.tr (P := fLo a0) (m1 := m3) (fun b j hb => ?_) f5⟩
    · show lb_Box_lostLetters_34 F (ll_Box_lostLetters_34 F N) a0 (nI (Pd (wd m0) 3)) x (nI n) m = _
      unfold lb_Box_lostLetters_34
      rw [if_neg (show ¬ nI (Pd (wd m0) 3) ≤ nI n from nI_ge (by omega) (by omega)), e1, o_b2_some, e2, o_b2_some, e3, o_b2_some, show (0 : Int32) = nI 0 from rfl, e4, show nI n + 1 = nI (n + 1) from nI_add n 1, e5]
      rfl
    · have h1 : ¬ fBx b j := fun z => hb (Or.inl z)
      rw [f3 b j (by unfold fBx at h1; omega), f2 b j (fun z => hb (Or.inr (Or.inl z))) (fun z => hb (Or.inr (Or.inr z))), f1 b j h1]
/-! the reference's table -/
def hM1 (v s k : Int32) : Int32 := (31 * ((31 * v) + s)) + k
def mxM (x y : Nat → Int32) : Nat → Nat → Int32 → Int32
  | 0, _, v => v
  | d + 1, i, v => mxM x y d (i + 1) (hM1 v (x i) (y i))
theorem mxM_z {x y : Nat → Int32} {i : Nat} {v : Int32} : mxM x y 0 i v = v := rfl
theorem mxM_s {x y : Nat → Int32} {d i : Nat} {v : Int32} : mxM x y (d + 1) i v = mxM x y d (i + 1) (hM1 v (x i) (y i)) := rfl
theorem mxM_cg {x y x' y' : Nat → Int32} : ∀ (d i : Nat) (v : Int32), (∀ j, j < i + d → x j = x' j ∧ y j = y' j) → mxM x y d i v = mxM x' y' d i v
  | 0, i, v, _ => by rw [mxM_z, mxM_z]
  | d + 1, i, v, h => by
    rw [mxM_s, mxM_s, (h i (by omega)).1, (h i (by omega)).2]
    exact mxM_cg d (i + 1) _ (fun j hj => h j (by omega))
def fnM (v : Int32) : Int32 := v ^^^ ((v : Int32).toUInt32 >>> ((15 : Int32).toUInt32 &&& Int32.toUInt32 31)).toInt32
theorem m_gr5 {F : Nat} {m : aM} (d : Nat) : ∀ (i N : Nat) (v : Int32), i + d = 4 → d < N → ll_Mod_groupOf_5 F N v (nI i) m = ll_Mod_groupOf_49 F F (fnM (mxM (m 251) (m 256) d i v) &&& 8191) m := by
  induction d with
  | zero =>
    intro i N v hd hN
    obtain ⟨N, rfl⟩ : ∃ k, N = k + 1 := ⟨N - 1, by omega⟩
    obtain rfl : i = 4 := by omega
    rw [mxM_z, show ll_Mod_groupOf_5 F (N + 1) v (nI 4) m = lb_Mod_groupOf_5 F (ll_Mod_groupOf_5 F N) v (nI 4) m from rfl]
    unfold lb_Mod_groupOf_5
    rw [if_pos (show (4 : Int32) ≤ nI 4 by decide), o_let_eq, fnM]
  | succ d ih =>
    intro i N v hd hN
    obtain ⟨N, rfl⟩ : ∃ k, N = k + 1 := ⟨N - 1, by omega⟩
    rw [mxM_s, ← ih (i + 1) N _ (by omega) (by omega), show ll_Mod_groupOf_5 F (N + 1) v (nI i) m = lb_Mod_groupOf_5 F (ll_Mod_groupOf_5 F N) v (nI i) m from rfl]
    unfold lb_Mod_groupOf_5
    simp only [if_neg (show ¬ (4 : Int32) ≤ nI i from nI_ge (b := 4) (by omega) (by decide)), inb_nI (show i < 4 by omega) (by decide), o_gd_t, o_let_eq, nI_clamp (show i < 2 ^ 31 by omega), nI_1, hM1]
noncomputable def hM (m0 : aM) (st : lS) (n : Nat) : Nat := hz13 (fnM (mxM (fun j => sN st j (bxr m0 n)) (fun j => sK st j (bxr m0 n)) 4 0 17))
theorem hM_lk {m0 : aM} {st : lS} (a b : Nat) (h : lkR m0 st a b) : hM m0 st a = hM m0 st b := by
  unfold hM
  rw [mxM_cg (x := fun j => sN st j (bxr m0 a)) (y := fun j => sK st j (bxr m0 a)) (x' := fun j => sN st j (bxr m0 b)) (y' := fun j => sK st j (bxr m0 b)) 4 0 17 (fun j hj => h j (by omega))]
/-- what the reference's groups hold after n rows -/
def RT (m0 : aM) (st : lS) (n : Nat) (T : Nat → Option Nat) (m : aM) : Prop := HT (lkR m0 st) (hM m0 st) n T ∧ (∀ p, p < 8192 → m 8451 p = if T p = none then 0 else 1) ∧ ∀ p r i, T p = some r → i < 4 → m (259 + p) i = sN st i (bxr m0 r) ∧ m (259 + p) (i + 4) = bxr m0 r i
theorem m_ofG {F p : Nat} {m : aM} {st : lS} (hL : ML m st) (hp : p < 8192) : ∀ (d i N : Nat), i + d = 4 → d < N → ∃ y, ll_Mod_isOfGroup_2 F N (nI p) (nI i) m = some y ∧ (y = 0 ∨ y = 1) ∧ (y = 1 ↔ ∀ j, i ≤ j → j < 4 → m (259 + p) j = m 251 j ∧ (st.2.1 j = true → m (259 + p) (j + 4) = m 256 j))
  | 0, i, N, hd, hN => by
    obtain ⟨N, rfl⟩ : ∃ k, N = k + 1 := ⟨N - 1, by omega⟩
    obtain rfl : i = 4 := by omega
    exact ⟨1, rfl, Or.inr rfl, ⟨fun _ j h1 h2 => by omega, fun _ => rfl⟩⟩
  | d + 1, i, N, hd, hN => by
    obtain ⟨N, rfl⟩ : ∃ k, N = k + 1 := ⟨N - 1, by omega⟩
    have i4 : i < 4 := by omega
    obtain ⟨y, e, y1, y2⟩ := m_ofG (F := F) hL hp d (i + 1) N (by omega) (by omega)
    rw [show ll_Mod_isOfGroup_2 F (N + 1) (nI p) (nI i) m = lb_Mod_isOfGroup_2 F (ll_Mod_isOfGroup_2 F N) (nI p) (nI i) m from rfl]
    unfold lb_Mod_isOfGroup_2 b_Mod_isOfGroup_53
    simp only [if_neg (show ¬ (4 : Int32) ≤ nI i from nI_ge (b := 4) i4 (by decide)), inb_nI hp (by decide), inb_nI (show i < 9 by omega) (by decide), inb_nI i4 (by decide), o_gd_t, o_let_eq, nI_clamp (show i < 2 ^ 31 by omega), nI_clamp (show p < 2 ^ 31 by omega), nI_1, m_isKept hL i4, o_b_some, show nI i + 4 = nI (i + 4) from nI_add i 4, inb_nI (show i + 4 < 9 by omega) (by decide), nI_clamp (show i + 4 < 2 ^ 31 by omega), e]
    have up : (m (259 + p) i = m 251 i ∧ (st.2.1 i = true → m (259 + p) (i + 4) = m 256 i)) → ∃ y', some y = some y' ∧ (y' = 0 ∨ y' = 1) ∧ (y' = 1 ↔ ∀ j, i ≤ j → j < 4 → m (259 + p) j = m 251 j ∧ (st.2.1 j = true → m (259 + p) (j + 4) = m 256 j)) := fun q => ⟨y, rfl, y1, y2.trans ⟨fun z j h1 h2 => by
      by_cases c : j = i
      · rw [c]; exact q
      · exact z j (by omega) h2, fun z j h1 h2 => z j (by omega) h2⟩⟩
    have dn : ¬ (m (259 + p) i = m 251 i ∧ (st.2.1 i = true → m (259 + p) (i + 4) = m 256 i)) → ∃ y', some (0 : Int32) = some y' ∧ (y' = 0 ∨ y' = 1) ∧ (y' = 1 ↔ ∀ j, i ≤ j → j < 4 → m (259 + p) j = m 251 j ∧ (st.2.1 j = true → m (259 + p) (j + 4) = m 256 j)) := fun q => ⟨0, rfl, Or.inl rfl, ⟨fun z => absurd z (by decide), fun z => absurd (z i (by omega) i4) q⟩⟩
    by_cases c : m (259 + p) i = m 251 i
    · rw [if_pos c]
      by_cases k : st.2.1 i = true
      · rw [if_pos k, if_neg (by decide)]
        by_cases g : m (259 + p) (i + 4) = m 256 i
        · rw [if_pos g]
          exact up ⟨c, fun _ => g⟩
        · rw [if_neg g]
          exact dn (fun z => g (z.2 k))
      · rw [if_neg k, if_pos rfl]
        exact up ⟨c, fun z => absurd z k⟩
    · rw [if_neg c]
      exact dn (fun z => c z.1)
theorem m_group {F n : Nat} {m m0 : aM} {st : lS} {T : Nat → Option Nat} (hF : 20000 ≤ F) (hn : n < 4096) (hL : ML m st) (h : RT m0 st n T m) (h51 : ∀ j, j < 4 → m 251 j = sN st j (bxr m0 n)) (h56 : ∀ j, j < 4 → m 256 j = sK st j (bxr m0 n)) : ∃ g, f_Mod_groupOf F m = some (nI g) ∧ g < 8192 ∧ ((T g = none ∧ fstL (lkR m0 st) n ∧ HT (lkR m0 st) (hM m0 st) (n + 1) (updD T g n)) ∨ ∃ r, T g = some r ∧ r < n ∧ lkR m0 st r n ∧ fstL (lkR m0 st) r) := by
  obtain ⟨hT, hp, hs⟩ := h
  have lkI : ∀ p r, T p = some r → ((∀ j, 0 ≤ j → j < 4 → m (259 + p) j = m 251 j ∧ (st.2.1 j = true → m (259 + p) (j + 4) = m 256 j)) ↔ lkR m0 st r n) := fun p r e => by
    constructor
    · intro z j hj
      obtain ⟨a1, a2⟩ := z j (by omega) hj
      obtain ⟨b1, b2⟩ := hs p r j e hj
      rw [b1, h51 j hj] at a1
      rw [b2, h56 j hj] at a2
      refine ⟨a1, ?_⟩
      unfold sK at a2 ⊢
      by_cases c : st.2.1 j = true
      · rw [if_pos c]
        exact a2 c
      · rw [if_neg c, if_neg c]
    · intro z j _ hj
      obtain ⟨b1, b2⟩ := hs p r j e hj
      rw [b1, h51 j hj, b2, h56 j hj]
      refine ⟨(z j hj).1, fun c => ?_⟩
      rw [← (z j hj).2]
      unfold sK
      rw [if_pos c]
  have pl : f_Mod_groupOf F m = ll_Mod_groupOf_49 F F (nI (hM m0 st n)) m := by
    unfold f_Mod_groupOf
    rw [show ll_Mod_groupOf_5 F F 17 0 m = _ from m_gr5 (F := F) (m := m) 4 0 F 17 (by omega) (by omega), hz13_e]
    unfold hM
    rw [mxM_cg (x := m 251) (y := m 256) (x' := fun j => sN st j (bxr m0 n)) (y' := fun j => sK st j (bxr m0 n)) 4 0 17 (fun j hj => ⟨h51 j (by omega), h56 j (by omega)⟩)]
  obtain ⟨t, t8, occ, fin⟩ := hT.probe lkR_E hM_lk (show n < 8192 by omega)
  have hl8 : hM m0 st n < 8192 := hz13_lt _
  have walk : ∀ (dd s N : Nat), s + dd = t → dd < N → ∃ N', ll_Mod_groupOf_49 F N (nI ((hM m0 st n + s) % 8192)) m = lb_Mod_groupOf_49 F (ll_Mod_groupOf_49 F N') (nI ((hM m0 st n + t) % 8192)) m := fun dd => by
    induction dd with
    | zero =>
      intro s N hd hN
      obtain ⟨N, rfl⟩ : ∃ k, N = k + 1 := ⟨N - 1, by omega⟩
      obtain rfl : s = t := by omega
      exact ⟨N, rfl⟩
    | succ dd ih =>
      intro s N hd hN
      obtain ⟨N, rfl⟩ : ∃ k, N = k + 1 := ⟨N - 1, by omega⟩
      obtain ⟨N', e'⟩ := ih (s + 1) N (by omega) (by omega)
      refine ⟨N', Eq.trans ?_ e'⟩
      obtain ⟨r, r1, r2⟩ := occ s (by omega)
      have m8 : (hM m0 st n + s) % 8192 < 8192 := Nat.mod_lt _ (by decide)
      obtain ⟨y, ey, y1, y2⟩ := m_ofG (F := F) hL m8 4 0 F (by omega) (by omega)
      show lb_Mod_groupOf_49 F (ll_Mod_groupOf_49 F N) (nI ((hM m0 st n + s) % 8192)) m = _
      unfold lb_Mod_groupOf_49 f_Mod_isOfGroup
      have y0 : y = 0 := by
        rcases y1 with y1 | y1
        · exact y1
        · exact absurd ((lkI _ r r1).mp (y2.mp y1)) r2
      rw [inb_nI m8 (by decide), o_gd_t, nI_clamp (by omega), hp _ m8, r1, if_neg (show ¬ (some r : Option Nat) = none by simp), if_neg (by decide), show ll_Mod_isOfGroup_2 F F (nI ((hM m0 st n + s) % 8192)) 0 m = _ from ey, o_b_some, if_pos y0, show nI ((hM m0 st n + s) % 8192) + 1 = nI ((hM m0 st n + s) % 8192 + 1) from nI_add _ 1, and13n (by omega), show ((hM m0 st n + s) % 8192 + 1) % 8192 = (hM m0 st n + (s + 1)) % 8192 by omega]
  obtain ⟨N', e'⟩ := walk t 0 F (by omega) (by omega)
  rw [show (hM m0 st n + 0) % 8192 = hM m0 st n by omega] at e'
  have m8 : (hM m0 st n + t) % 8192 < 8192 := Nat.mod_lt _ (by decide)
  refine ⟨(hM m0 st n + t) % 8192, ?_, m8, ?_⟩
  · rw [pl, e']
    unfold lb_Mod_groupOf_49 f_Mod_isOfGroup
    rw [inb_nI m8 (by decide), o_gd_t, nI_clamp (by omega), hp _ m8]
    rcases fin with ⟨g1, g2⟩ | ⟨r, g1, g2⟩
    · rw [g1, if_pos rfl, if_pos rfl]
    · obtain ⟨y, ey, y1, y2⟩ := m_ofG (F := F) hL m8 4 0 F (by omega) (by omega)
      rw [g1, if_neg (show ¬ (some r : Option Nat) = none by simp), if_neg (by decide), show ll_Mod_isOfGroup_2 F F (nI ((hM m0 st n + t) % 8192)) 0 m = _ from ey, o_b_some, y2.mpr ((lkI _ r g1).mpr g2), if_neg (by decide)]
  · rcases fin with ⟨g1, g2⟩ | ⟨r, g1, g2⟩
    · exact Or.inl ⟨g1, g2, hT.new t8 occ g1 g2⟩
    · have := hT.1 _ _ g1
      exact Or.inr ⟨r, g1, this.2.1, g2, this.2.2⟩
