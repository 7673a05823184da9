/-! WAYS: the class works all sets -/
section
variable {a0 c p w : Nat} {m0 : aM}
theorem mb_no {m : aM} {n b j : Nat} (h : ¬ (j = ix c n ∧ a0 + 1 ≤ b ∧ b ≤ a0 + 4)) : mb m0 m a0 c p n b j = m b j := by
  unfold mb
  rw [a_st_no (by omega), a_st_no (by omega), a_st_no (by omega), a_st_no (by omega)]
theorem mb_1 {m : aM} {n : Nat} : mb m0 m a0 c p n (a0 + 1) (ix c n) = if stB m0 c p n then 1 else 0 := by
  unfold mb
  rw [a_st_no (by omega), a_st_no (by omega), a_st_no (by omega), a_st_self]
theorem mb_v {m : aM} {d : D3} {n : Nat} (h : ini m0 c p d n) : ∀ i : Fin 3, mb m0 m a0 c p n (a0 + 2 + i.val) (ix c n) = enC i (d i n) := by
  have g1 : ∀ b, gG m0 c p b n ↔ stB m0 c p n = true ∧ n / 32 = gl b c := fun b => ⟨fun z => ⟨z.2, z.1⟩, fun z => ⟨z.2, z.1⟩⟩
  refine fin3 ?_ ?_ ?_
  · show mb m0 m a0 c p n (a0 + 2) (ix c n) = enW (d 0 n)
    unfold mb wv
    rw [a_st_no (by omega), a_st_no (by omega), a_st_self]
    by_cases z : stB m0 c p n = true ∧ n / 32 = p6 c - 1
    · rw [if_pos z, (h 0).1 ((g1 true).mpr z)]
      rfl
    · rw [if_neg z, (h 0).2 (fun y => z ((g1 true).mp y))]
      rfl
  · show mb m0 m a0 c p n (a0 + 3) (ix c n) = enW (d 1 n)
    unfold mb wv
    rw [a_st_no (by omega), a_st_self]
    by_cases z : stB m0 c p n = true ∧ n / 32 = p6 c - 1
    · rw [if_pos z, (h 1).1 ((g1 true).mpr z)]
      rfl
    · rw [if_neg z, (h 1).2 (fun y => z ((g1 true).mp y))]
      rfl
  · show mb m0 m a0 c p n (a0 + 4) (ix c n) = enB (d 2 n)
    unfold mb bv
    rw [a_st_self]
    by_cases z : stB m0 c p n = true ∧ n / 32 = 0
    · rw [if_pos z, (h 2).1 ((g1 false).mpr z)]
      rfl
    · rw [if_neg z, (h 2).2 (fun y => z ((g1 false).mp y))]
      rfl
/-- the first nd nodes of set w are laid -/
def BI (m0 : aM) (a0 c p w nd : Nat) (m : aM) (d : D3) : Prop := fU a0 m0 m ∧ eD m a0 c p (fun n => w < n % 32 ∨ n % 32 = w ∧ n / 32 < nd) d ∧ SN m0 c p d ∧ fin3W m0 c p (w + 1) d ∧ (∀ n, n % 32 < w ∨ n % 32 = w ∧ nd ≤ n / 32 → ini m0 c p d n) ∧ (∀ i n, n % 32 = w → n / 32 < nd → GC m0 c p i n → d i n = some 0) ∧ (∀ i n s x u, n % 32 = w → n / 32 < nd → 6 ≤ s → tcG m0 c p n s = some x → d i x = some u → ∃ v, d i n = some v ∧ v ≤ u + coC m0 i n s) ∧ ∀ n, n % 32 = w → n / 32 < nd → n / 32 < p6 c → m (a0 + 1) (ix c n) = if stB m0 c p n then 1 else 0
theorem BI.s (hk : bK m0 a0 c p w) {nd n : Nat} {m m1 : aM} {d d1 : D3} (hb : BI m0 a0 c p w nd m d) (hn : n / 32 = nd) (hw : n % 32 = w) (hc : nd < p6 c) (f : fS a0 (mb m0 m a0 c p n) m1) (he : eD m1 a0 c p (fun n => w < n % 32 ∨ n % 32 = w ∧ n / 32 < nd + 1) d1) (hQ : SN m0 c p d1) (le : ∀ i, dle (d1 i) (d i)) (at1 : ∀ i s' x u, 6 ≤ s' → tcG m0 c p n s' = some x → d i x = some u → ∃ v, d1 i n = some v ∧ v ≤ u + coC m0 i n s') (ne : ∀ i k, k ≠ n → d1 i k = d i k) : BI m0 a0 c p w (nd + 1) m1 d1 := by
  obtain ⟨b1, b2, b3, b4, b5, b6, b7, b8⟩ := hb
  have ok := stB_ok hk.1
  have xn : ∀ {k s x}, k % 32 = w → 6 ≤ s → tcG m0 c p k s = some x → x ≠ n := fun {k s x} h1 h2 h3 z => by
    have := ((toG_f ok h3).2.2.2.2.2.2.1 h2).1
    rw [z] at this
    omega
  refine ⟨fun b j hb => ?_, he, hQ, fun i => (b4 i).le (le i), fun k hk i => ?_, fun i k h1 h2 h3 => ?_, fun i k s x u h1 h2 h3 h4 h5 => ?_, fun k h1 h2 h3 => ?_⟩
  · rw [f b j (by omega), mb_no (by omega)]
    exact b1 b j hb
  · have : k ≠ n := fun z => by rw [z] at hk; omega
    rw [ne i k this]
    exact b5 k (by omega) i
  · by_cases z : k = n
    · obtain ⟨u, u1, u2⟩ := le i k 0 ((b5 k (by rw [z]; omega) i).1 h3)
      rw [u1]
      congr 1
      omega
    · rw [ne i k z]
      exact b6 i k h1 (by omega) h3
  · rw [ne i x (xn h1 h3 h4)] at h5
    by_cases z : k = n
    · subst z
      exact at1 i s x u h3 h4 h5
    · rw [ne i k z]
      exact b7 i k s x u h1 (by omega) h3 h4 h5
  · rw [f _ _ (by omega)]
    by_cases z : k = n
    · rw [z, mb_1]
    · rw [mb_no (fun y => z (ix_inj h3 (by rw [hn]; exact hc) y.1))]
      exact b8 k h1 (by omega) h3
theorem c_bs30 (hk : bK m0 a0 c p w) {F : Nat} (hF : 20000 ≤ F) : ∀ (t nd N : Nat) (m : aM) (d : D3), nd + t = p6 c → t < N → BI m0 a0 c p w nd m d → ∃ m1 d1, ll_Way_beginSet_30 F N a0 (nI w) (nI nd) m = some (0, m1) ∧ BI m0 a0 c p w (p6 c) m1 d1 ∧ (∀ i k, k % 32 ≠ w → d1 i k = d i k)
  | 0, nd, N, m, d, ht, hN, hb => by
    obtain ⟨N, rfl⟩ : ∃ q, N = q + 1 := ⟨N - 1, by omega⟩
    obtain rfl : nd = p6 c := by omega
    refine ⟨m, d, ?_, hb, fun _ _ _ => rfl⟩
    show lb_Way_beginSet_30 F (ll_Way_beginSet_30 F N) a0 (nI w) (nI (p6 c)) m = _
    unfold lb_Way_beginSet_30
    rw [show m a0 7 = nI (p6 c) by rw [hb.1 _ _ (by omega)]; exact hk.2.2.1, if_pos (nI_le (Nat.le_refl _) (by have := (p6_b (a := c)).2; omega))]
  | t + 1, nd, N, m, d, ht, hN, hb => by
    obtain ⟨N, rfl⟩ : ∃ q, N = q + 1 := ⟨N - 1, by omega⟩
    have w32 := hk.w32
    have pb := (p6_b (a := c)).2
    have e1 : (32 * nd + w) / 32 = nd := by omega
    have e2 : (32 * nd + w) % 32 = w := by omega
    have hc : nd < p6 c := by omega
    have ha := hk.2.1
    have st0 := c_bsn (n := 32 * nd + w) (r30 := ll_Way_beginSet_30 F N) hk hF hb.1 (by rw [e1]; exact hc) e2
    rw [e1] at st0
    have fr : ∀ b j, b < 8692 → mb m0 m a0 c p (32 * nd + w) b j = m0 b j := fun b j hb' => by
      rw [mb_no (by omega)]
      exact hb.1 b j (by omega)
    obtain ⟨g1, g2, g3⟩ := gr (c := c) (p := p) fr
    have he' : eD (mb m0 m a0 c p (32 * nd + w)) a0 c p (fun n => w < n % 32 ∨ n % 32 = w ∧ n / 32 < nd + 1) d := fun k h1 h2 h3 i => by
      by_cases z : k = 32 * nd + w
      · rw [z]
        exact mb_v (hb.2.2.2.2.1 _ (by omega)) i
      · rw [mb_no (fun y => z (ix_inj h1 (by rw [e1]; exact hc) y.1))]
        exact hb.2.1 k h1 h2 (by omega) i
    have un : ll_Way_beginSet_30 F (N + 1) a0 (nI w) (nI nd) m = lb_Way_beginSet_30 F (ll_Way_beginSet_30 F N) a0 (nI w) (nI nd) m := rfl
    rw [un, st0]
    by_cases hst : stB m0 c p (32 * nd + w) = true
    · rw [if_pos hst]
      obtain ⟨m1, d1, k1, k2, k3, k4, k5, k6, k7⟩ := c_bs158 (m0 := mb m0 m a0 c p (32 * nd + w)) (Pd := fun n => w < n % 32 ∨ n % 32 = w ∧ n / 32 < nd + 1) (n := 32 * nd + w) (F := F) (r30 := ll_Way_beginSet_30 F N) (hk.1.fr (fun b j hb' => fr b j (by omega))) ha (by rw [mb_no (by omega), hb.1 _ _ (by omega)]; exact hk.2.2.1) (by rw [e1]; exact hc) (by rw [e2]; exact hk.2.2.2.1) (by rw [g1]; exact hst) (fun k z => by omega) p 0 F (mb m0 m a0 c p (32 * nd + w)) d (by omega) (by have := hk.1.2.1; omega) (fun _ _ _ => rfl) he' ((SN.fr fr).mpr hb.2.2.1)
      rw [e1, e2] at k1
      rw [show (0 : Int32) = nI 0 from rfl, k1]
      have bi := BI.s hk hb e1 e2 hc k2 k3 ((SN.fr fr).mp k4) k5 (fun i s' x u h1 h2 h3 => by
        have := k6 i s' x u (by omega) (by unfold tcG; rw [g1]; exact h2) h3
        rw [g2] at this
        exact this) k7
      obtain ⟨m2, d2, q1, q2, q3⟩ := c_bs30 hk hF t (nd + 1) N m1 d1 (by omega) (by omega) bi
      exact ⟨m2, d2, q1, q2, fun i k z => by rw [q3 i k z, k7 i k (fun y => z (by rw [y]; exact e2))]⟩
    · rw [if_neg hst]
      have bi := BI.s hk hb e1 e2 hc (m1 := mb m0 m a0 c p (32 * nd + w)) (fun _ _ _ => rfl) he' hb.2.2.1 (fun i => dle.rf) (fun i s' x u h1 h2 h3 => absurd (toG_f (stB_ok hk.1) h2).2.2.1 hst) (fun _ _ _ => rfl)
      obtain ⟨m2, d2, q1, q2, q3⟩ := c_bs30 hk hF t (nd + 1) N _ d (by omega) (by omega) bi
      refine ⟨m2, d2, ?_, q2, q3⟩
      obtain ⟨F', rfl⟩ : ∃ q, F = q + 1 := ⟨F - 1, by omega⟩
      show lb_Way_beginSet_158 (F' + 1) _ (ll_Way_beginSet_158 (F' + 1) _ F') a0 (nI w) (nI nd) _ 0 0 _ = _
      unfold lb_Way_beginSet_158 b_Way_beginSet_220
      rw [if_pos rfl, show nI nd + 1 = nI (nd + 1) from nI_add nd 1]
      exact q1
theorem c_bs2 {w : Int32} (h0 : iPl m0 c p) (ha : 8692 ≤ a0) {F : Nat} (hF : 20000 ≤ F) : ∀ (t a N : Nat) (m : aM), a + t = 3 → t < N → (∀ b j, b < 8692 → m b j = m0 b j) → ∃ m1, ll_Way_beginSet_2 F N a0 w (nI a) m = ll_Way_beginSet_30 F F a0 w 0 m1 ∧ (∀ b j, ¬ (b = a0 + 6 ∧ a ≤ j) → m1 b j = m b j) ∧ ∀ a', a ≤ a' → a' < 3 → sgV m0 p w a' (m1 (a0 + 6) a')
  | 0, a, N, m, ht, hN, f => by
    obtain ⟨N, rfl⟩ : ∃ q, N = q + 1 := ⟨N - 1, by omega⟩
    refine ⟨m, ?_, fun _ _ _ => rfl, fun a' h1 h2 => by omega⟩
    show lb_Way_beginSet_2 F (ll_Way_beginSet_2 F N) a0 w (nI a) m = _
    unfold lb_Way_beginSet_2
    rw [if_pos (show (3 : Int32) ≤ nI a from nI_le (a := 3) (by omega) (by omega))]
  | t + 1, a, N, m, ht, hN, f => by
    obtain ⟨N, rfl⟩ : ∃ q, N = q + 1 := ⟨N - 1, by omega⟩
    have hp : iPl m c p := h0.fr (fun b j hb => f b j (by omega))
    obtain ⟨v, e, sv⟩ := c_sf (F := F) (w := w) hp (show a < 3 by omega) hF
    obtain ⟨m1, e1, f1, s1⟩ := c_bs2 (w := w) h0 ha hF t (a + 1) N (a_st m (a0 + 6) a v) (by omega) (by omega) (fun b j hb => by rw [a_st_no (by omega)]; exact f b j hb)
    refine ⟨m1, ?_, fun b j hb => ?_, fun a' h1 h2 => ?_⟩
    · refine Eq.trans ?_ e1
      show lb_Way_beginSet_2 F (ll_Way_beginSet_2 F N) a0 w (nI a) m = _
      unfold lb_Way_beginSet_2
      rw [if_neg (show ¬ (3 : Int32) ≤ nI a from nI_ge (b := 3) (by omega) (by decide)), e, o_b_some, inb_nI (show a < 3 by omega) (by decide), o_gd_t, o_let_eq, nI_clamp (by omega), show nI a + 1 = nI (a + 1) from nI_add a 1]
    · rw [f1 b j (by omega), a_st_no (by omega)]
    · by_cases z : a' = a
      · rw [z, f1 _ _ (by omega), a_st_self]
        exact fun n => (sv n).trans (not_congr ⟨fun y q hq => (okP_fr (fun j => f 31 j (by omega))).mp (y q hq), fun y q hq => (okP_fr (fun j => f 31 j (by omega))).mpr (y q hq)⟩)
      · exact s1 a' (by omega) h2
/-- what stands fast while all is worked -/
def wK (m0 : aM) (a0 c p : Nat) : Prop := iPl m0 c p ∧ 8692 ≤ a0 ∧ m0 a0 7 = nI (p6 c) ∧ ∀ n, n < p6 c → (m0 (a0 + 5) n = 0 ∨ m0 (a0 + 5) n = 1) ∧ (m0 (a0 + 5) n = 1 ↔ ∀ a b, a < 3 → b < 3 → pr33 m0 n a b ∧ pr34 m0 n a b)
abbrev fVw (a0 : Nat) (m1 m : aM) : Prop := ∀ b j, ¬ (a0 + 1 ≤ b ∧ b ≤ a0 + 4 ∨ b = a0 + 6) → m b j = m1 b j
theorem pr_fr {m m' : aM} {n a b : Nat} (f : ∀ b j, b < 8692 → m' b j = m b j) : (pr33 m' n a b ∧ pr34 m' n a b) ↔ (pr33 m n a b ∧ pr34 m n a b) := by
  unfold pr33 pr34
  rw [f 33 _ (by omega), f 34 _ (by omega)]
theorem c_begin (hk : wK m0 a0 c p) (hw : w < 2 ^ p) {F : Nat} (hF : 20000 ≤ F) {m : aM} {d : D3} (f : fVw a0 m0 m) (he : eD m a0 c p (fun n => w + 1 ≤ n % 32) d) (hQ : SN m0 c p d) (hf : fin3W m0 c p (w + 1) d) (hi : ∀ n, n % 32 < w + 1 → ini m0 c p d n) : ∃ m1 d1, f_Way_beginSet F a0 (nI w) m = some (0, m1) ∧ fVw a0 m0 m1 ∧ eD m1 a0 c p (fun n => w ≤ n % 32) d1 ∧ SN m0 c p d1 ∧ laid m0 c p w d1 ∧ (∀ n, n / 32 < p6 c → n % 32 = w → m1 (a0 + 1) (ix c n) = if stB m0 c p n then 1 else 0) ∧ (∀ i k, k % 32 ≠ w → d1 i k = d i k) := by
  obtain ⟨h0, ha, h7, hkp⟩ := hk
  obtain ⟨m1, e1, f1, s1⟩ := c_bs2 (w := nI w) (a0 := a0) h0 ha hF 3 0 F m (by omega) (by omega) (fun b j hb => f b j (by omega))
  have fr : ∀ b j, b < 8692 → m1 b j = m0 b j := fun b j hb => by rw [f1 b j (by omega)]; exact f b j (by omega)
  obtain ⟨g1, g2, g3⟩ := gr (c := c) (p := p) fr
  have bk : bK m1 a0 c p w := by
    refine ⟨h0.fr (fun b j hb => fr b j (by omega)), ha, ?_, hw, fun a h3 n => ?_, fun n hn => ?_⟩
    · rw [f1 _ _ (by omega), f _ _ (by omega)]
      exact h7
    · exact (s1 a (by omega) h3 n).trans (not_congr ⟨fun y q hq => (okP_fr (fun j => fr 31 j (by omega))).mpr (y q hq), fun y q hq => (okP_fr (fun j => fr 31 j (by omega))).mp (y q hq)⟩)
    · rw [f1 _ _ (by omega), f _ _ (by omega)]
      obtain ⟨k1, k2⟩ := hkp n hn
      exact ⟨k1, k2.trans ⟨fun z a b h1 h2 => (pr_fr fr).mpr (z a b h1 h2), fun z a b h1 h2 => (pr_fr fr).mp (z a b h1 h2)⟩⟩
  have ini' : ∀ n, ini m1 c p d n ↔ ini m0 c p d n := fun n => by
    unfold ini
    rw [g3]
  have b0 : BI m1 a0 c p w 0 m1 d := by
    refine ⟨fun _ _ _ => rfl, fun n h1 h2 h3 i => ?_, (SN.fr fr).mpr hQ, (fin3W.fr fr).mpr hf, fun n hn => (ini' n).mpr (hi n (by omega)), fun i n h1 h2 => by omega, fun i n s x u h1 h2 => by omega, fun n h1 h2 => by omega⟩
    rw [f1 _ _ (by have := i.isLt; omega)]
    exact he n h1 h2 (by omega) i
  obtain ⟨m2, d2, q1, ⟨b1, b2, b3, b4, b5, b6, b7, b8⟩, q3⟩ := c_bs30 bk hF (p6 c) 0 F m1 d (by omega) (by have := (p6_b (a := c)).2; omega) b0
  have nd : ∀ {i n}, GC m1 c p i n → n / 32 < p6 c := fun {i n} g => (stB_iff.mp (GC_st i n g)).1
  refine ⟨m2, d2, (show ll_Way_beginSet_2 F F a0 (nI w) 0 m = _ from e1).trans q1, fun b j hb => ?_, fun n h1 h2 h3 i => b2 n h1 h2 (by omega) i, (SN.fr fr).mp b3, (laid.fr fr).mp ⟨fun i n hn g => b6 i n hn (nd g) g, b4, fun i n s x u h1 h2 h3 h4 => ?_⟩, fun n h1 h2 => ?_, q3⟩
  · rw [b1 b j (by omega), f1 b j (by omega)]
    exact f b j hb
  · exact b7 i n s x u h1 (stB_iff.mp (toG_f (stB_ok bk.1) h3).2.2.1).1 h2 h3 h4
  · rw [b8 n h2 h1 h1, g1]
theorem c_ws88 (hk : wK m0 a0 c p) {F : Nat} (hF : 20000 ≤ F) : ∀ (t N : Nat) (m : aM) (d : D3), t ≤ 2 ^ p → t < N → fVw a0 m0 m → eD m a0 c p (fun n => t ≤ n % 32) d → SN m0 c p d → fin3W m0 c p t d → (∀ n, n % 32 < t → ini m0 c p d n) → ∃ m1 d1, ll_Way_workIfStale_88 F N a0 (nI t - 1) m = some (0, m1) ∧ fVw a0 m0 m1 ∧ eD m1 a0 c p (fun _ => True) d1 ∧ SN m0 c p d1 ∧ fin3W m0 c p 0 d1
  | 0, N, m, d, ht, hN, f, he, hQ, hf, hi => by
    obtain ⟨N, rfl⟩ : ∃ q, N = q + 1 := ⟨N - 1, by omega⟩
    refine ⟨m, d, ?_, f, fun n h1 h2 _ i => he n h1 h2 (by omega) i, hQ, hf⟩
    show lb_Way_workIfStale_88 F (ll_Way_workIfStale_88 F N) a0 (nI 0 - 1) m = _
    unfold lb_Way_workIfStale_88
    rw [if_pos (by decide)]
  | t + 1, N, m, d, ht, hN, f, he, hQ, hf, hi => by
    obtain ⟨N, rfl⟩ : ∃ q, N = q + 1 := ⟨N - 1, by omega⟩
    have t32 : t < 32 := by
      have : 2 ^ p ≤ 2 ^ 5 := Nat.pow_le_pow_right (by decide) hk.1.2.1
      omega
    have ha := hk.2.1
    obtain ⟨m1, d1, e1, f1, he1, hS1, hl1, sd1, ne1⟩ := c_begin (w := t) hk (by omega) hF f he hQ hf hi
    have fr : ∀ b j, b < 8692 → m1 b j = m0 b j := fun b j hb => f1 b j (by omega)
    obtain ⟨g1, g2, g3⟩ := gr (c := c) (p := p) fr
    have sk : stK m1 a0 c p t := ⟨hk.1.fr (fun b j hb => fr b j (by omega)), ha, by rw [f1 _ _ (by omega)]; exact hk.2.2.1, by omega, fun n h1 h2 => by rw [g1]; exact sd1 n h1 h2⟩
    obtain ⟨m2, d2, e2, f2, he2, hS2, hf2, ne2⟩ := c_settle sk hF (fun _ _ _ => rfl) he1 ((SN.fr fr).mpr hS1) ((laid.fr fr).mpr hl1)
    obtain ⟨m3, d3, e3, r3⟩ := c_ws88 hk hF t N m2 d2 (by omega) (by omega) (fun b j hb => by rw [f2 b j (by omega)]; exact f1 b j hb) he2 ((SN.fr fr).mp hS2) ((fin3W.fr fr).mp hf2) (fun n hn i => by
      rw [ne2 i n (by omega), ne1 i n (by omega)]
      exact hi n (by omega) i)
    refine ⟨m3, d3, ?_, r3⟩
    show lb_Way_workIfStale_88 F (ll_Way_workIfStale_88 F N) a0 (nI (t + 1) - 1) m = _
    unfold lb_Way_workIfStale_88
    rw [nI_pred, if_neg (nI_pos (by omega)), e1, o_b2_some, e2, o_b2_some]
    exact e3
theorem shl_p2 : ∀ p, p < 6 → ((1 : Int32) <<< (nI p &&& 31)) = nI (2 ^ p) := by decide +kernel
theorem c_ws45 (h0 : iPl m0 c p) (ha : 8692 ≤ a0) (h7 : m0 a0 7 = nI (p6 c)) {F : Nat} (hF : 20000 ≤ F) : ∀ (t n N : Nat) (m : aM), n + t = p6 c → t < N → (∀ b j, b ≠ a0 + 5 → m b j = m0 b j) → ∃ m1, ll_Way_workIfStale_45 F N a0 (nI n) m = ll_Way_workIfStale_88 F F a0 (nI (2 ^ p) - 1) m1 ∧ (∀ b j, ¬ (b = a0 + 5 ∧ n ≤ j) → m1 b j = m b j) ∧ ∀ k, n ≤ k → k < p6 c → (m1 (a0 + 5) k = 0 ∨ m1 (a0 + 5) k = 1) ∧ (m1 (a0 + 5) k = 1 ↔ ∀ a b, a < 3 → b < 3 → pr33 m0 k a b ∧ pr34 m0 k a b)
  | 0, n, N, m, ht, hN, f => by
    obtain ⟨N, rfl⟩ : ∃ q, N = q + 1 := ⟨N - 1, by omega⟩
    have pb := (p6_b (a := c)).2
    have q2 : 2 ^ p ≤ 2 ^ 5 := Nat.pow_le_pow_right (by decide) h0.2.1
    refine ⟨m, ?_, fun _ _ _ => rfl, fun k h1 h2 => by omega⟩
    show lb_Way_workIfStale_45 F (ll_Way_workIfStale_45 F N) a0 (nI n) m = _
    unfold lb_Way_workIfStale_45 f_Pla_manySets
    rw [show m a0 7 = nI (p6 c) by rw [f _ _ (by omega)]; exact h7, if_pos (nI_le (by omega) (by omega)), show m 29 6 = nI p by rw [f _ _ (by omega)]; exact h0.2.2.2.2.1, shl_p2 p (by have := h0.2.1; omega), o_let_eq, o_b_some, o_let_eq, if_neg (show ¬ (32 : Int32) < nI (2 ^ p) from nI_nlt (a := 32) (by omega) (by omega))]
  | t + 1, n, N, m, ht, hN, f => by
    obtain ⟨N, rfl⟩ : ∃ q, N = q + 1 := ⟨N - 1, by omega⟩
    have pb := (p6_b (a := c)).2
    obtain ⟨y, e, y1, y2⟩ := c_kp_l (F := F) (m := m) (n := n) (by omega) (by omega) 3 0 F (by omega) (by omega)
    obtain ⟨m1, e1, f1, s1⟩ := c_ws45 h0 ha h7 hF t (n + 1) N (a_st m (a0 + 5) n y) (by omega) (by omega) (fun b j hb => by rw [a_st_no (fun z => hb z.1)]; exact f b j hb)
    refine ⟨m1, ?_, fun b j hb => ?_, fun k h1 h2 => ?_⟩
    · refine Eq.trans ?_ e1
      show lb_Way_workIfStale_45 F (ll_Way_workIfStale_45 F N) a0 (nI n) m = _
      unfold lb_Way_workIfStale_45 f_Pla_keepsPairs
      rw [show m a0 7 = nI (p6 c) by rw [f _ _ (by omega)]; exact h7, if_neg (show ¬ nI (p6 c) ≤ nI n from nI_ge (by omega) (by omega)), show ll_Pla_keepsPairs_2 F F (nI n) 0 m = _ from e, o_b_some, inb_nI (show n < 216 by omega) (by decide), o_gd_t, show isb y = true from decide_eq_true y1, o_gd_t, o_let_eq, nI_clamp (by omega), show nI n + 1 = nI (n + 1) from nI_add n 1]
    · rw [f1 b j (by omega), a_st_no (by omega)]
    · by_cases z : k = n
      · rw [z, f1 _ _ (by omega), a_st_self]
        refine ⟨y1, y2.trans ⟨fun q a b h1 h2 => ?_, fun q a b _ h1 h2 => ?_⟩⟩
        · have := q a b (by omega) h1 h2
          unfold pr33 pr34 at this ⊢
          rw [f 33 _ (by omega), f 34 _ (by omega)] at this
          exact this
        · have := q a b h1 h2
          unfold pr33 pr34 at this ⊢
          rw [f 33 _ (by omega), f 34 _ (by omega)]
          exact this
      · exact s1 k (by omega) h2
/-- the ways hold what the plan asks -/
def WV (m : aM) (a0 c p : Nat) : Prop := m a0 7 = nI (p6 c) ∧ ∃ d : D3, eD m a0 c p (fun _ => True) d ∧ ∀ i, Tb (stB m c p) c p (coC m i) (GC m c p i) (d i)
theorem c_work {F : Nat} (hF : 20000 ≤ F) {m : aM} (h0 : iPl m c p) (ha : 8692 ≤ a0) (hs : ¬ m a0 8 = m 29 7) : ∃ m1, f_Way_workIfStale F a0 m = some (0, m1) ∧ (∀ b j, ¬ (b = a0 ∧ (j = 7 ∨ j = 8) ∨ a0 + 1 ≤ b ∧ b ≤ a0 + 6) → m1 b j = m b j) ∧ m1 a0 8 = m 29 7 ∧ WV m1 a0 c p := by
  have pb := (p6_b (a := c)).2
  have q2 : 2 ^ p ≤ 2 ^ 5 := Nat.pow_le_pow_right (by decide) h0.2.1
  let ma : aM := a_st (a_st m a0 8 (m 29 7)) a0 7 (nI (p6 c))
  have fa : ∀ b j, ¬ (b = a0 ∧ (j = 7 ∨ j = 8)) → ma b j = m b j := fun b j hb => by
    show a_st (a_st m a0 8 (m 29 7)) a0 7 (nI (p6 c)) b j = _
    rw [a_st_no (by omega), a_st_no (by omega)]
  have ha0 : iPl ma c p := h0.fr (fun b j hb => fa b j (by omega))
  have ha7 : ma a0 7 = nI (p6 c) := a_st_self
  have ha8 : ma a0 8 = m 29 7 := by
    show a_st (a_st m a0 8 (m 29 7)) a0 7 (nI (p6 c)) a0 8 = _
    rw [a_st_no (by omega), a_st_self]
  obtain ⟨m1, e1, f1, s1⟩ := c_ws45 ha0 ha ha7 hF (p6 c) 0 F ma (by omega) (by omega) (fun _ _ _ => rfl)
  have fr : ∀ b j, b < 8692 → m1 b j = ma b j := fun b j hb => f1 b j (by omega)
  have wk : wK m1 a0 c p := ⟨ha0.fr (fun b j hb => fr b j (by omega)), ha, by rw [f1 _ _ (by omega)]; exact ha7, fun n hn => by
    obtain ⟨k1, k2⟩ := s1 n (by omega) hn
    exact ⟨k1, k2.trans ⟨fun z a b h1 h2 => (pr_fr fr).mpr (z a b h1 h2), fun z a b h1 h2 => (pr_fr fr).mp (z a b h1 h2)⟩⟩⟩
  let d0 : D3 := fun i n => @ite _ (GC m1 c p i n) (Classical.propDecidable _) (some 0) none
  have d0p : ∀ i n, GC m1 c p i n → d0 i n = some 0 := fun i n g => @if_pos _ (Classical.propDecidable _) g _ _ _
  have d0n : ∀ i n, ¬ GC m1 c p i n → d0 i n = none := fun i n g => @if_neg _ (Classical.propDecidable _) g _ _ _
  obtain ⟨m2, d, e2, f2, he2, hS2, hf2⟩ := c_ws88 wk hF (2 ^ p) F m1 d0 (Nat.le_refl _) (by omega) (fun _ _ _ => rfl) (fun n h1 h2 h3 => by omega) (fun i => sndS.z (fun n w e => by
    by_cases z : GC m1 c p i n
    · rw [d0p i n z] at e
      exact ⟨(Option.some.inj e).symm, z⟩
    · rw [d0n i n z] at e
      exact absurd e (by simp))) (fun i => finW.top (stB_ok wk.1) (GC_st i) (Nat.le_refl _)) (fun n _ i => ⟨d0p i n, d0n i n⟩)
  have fr2 : ∀ b j, b < 8692 → m2 b j = m1 b j := fun b j hb => f2 b j (by omega)
  obtain ⟨g1, g2, g3⟩ := gr (c := c) (p := p) fr2
  refine ⟨m2, ?_, fun b j hb => ?_, ?_, ?_, d, he2, fun i => ?_⟩
  · unfold f_Way_workIfStale f_Pla_manyNodes
    rw [if_neg hs, o_let_eq, show a_st m a0 8 (m 29 7) 29 5 = nI c by rw [a_st_no (by omega)]; exact h0.2.2.1, c_pow (by have := h0.1; omega), o_b_some, o_b_some, o_let_eq, if_neg (show ¬ (216 : Int32) < nI (p6 c) from nI_nlt (a := 216) pb (by decide)), o_let_eq]
    exact e1.trans e2
  · rw [f2 b j (by omega), f1 b j (by omega)]
    exact fa b j (by omega)
  · rw [f2 _ _ (by omega), f1 _ _ (by omega)]
    exact ha8
  · rw [f2 _ _ (by omega), f1 _ _ (by omega)]
    exact ha7
  · unfold Tb
    rw [g1, g2, g3]
    exact ⟨hS2 i, (hf2 i).upA⟩
end
