/-! WAYS: the class lays a set -/
def sgV (m0 : aM) (p : Nat) (w : Int32) (a : Nat) (v : Int32) : Prop := ∀ n, (v >>> (nI (stg n a) &&& 31)) &&& 1 = 0 ↔ ¬ ∀ q, q < p → okP m0 w n q a
theorem okP_fr {m m' : aM} {w : Int32} {n q a : Nat} (f : ∀ j, m' 31 j = m 31 j) : okP m' w n q a ↔ okP m w n q a := by
  unfold okP nwP odQ
  rw [f]
theorem c_sf {F c p a : Nat} {w : Int32} {m : aM} (h : iPl m c p) (ha : a < 3) (hF : 20000 ≤ F) : ∃ v, f_Pla_stagesFor F (nI a) w m = some v ∧ sgV m p w a v := by
  obtain ⟨c3, p5, h5, _, h6, _, _, hb, _⟩ := h
  obtain ⟨A, B, e2, zA, zB⟩ := c_stages_l (F := F) (w := w) p5 ha h6 (fun q hq => (hb q a hq ha).2) p 0 F false false (by omega) (by omega)
  refine ⟨mk6 A B, e2, fun n => ?_⟩
  rw [mk6_t (stg6 (n := n) (a := a))]
  refine not_congr ⟨fun z q hq => ?_, fun z => ⟨fun k => ?_, fun k => ?_⟩⟩
  · exact ⟨fun k => z.1 (zA.mpr (Or.inr ⟨q, by omega, hq, k⟩)), fun k => z.2 (zB.mpr (Or.inr ⟨q, by omega, hq, k⟩))⟩
  · rcases zA.mp k with k | ⟨q, _, k2, k3⟩
    · exact absurd k (by decide)
    · exact (z q k2).1 k3
  · rcases zB.mp k with k | ⟨q, _, k2, k3⟩
    · exact absurd k (by decide)
    · exact (z q k2).2 k3
theorem c_has_l {F a0 c p n : Nat} {w : Int32} {m : aM} (c3 : c ≤ 3) (h5 : m 29 5 = nI c) (hn : n < 216) (hs : ∀ a, a < 3 → sgV m p w a (m (a0 + 6) a)) : ∀ (d a N : Nat), a + d = c → d < N → ∃ y, ll_Way_hasStages_2 F N a0 (nI n) (nI a) m = some y ∧ (y = 0 ∨ y = 1) ∧ (y = 1 ↔ ∀ q a', q < p → a ≤ a' → a' < c → okP m w n q a')
  | 0, a, N, hd, hN => by
    obtain ⟨N, rfl⟩ : ∃ k, N = k + 1 := ⟨N - 1, by omega⟩
    refine ⟨1, ?_, Or.inr rfl, ⟨fun _ q a' h1 h2 h3 => by omega, fun _ => rfl⟩⟩
    show lb_Way_hasStages_2 F (ll_Way_hasStages_2 F N) a0 (nI n) (nI a) m = _
    unfold lb_Way_hasStages_2
    rw [h5, if_pos (nI_le (by omega) (by omega))]
  | d + 1, a, N, hd, hN => by
    obtain ⟨N, rfl⟩ : ∃ k, N = k + 1 := ⟨N - 1, by omega⟩
    obtain ⟨y, e, y1, y2⟩ := c_has_l (F := F) (p := p) (w := w) c3 h5 hn hs d (a + 1) N (by omega) (by omega)
    rw [show ll_Way_hasStages_2 F (N + 1) a0 (nI n) (nI a) m = lb_Way_hasStages_2 F (ll_Way_hasStages_2 F N) a0 (nI n) (nI a) m from rfl]
    unfold lb_Way_hasStages_2
    rw [h5, if_neg (show ¬ nI c ≤ nI a from nI_ge (by omega) (by omega)), if_neg (show ¬ (3 : Int32) ≤ nI a from nI_ge (b := 3) (by omega) (by decide)), inb_nI (show a < 3 by omega) (by decide), o_gd_t, o_let_eq, nI_clamp (by omega), c_stageOf (by omega) (show a < 4 by omega), o_b_some, o_let_eq, show nI a + 1 = nI (a + 1) from nI_add a 1]
    have tt := hs a (by omega) n
    by_cases c1 : (m (a0 + 6) a >>> (nI (stg n a) &&& 31)) &&& 1 = 0
    · rw [if_pos c1]
      exact ⟨0, rfl, Or.inl rfl, ⟨fun z => absurd z (by decide), fun z => absurd (fun q hq => z q a hq (by omega) (by omega)) (tt.mp c1)⟩⟩
    · rw [if_neg c1, e]
      have okk : ∀ q, q < p → okP m w n q a := Classical.byContradiction (fun z => c1 (tt.mpr z))
      refine ⟨y, rfl, y1, y2.trans ⟨fun z q a' h1 h2 h3 => ?_, fun z q a' h1 h2 h3 => z q a' h1 (by omega) h3⟩⟩
      by_cases k : a' = a
      · rw [k]; exact okk q h1
      · exact z q a' h1 (by omega) h3
/-- graph and goals rest on the plan alone -/
theorem gr {m m' : aM} {c p : Nat} (f : ∀ b j, b < 8692 → m' b j = m b j) : stB m' c p = stB m c p ∧ coC m' = coC m ∧ GC m' c p = GC m c p := by
  have e1 : stB m' c p = stB m c p := stB_fr (fun b j hb => f b j (by omega))
  refine ⟨e1, coC_fr (fun b j hb => f b j (by omega)), ?_⟩
  funext i n
  unfold GC gG
  rw [e1]
theorem SN.fr {m m' : aM} {c p : Nat} {d : D3} (f : ∀ b j, b < 8692 → m' b j = m b j) : SN m' c p d ↔ SN m c p d := by
  obtain ⟨e1, e2, e3⟩ := gr (c := c) (p := p) f
  unfold SN tcG
  rw [e1, e2, e3]
theorem laid.fr {m m' : aM} {c p w : Nat} {d : D3} (f : ∀ b j, b < 8692 → m' b j = m b j) : laid m' c p w d ↔ laid m c p w d := by
  obtain ⟨e1, e2, e3⟩ := gr (c := c) (p := p) f
  unfold laid fin3W
  rw [e1, e2, e3]
theorem fin3W.fr {m m' : aM} {c p w : Nat} {d : D3} (f : ∀ b j, b < 8692 → m' b j = m b j) : fin3W m' c p w d ↔ fin3W m c p w d := by
  obtain ⟨e1, e2, e3⟩ := gr (c := c) (p := p) f
  unfold fin3W
  rw [e1, e2, e3]
theorem w_or : ∀ w, w < 32 → ∀ q, q < 5 → ((nI w ||| ((1 : Int32) <<< (nI q &&& 31)) = nI w ↔ ¬ w / 2 ^ q % 2 = 0) ∧ (w / 2 ^ q % 2 = 0 → nI w ||| ((1 : Int32) <<< (nI q &&& 31)) = nI (w + 2 ^ q))) := by decide +kernel
section
variable {a0 c p : Nat} {m0 : aM} {Pd : Nat → Prop}
theorem c_bs158 (h0 : iPl m0 c p) (ha : 8692 ≤ a0) (h7 : m0 a0 7 = nI (p6 c)) {n : Nat} (hn : n / 32 < p6 c) (hw : n % 32 < 2 ^ p) (hst : stB m0 c p n = true) (hP : ∀ k, k = n ∨ n % 32 < k % 32 → Pd k) {F : Nat} {r30 : Nat → Int32 → Int32 → aM → Option (Int32 × aM)} : ∀ (dd q N : Nat) (m : aM) (d : D3), q + dd = p → dd < N → fS a0 m0 m → eD m a0 c p Pd d → SN m0 c p d → ∃ m1 d1, ll_Way_beginSet_158 F r30 N a0 (nI (n % 32)) (nI (n / 32)) (nI (ix c n)) 1 (nI q) m = r30 a0 (nI (n % 32)) (nI (n / 32 + 1)) m1 ∧ fS a0 m0 m1 ∧ eD m1 a0 c p Pd d1 ∧ SN m0 c p d1 ∧ (∀ i, dle (d1 i) (d i)) ∧ (∀ i s' x u, q + 6 ≤ s' → tcG m0 c p n s' = some x → d i x = some u → ∃ v, d1 i n = some v ∧ v ≤ u + coC m0 i n s') ∧ (∀ i k, k ≠ n → d1 i k = d i k)
  | 0, q, N, m, d, hd, hN, f, he, hQ => by
    obtain ⟨N, rfl⟩ : ∃ q, N = q + 1 := ⟨N - 1, by omega⟩
    have hp := f.pl h0 ha
    refine ⟨m, d, ?_, f, he, hQ, fun i => dle.rf, fun i s' x u h1 h2 => ?_, fun _ _ _ => rfl⟩
    · show lb_Way_beginSet_158 F r30 (ll_Way_beginSet_158 F r30 N) a0 (nI (n % 32)) (nI (n / 32)) (nI (ix c n)) 1 (nI q) m = _
      unfold lb_Way_beginSet_158 b_Way_beginSet_220
      rw [if_neg (by decide), hp.2.2.2.2.1, if_pos (nI_le (by omega) (by have := h0.2.1; omega)), show nI (n / 32) + 1 = nI (n / 32 + 1) from nI_add _ 1]
    · obtain ⟨_, _, q', g1, _⟩ := toG_iff.mp h2
      unfold stT at g1
      rw [if_neg (by omega), if_neg (by omega), if_neg (by omega)] at g1
      exact absurd g1 (by simp)
  | dd + 1, q, N, m, d, hd, hN, f, he, hQ => by
    obtain ⟨N, rfl⟩ : ∃ q, N = q + 1 := ⟨N - 1, by omega⟩
    have hp := f.pl h0 ha
    have p5 := h0.2.1
    have pb := (p6_b (a := c)).2
    have w32 : n % 32 < 32 := by omega
    obtain ⟨o1, o2⟩ := w_or (n % 32) w32 q (by omega)
    have eT : stT c p (n / 32) (n % 32) (6 + q) = if n % 32 / 2 ^ q % 2 = 0 then some (n / 32, n % 32 + 2 ^ q) else none := by
      unfold stT
      rw [if_neg (by omega), if_neg (by omega), show 6 + q - 6 = q by omega]
      by_cases z : n % 32 / 2 ^ q % 2 = 0
      · rw [if_pos z, if_pos ⟨by omega, z⟩]
      · rw [if_neg z, if_neg (fun y => z y.2)]
    have un : ll_Way_beginSet_158 F r30 (N + 1) a0 (nI (n % 32)) (nI (n / 32)) (nI (ix c n)) 1 (nI q) m = lb_Way_beginSet_158 F r30 (ll_Way_beginSet_158 F r30 N) a0 (nI (n % 32)) (nI (n / 32)) (nI (ix c n)) 1 (nI q) m := rfl
    rw [un]
    unfold lb_Way_beginSet_158 b_Way_beginSet_214
    rw [if_neg (by decide), hp.2.2.2.2.1, if_neg (show ¬ nI p ≤ nI q from nI_ge (by omega) (by omega)), o_let_eq, show nI q + 1 = nI (q + 1) from nI_add q 1]
    by_cases z : n % 32 / 2 ^ q % 2 = 0
    · rw [if_neg (fun y => o1.mp y z), o_let_eq, o2 z]
      rw [if_pos z] at eT
      obtain ⟨_, j2, _, j4, _⟩ := stT_some (show n / 32 < 216 by omega) w32 p5 eT
      have j4 := (j4 (by omega)).2.1
      have x2 : (32 * (n / 32) + (n % 32 + 2 ^ q)) % 32 = n % 32 + 2 ^ q := by
        have : n % 32 + 2 ^ q < 32 := j2
        omega
      obtain ⟨y, m1, d1, e1, f1, he1, rx, ne, _⟩ := c_lr h0 f he hQ hn hw (hP n (Or.inl rfl)) hst (show 6 + q < 11 by omega) eT (hP _ (Or.inr (by rw [x2]; exact j4)))
      have pr : f_Pla_priceOf (nI q) m = some (nI (hS m0 (n / 32) (6 + q))) := by
        have k := hp.2.2.2.2.2.2.2.2.1 q (by omega)
        have e : hS m0 (n / 32) (6 + q) = (m 32 q).toInt.toNat := by
          unfold hS
          rw [if_neg (by omega), if_neg (by omega), show 6 + q - 6 = q by omega, f 32 _ (by omega)]
        unfold f_Pla_priceOf
        rw [if_neg (nI_pos (by omega)), if_neg (show ¬ (5 : Int32) ≤ nI q from nI_ge (b := 5) (by omega) (by decide)), inb_nI (show q < 5 by omega) (by decide), o_gd_t, nI_clamp (by omega), e, ← (bd_nat k.2).1]
      rw [pr, o_b_some, show m a0 7 = nI (p6 c) by rw [f _ _ (by omega)]; exact h7, nI_mul, nI_add]
      rw [if_neg (show ¬ 6 + q < 6 by omega)] at e1
      have e1' : f_Way_learn a0 (nI (ix c n)) (nI ((n % 32 + 2 ^ q) * p6 c + n / 32)) (nI (hS m0 (n / 32) (6 + q))) 1 m = some (y, m1) := e1
      rw [e1', o_b2_some]
      obtain ⟨m2, d2, e2, f2, he2, hS2, le2, at2, ne2⟩ := c_bs158 h0 ha h7 hn hw hst hP dd (q + 1) N m1 d1 (by omega) (by omega) f1 he1 (fun i => (rx i).sim (hQ i))
      refine ⟨m2, d2, e2, f2, he2, hS2, fun i => (le2 i).tr (rx i).le, fun i s' x u h1 h2 h3 => ?_, fun i k hk => by rw [ne2 i k hk, ne i k hk]⟩
      by_cases es : s' = 6 + q
      · subst es
        obtain ⟨w, w1, w2⟩ := (rx i).at dle.rf h2 h3
        obtain ⟨w', w3, w4⟩ := le2 i n w w1
        exact ⟨w', w3, by omega⟩
      · obtain ⟨u1, u2, u3⟩ := (rx i).le x u h3
        obtain ⟨w, w1, w2⟩ := at2 i s' x u1 (by omega) h2 u2
        exact ⟨w, w1, by omega⟩
    · rw [if_pos (o1.mpr z)]
      rw [if_neg z] at eT
      obtain ⟨m2, d2, e2, f2, he2, hS2, le2, at2, ne2⟩ := c_bs158 h0 ha h7 hn hw hst hP dd (q + 1) N m d (by omega) (by omega) f he hQ
      refine ⟨m2, d2, e2, f2, he2, hS2, le2, fun i s' x u h1 h2 h3 => ?_, ne2⟩
      by_cases es : s' = 6 + q
      · subst es
        obtain ⟨_, _, q', g1, _⟩ := toG_iff.mp h2
        rw [eT] at g1
        exact absurd g1 (by simp)
      · exact at2 i s' x u (by omega) h2 h3
end
abbrev fU (a0 : Nat) (m1 m : aM) : Prop := ∀ b j, ¬ (a0 + 1 ≤ b ∧ b ≤ a0 + 4) → m b j = m1 b j
/-- nothing is laid yet there -/
def ini (m0 : aM) (c p : Nat) (d : D3) (n : Nat) : Prop := ∀ i, (GC m0 c p i n → d i n = some 0) ∧ (¬ GC m0 c p i n → d i n = none)
section
variable {a0 c p w : Nat} {m0 : aM}
/-- what stands fast while a set is laid -/
def bK (m0 : aM) (a0 c p w : Nat) : Prop := iPl m0 c p ∧ 8692 ≤ a0 ∧ m0 a0 7 = nI (p6 c) ∧ w < 2 ^ p ∧ (∀ a, a < 3 → sgV m0 p (nI w) a (m0 (a0 + 6) a)) ∧ ∀ n, n < p6 c → (m0 (a0 + 5) n = 0 ∨ m0 (a0 + 5) n = 1) ∧ (m0 (a0 + 5) n = 1 ↔ ∀ a b, a < 3 → b < 3 → pr33 m0 n a b ∧ pr34 m0 n a b)
noncomputable def wv (m0 : aM) (c p n : Nat) : Int32 := if stB m0 c p n = true ∧ n / 32 = p6 c - 1 then 0 else 2147483647
noncomputable def bv (m0 : aM) (c p n : Nat) : Int32 := if stB m0 c p n = true ∧ n / 32 = 0 then 1 else 0
noncomputable def mb (m0 m : aM) (a0 c p n : Nat) : aM := a_st (a_st (a_st (a_st m (a0 + 1) (ix c n) (if stB m0 c p n then 1 else 0)) (a0 + 2) (ix c n) (wv m0 c p n)) (a0 + 3) (ix c n) (wv m0 c p n)) (a0 + 4) (ix c n) (bv m0 c p n)
theorem bK.w32 (hk : bK m0 a0 c p w) : w < 32 := by
  have := hk.2.2.2.1
  have : 2 ^ p ≤ 2 ^ 5 := Nat.pow_le_pow_right (by decide) hk.1.2.1
  omega
theorem c_bsn (hk : bK m0 a0 c p w) {F n : Nat} (hF : 20000 ≤ F) {r30 : Nat → Int32 → Int32 → aM → Option (Int32 × aM)} {m : aM} (f : fU a0 m0 m) (hn : n / 32 < p6 c) (hw : n % 32 = w) : lb_Way_beginSet_30 F r30 a0 (nI w) (nI (n / 32)) m = ll_Way_beginSet_158 F r30 F a0 (nI w) (nI (n / 32)) (nI (ix c n)) (if stB m0 c p n then 1 else 0) 0 (mb m0 m a0 c p n) := by
  have w32 := hk.w32
  obtain ⟨h0, ha, h7, wp, hs, hkp⟩ := hk
  have pb := p6_b (a := c)
  have hp : iPl m c p := h0.fr (fun b j hb => f b j (by omega))
  have m7 : m a0 7 = nI (p6 c) := by rw [f _ _ (by omega)]; exact h7
  have at0 : nI w * nI (p6 c) + nI (n / 32) = nI (ix c n) := by rw [nI_mul, nI_add, ← hw]; rfl
  have il := ix_lt hn
  have ib : inb (nI (ix c n)) 6912 = true := inb_nI il (by decide)
  have ci : (nI (ix c n)).toNatClampNeg = ix c n := nI_clamp (by omega)
  obtain ⟨k1, k2⟩ := hkp (n / 32) hn
  obtain ⟨y, e, y1, y2⟩ := c_has_l (F := F) (a0 := a0) (p := p) (w := nI w) hp.1 hp.2.2.1 (show n / 32 < 216 by omega) (fun a h3 n' => by
    rw [f _ _ (by omega)]
    refine (hs a h3 n').trans (not_congr ⟨fun z q hq => ?_, fun z q hq => ?_⟩)
    · exact (okP_fr (fun j => f 31 j (by omega))).mpr (z q hq)
    · exact (okP_fr (fun j => f 31 j (by omega))).mp (z q hq)) c 0 F (by omega) (by have := h0.1; omega)
  have y3 : y = 1 ↔ ∀ q a, q < p → a < c → okP m0 (nI w) (n / 32) q a := y2.trans ⟨fun z q a h1 h2 => (okP_fr (fun j => f 31 j (by omega))).mp (z q a h1 (by omega) h2), fun z q a h1 _ h2 => (okP_fr (fun j => f 31 j (by omega))).mpr (z q a h1 h2)⟩
  have stE : stB m0 c p n = true ↔ y = 1 ∧ m0 (a0 + 5) (n / 32) = 1 := by
    rw [stB_iff, y3, k2, hw]
    exact ⟨fun z => z.2.2, fun z => ⟨hn, wp, z⟩⟩
  have e0 : lb_Way_beginSet_30 F r30 a0 (nI w) (nI (n / 32)) m = b_Way_beginSet_69 F r30 a0 (nI w) (nI (n / 32)) (nI (ix c n)) (if stB m0 c p n then 1 else 0) m := by
    unfold lb_Way_beginSet_30 b_Way_beginSet_68 f_Way_hasStages
    rw [m7, if_neg (show ¬ nI (p6 c) ≤ nI (n / 32) from nI_ge hn (by omega)), inb_nI (show n / 32 < 216 by omega) (by decide), o_gd_t, o_let_eq, nI_clamp (by omega), at0, f (a0 + 5) _ (by omega)]
    rcases k1 with k1 | k1
    · rw [if_pos k1, if_neg (fun z => by have := (stE.mp z).2; rw [k1] at this; exact absurd this (by decide))]
    · rw [k1, if_neg (by decide), show ll_Way_hasStages_2 F F a0 (nI (n / 32)) 0 m = _ from e, o_b_some]
      rcases y1 with y1 | y1
      · rw [if_pos y1, if_neg (fun z => by have := (stE.mp z).1; rw [y1] at this; exact absurd this (by decide))]
      · rw [y1, if_neg (by decide), if_pos (stE.mpr ⟨y1, k1⟩)]
  have e1 : b_Way_beginSet_69 F r30 a0 (nI w) (nI (n / 32)) (nI (ix c n)) (if stB m0 c p n then 1 else 0) m = b_Way_beginSet_91 F r30 a0 (nI w) (nI (n / 32)) (nI (ix c n)) (if stB m0 c p n then 1 else 0) (if stB m0 c p n = true ∧ n / 32 = p6 c - 1 then 1 else 0) m := by
    unfold b_Way_beginSet_69 b_Way_beginSet_90
    rw [m7, show nI (p6 c) - 1 = nI (p6 c - 1) from nI_subn (b := 1) pb.1]
    by_cases s1 : stB m0 c p n = true
    · rw [if_pos s1, if_neg (by decide)]
      by_cases g1 : n / 32 = p6 c - 1
      · rw [if_pos (by rw [g1]), if_pos ⟨s1, g1⟩]
      · rw [if_neg (fun z => g1 (nI_inj (by omega) (by omega) z)), if_neg (fun z => g1 z.2)]
    · rw [if_neg s1, if_pos rfl, if_neg (fun z => s1 z.1)]
  have isb01 : ∀ (q : Prop) [Decidable q], isb (if q then (1 : Int32) else 0) = true := fun q _ => by
    by_cases z : q
    · rw [if_pos z]; rfl
    · rw [if_neg z]; rfl
  rw [e0, e1]
  unfold b_Way_beginSet_91 b_Way_beginSet_117 b_Way_beginSet_134 b_Way_beginSet_153 b_Way_beginSet_154
  simp only [ib, o_gd_t, isb01, o_let_eq, ci]
  have nz0 : nI (n / 32) = 0 ↔ n / 32 = 0 := ⟨fun z => nI_inj (by omega) (by decide) (show nI (n / 32) = nI 0 from z), fun z => by rw [z]; rfl⟩
  unfold mb wv bv
  by_cases s1 : stB m0 c p n = true
  · simp only [s1, if_true, true_and]
    by_cases g1 : n / 32 = p6 c - 1 <;> by_cases g2 : n / 32 = 0 <;> simp [g1, g2, nz0, isb, o_gd] <;> simp_all [isb, o_gd]
  · have s2 : stB m0 c p n = false := by cases h : stB m0 c p n <;> simp_all
    simp [s2, isb, o_gd]
end
