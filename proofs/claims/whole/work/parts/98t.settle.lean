/-! WAYS: the class settles a set -/
def coC (m0 : aM) (i : Fin 3) : Nat → Nat → Nat := if i.val = 0 then cB1 (fun n s => hS m0 (n / 32) s) 2048 else if i.val = 1 then (fun _ s => if s < 6 then 0 else 1) else fun _ _ => 0
noncomputable def GC (m0 : aM) (c p : Nat) (i : Fin 3) : Nat → Prop := if i.val < 2 then gG m0 c p true else gG m0 c p false
noncomputable abbrev tcG (m0 : aM) (c p : Nat) : Nat → Nat → Option Nat := toG (stB m0 c p) c p
abbrev SN (m0 : aM) (c p : Nat) (d : D3) : Prop := ∀ i, sndS (tcG m0 c p) (coC m0 i) (GC m0 c p i) (d i)
abbrev eD (m : aM) (a0 c p : Nat) (Pd : Nat → Prop) (d : D3) : Prop := ∀ n, n / 32 < p6 c → n % 32 < 2 ^ p → Pd n → ∀ i : Fin 3, m (a0 + 2 + i.val) (ix c n) = enC i (d i n)
abbrev fS (a0 : Nat) (m0 m : aM) : Prop := ∀ b j, ¬ (b = a0 + 2 ∨ b = a0 + 3 ∨ b = a0 + 4) → m b j = m0 b j
section
variable {a0 c p : Nat} {m0 : aM} {Pd : Nat → Prop}
theorem coC_C (h : iPl m0 c p) (i : Fin 3) : ∀ n s x, tcG m0 c p n s = some x → coC m0 i n s ≤ 202753 := fun n s x e => by
  obtain ⟨_, _, _, _, f5, _, _, f8⟩ := toG_f (stB_ok h) e
  have hb := hS_b (n := n / 32) h f5 f8
  refine fin3 (P := fun i => coC m0 i n s ≤ 202753) ?_ ?_ ?_ i
  · show 2048 * hS m0 (n / 32) s + 1 ≤ 202753
    omega
  · show (if s < 6 then 0 else 1) ≤ 202753
    split <;> omega
  · show 0 ≤ 202753
    omega
theorem GC_st (i : Fin 3) : ∀ n, GC m0 c p i n → stB m0 c p n = true := by
  revert i
  refine fin3 ?_ ?_ ?_
  · intro n h
    exact h.2
  · intro n h
    exact h.2
  · intro n h
    exact h.2
theorem coC_fr {m m' : aM} (f : ∀ b j, b = 30 ∨ b = 32 → m' b j = m b j) : coC m' = coC m := by
  funext i
  unfold coC
  have : (fun n s => hS m' (n / 32) s) = fun n s => hS m (n / 32) s := by
    funext n s
    unfold hS
    rw [f 30 _ (Or.inl rfl), f 32 _ (Or.inr rfl)]
  rw [this]
theorem c_lr (h0 : iPl m0 c p) {m : aM} {d : D3} (f : fS a0 m0 m) (he : eD m a0 c p Pd d) (hQ : SN m0 c p d) {n s : Nat} {q : Nat × Nat} (hn : n / 32 < p6 c) (hw : n % 32 < 2 ^ p) (hP : Pd n) (hst : stB m0 c p n = true) (h11 : s < 11) (eT : stT c p (n / 32) (n % 32) s = some q) (hPx : Pd (32 * q.1 + q.2)) : ∃ (y : Int32) (m1 : aM) (d1 : D3), f_Way_learn a0 (nI (ix c n)) (nI (q.2 * p6 c + q.1)) (nI (hS m0 (n / 32) s)) (nI (if s < 6 then 0 else 1)) m = some (y, m1) ∧ fS a0 m0 m1 ∧ eD m1 a0 c p Pd d1 ∧ (∀ i, Rlx (tcG m0 c p) (coC m0 i) (d i) (d1 i) n s) ∧ (∀ i k, k ≠ n → d1 i k = d i k) ∧ (d1 = d ∧ y = 0 ∨ d1 ≠ d ∧ y = 1) := by
  have ok := stB_ok h0
  have pb := (p6_b (a := c)).2
  obtain ⟨i1, i2⟩ := stT_in h0.1 h0.2.1 hn hw eT
  obtain ⟨j1, j2, _, _, j5⟩ := stT_some (show n / 32 < 216 by omega) (show n % 32 < 32 by omega) h0.2.1 eT
  have x1 : (32 * q.1 + q.2) / 32 = q.1 := by omega
  have x2 : (32 * q.1 + q.2) % 32 = q.2 := by omega
  have hx : 32 * q.1 + q.2 < 6912 := by omega
  have hb := hS_b (n := n / 32) h0 h11 j5
  have ek : ∀ i, k3 (hS m0 (n / 32) s) (if s < 6 then 0 else 1) i = coC m0 i n s := fin3 rfl rfl rfl
  have kb : ∀ i, k3 (hS m0 (n / 32) s) (if s < 6 then 0 else 1) i ≤ 202753 := by
    refine fin3 ?_ ?_ ?_
    · show 2048 * hS m0 (n / 32) s + 1 ≤ 202753
      omega
    · show (if s < 6 then 0 else 1) ≤ 202753
      split <;> omega
    · show 0 ≤ 202753
      omega
  have rx : ∀ i, m (a0 + 2 + i.val) (q.2 * p6 c + q.1) = enC i (d i (32 * q.1 + q.2)) := fun i => by
    rw [← ix_p j2]
    exact he _ (by rw [x1]; exact i1) (by rw [x2]; exact i2) hPx i
  have z0 : ∀ k w, d 2 k = some w → k = n ∨ k = 32 * q.1 + q.2 → w = 0 := fun k w e hk => by
    have := snd_bd ok (C := 0) (fun n s x _ => Nat.le_refl 0) (hQ 2) (show k < 6912 by omega) e
    omega
  obtain ⟨y, m1, d1, e1, r1, v1, f1, ch⟩ := c_learn (a0 := a0) (n := n) (x := 32 * q.1 + q.2) (h := hS m0 (n / 32) s) (r := if s < 6 then 0 else 1) (ix_lt hn) (by rw [← ix_p j2]; exact ix_lt (by rw [x1]; exact i1)) rx (he n hn hw hP) (fun i u z => by
    have := snd_bd ok (coC_C h0 i) (hQ i) hx z
    have := kb i
    omega) (fun i w z => by
    have := snd_bd ok (coC_C h0 i) (hQ i) (show n < 6912 by omega) z
    omega) z0
  refine ⟨y, m1, d1, e1, fun b j hb => by rw [f1 b j (fun z => hb z.2)]; exact f b j hb, fun n' g1 g2 g3 i => ?_, fun i => ?_, fun i k hk => (r1 i).ne hk, ch⟩
  · by_cases e : n' = n
    · rw [e]
      exact v1 i
    · rw [f1 _ _ (fun z => e (ix_inj g1 hn z.1)), (r1 i).ne e]
      exact he n' g1 g2 g3 i
  · refine RlX.to (x := 32 * q.1 + q.2) (by rw [← ek i]; exact r1 i) ?_
    by_cases sx : stB m0 c p (32 * q.1 + q.2) = true
    · exact Or.inl (toG_iff.mpr ⟨hst, h11, q, eT, sx, rfl⟩)
    · refine Or.inr ⟨?_, ?_⟩
      · cases e : tcG m0 c p n s with
        | none => rfl
        | some x =>
          obtain ⟨_, _, q', g1, g2, _⟩ := toG_iff.mp e
          rw [← Option.some.inj (eT.symm.trans g1)] at g2
          exact absurd g2 sx
      · cases e : d i (32 * q.1 + q.2) with
        | none => rfl
        | some u => exact absurd (snd_st ok (GC_st i) (hQ i).t e) sx
theorem c_hold_ex {m : aM} {n s : Nat} (hn : n < 216) (hs : s < 6) : ∃ v, f_Way_holdingOf a0 (nI n) (nI s) m = some v := by
  have sg := stg6 (n := n) (a := s)
  unfold f_Way_holdingOf f_Pla_holdAt
  by_cases s3 : s < 3
  · have e : nI s * 5 + nI (stg n s) = nI (5 * s + stg n s) := by rw [show (5 : Int32) = nI 5 from rfl, nI_mul, nI_add, Nat.mul_comm]
    rw [if_neg (show ¬ (3 : Int32) ≤ nI s from nI_ge (b := 3) s3 (by decide)), c_stageOf (by omega) (by omega), o_b_some, e, if_neg (nI_pos (by omega))]
    by_cases k : 5 * s + stg n s < 15
    · rw [if_neg (show ¬ (15 : Int32) ≤ nI (5 * s + stg n s) from nI_ge (b := 15) k (by decide)), inb_nI k (by decide)]
      exact ⟨_, rfl⟩
    · rw [if_pos (show (15 : Int32) ≤ nI (5 * s + stg n s) from nI_le (a := 15) (by omega) (by omega))]
      exact ⟨_, rfl⟩
  · rw [if_pos (show (3 : Int32) ≤ nI s from nI_le (a := 3) (by omega) (by omega)), if_neg (show ¬ (6 : Int32) ≤ nI s from nI_ge (b := 6) hs (by decide))]
    exact ⟨_, rfl⟩
/-- what stands fast while a set is settled -/
def stK (m0 : aM) (a0 c p w : Nat) : Prop := iPl m0 c p ∧ 8692 ≤ a0 ∧ m0 a0 7 = nI (p6 c) ∧ w < 2 ^ p ∧ ∀ n, n / 32 < p6 c → n % 32 = w → m0 (a0 + 1) (ix c n) = if stB m0 c p n then 1 else 0
theorem fS.pl {m : aM} (h : iPl m0 c p) (ha : 8692 ≤ a0) (f : fS a0 m0 m) : iPl m c p := h.fr (fun b j hb => f b j (by omega))
theorem c_ss1 {w : Nat} (hk : stK m0 a0 c p w) {m : aM} {d : D3} (f : fS a0 m0 m) (he : eD m a0 c p (fun n => w ≤ n % 32) d) (hQ : SN m0 c p d) {n s : Nat} (hn : n / 32 < p6 c) (hw : n % 32 = w) (hst : stB m0 c p n = true) (h6 : s < 6) {F : Nat} {r4 : Nat → Int32 → Int32 → Int32 → aM → Option (Int32 × aM)} {r25 : Nat → Int32 → Int32 → Int32 → Int32 → aM → Option (Int32 × aM)} {r44 : Nat → Int32 → Int32 → Int32 → Int32 → Int32 → Int32 → aM → Option (Int32 × aM)} {x2 x3 : Int32} : ∃ m1 y2 d1, lb_Way_settleSet_44 F r4 r25 r44 a0 (nI w) x2 x3 (nI (n / 32)) (nI (ix c n)) (nI s) m = r44 a0 (nI w) y2 x3 (nI (n / 32)) (nI (ix c n)) (nI (s + 1)) m1 ∧ fS a0 m0 m1 ∧ eD m1 a0 c p (fun n => w ≤ n % 32) d1 ∧ (∀ i, Rlx (tcG m0 c p) (coC m0 i) (d i) (d1 i) n s) ∧ (∀ i k, k ≠ n → d1 i k = d i k) ∧ (d1 = d ∧ y2 = x2 ∨ d1 ≠ d ∧ y2 = 1) := by
  obtain ⟨h0, ha, h7, wp, hs0⟩ := hk
  have hp := f.pl h0 ha
  have pb := (p6_b (a := c)).2
  have w32 : w < 32 := by omega
  have il := ix_lt hn
  have m7 : m a0 7 = nI (p6 c) := by rw [f _ _ (by omega)]; exact h7
  unfold lb_Way_settleSet_44 b_Way_settleSet_94
  rw [inb_nI il (by decide), o_gd_t, o_let_eq, nI_clamp (by omega), show m (a0 + 1) (ix c n) = 1 by rw [f _ _ (by omega), hs0 n hn hw, if_pos hst], if_neg (by decide), if_neg (show ¬ (6 : Int32) ≤ nI s from nI_ge (b := 6) h6 (by decide)), c_next hp m7 (show n / 32 < 216 by omega) w32 (by omega), o_b_some, show nI s + 1 = nI (s + 1) from nI_add s 1]
  cases eT : stT c p (n / 32) w s with
  | none =>
    obtain ⟨v, ev⟩ := c_hold_ex (a0 := a0) (m := m) (show n / 32 < 216 by omega) h6
    have el : f_Way_learn a0 (nI (ix c n)) (-1) v 0 m = some (0, m) := by
      unfold f_Way_learn f_Way_isPlace
      rw [if_neg (nI_pos (by omega)), if_neg (show ¬ (6912 : Int32) ≤ nI (ix c n) from nI_ge (b := 6912) il (by decide)), o_b_some, if_neg (by decide), if_pos (by decide), o_b_some, if_pos rfl]
    rw [ev, o_b_some]
    show ∃ m1 y2 d1, o_b2 (f_Way_learn a0 (nI (ix c n)) (-1) v 0 m) _ = _ ∧ _
    rw [el, o_b2_some, if_pos rfl]
    refine ⟨m, x2, d, rfl, f, he, fun i => Or.inl ⟨rfl, fun x u z => ?_⟩, fun _ _ _ => rfl, Or.inl ⟨rfl, rfl⟩⟩
    obtain ⟨_, _, q', g1, _⟩ := toG_iff.mp z
    rw [hw, eT] at g1
    exact absurd g1 (by simp)
  | some q =>
    obtain ⟨j1, j2, j3, _, j5⟩ := stT_some (show n / 32 < 216 by omega) w32 h0.2.1 eT
    have hh : f_Way_holdingOf a0 (nI (n / 32)) (nI s) m = some (nI (hS m0 (n / 32) s)) := by
      rw [c_hold hp (by omega) (by omega) j5]
      congr 2
      unfold hS
      rw [f 30 _ (by omega), f 32 _ (by omega)]
    have e2 := j3 h6
    obtain ⟨y, m1, d1, e1, f1, he1, rx, ne, ch⟩ := c_lr h0 f he hQ hn (by omega) (show w ≤ n % 32 by omega) hst (show s < 11 by omega) (by rw [hw]; exact eT) (show w ≤ (32 * q.1 + q.2) % 32 by omega)
    rw [hh, o_b_some]
    rw [if_pos h6] at e1
    show ∃ m1 y2 d1, o_b2 (f_Way_learn a0 (nI (ix c n)) (nI (q.2 * p6 c + q.1)) (nI (hS m0 (n / 32) s)) (nI 0) m) _ = _ ∧ _
    rw [e1, o_b2_some]
    rcases ch with ⟨c1, c2⟩ | ⟨c1, c2⟩
    · rw [c2, if_pos rfl]
      exact ⟨m1, x2, d1, rfl, f1, he1, rx, ne, Or.inl ⟨c1, rfl⟩⟩
    · rw [c2, if_neg (by decide)]
      exact ⟨m1, 1, d1, rfl, f1, he1, rx, ne, Or.inr ⟨c1, rfl⟩⟩
theorem dle3 {d d1 d2 : D3} (h1 : ∀ i, dle (d1 i) (d i)) (h2 : ∀ i, dle (d2 i) (d1 i)) (z : d2 = d) : d1 = d := by
  subst z
  exact funext fun i => dle.as (h1 i) (h2 i)
theorem c_ss44 {w : Nat} (hk : stK m0 a0 c p w) {n : Nat} (hn : n / 32 < p6 c) (hw : n % 32 = w) {F : Nat} {r4 : Nat → Int32 → Int32 → Int32 → aM → Option (Int32 × aM)} {r25 : Nat → Int32 → Int32 → Int32 → Int32 → aM → Option (Int32 × aM)} {x3 : Int32} : ∀ (dd s N : Nat) (x2 : Int32) (m : aM) (d : D3), s + dd = 6 → dd < N → fS a0 m0 m → eD m a0 c p (fun n => w ≤ n % 32) d → SN m0 c p d → ∃ m1 y2 d1, ll_Way_settleSet_44 F r4 r25 N a0 (nI w) x2 x3 (nI (n / 32)) (nI (ix c n)) (nI s) m = r25 a0 (nI w) y2 x3 (nI (n / 32) - 1) m1 ∧ fS a0 m0 m1 ∧ eD m1 a0 c p (fun n => w ≤ n % 32) d1 ∧ SN m0 c p d1 ∧ (∀ i, dle (d1 i) (d i)) ∧ (∀ i s' x u, s ≤ s' → s' < 6 → tcG m0 c p n s' = some x → d i x = some u → ∃ v, d1 i n = some v ∧ v ≤ u + coC m0 i n s') ∧ (∀ i k, k ≠ n → d1 i k = d i k) ∧ (d1 = d ∧ y2 = x2 ∨ d1 ≠ d ∧ y2 = 1)
  | 0, s, N, x2, m, d, hd, hN, f, he, hQ => by
    obtain ⟨N, rfl⟩ : ∃ q, N = q + 1 := ⟨N - 1, by omega⟩
    have il := ix_lt hn
    refine ⟨m, x2, d, ?_, f, he, hQ, fun i => dle.rf, fun i s' x u h1 h2 => by omega, fun _ _ _ => rfl, Or.inl ⟨rfl, rfl⟩⟩
    show lb_Way_settleSet_44 F r4 r25 (ll_Way_settleSet_44 F r4 r25 N) a0 (nI w) x2 x3 (nI (n / 32)) (nI (ix c n)) (nI s) m = _
    unfold lb_Way_settleSet_44 b_Way_settleSet_100
    rw [inb_nI il (by decide), o_gd_t, o_let_eq, if_pos (show (6 : Int32) ≤ nI s from nI_le (a := 6) (by omega) (by omega)), ite_self]
  | dd + 1, s, N, x2, m, d, hd, hN, f, he, hQ => by
    obtain ⟨N, rfl⟩ : ∃ q, N = q + 1 := ⟨N - 1, by omega⟩
    have il := ix_lt hn
    have un : ll_Way_settleSet_44 F r4 r25 (N + 1) a0 (nI w) x2 x3 (nI (n / 32)) (nI (ix c n)) (nI s) m = lb_Way_settleSet_44 F r4 r25 (ll_Way_settleSet_44 F r4 r25 N) a0 (nI w) x2 x3 (nI (n / 32)) (nI (ix c n)) (nI s) m := rfl
    rw [un]
    by_cases hst : stB m0 c p n = true
    · obtain ⟨m1, y2, d1, e1, f1, he1, rx, ne, ch⟩ := c_ss1 (F := F) (r4 := r4) (r25 := r25) (r44 := ll_Way_settleSet_44 F r4 r25 N) (x2 := x2) (x3 := x3) hk f he hQ hn hw hst (show s < 6 by omega)
      obtain ⟨m2, z2, d2, e2, f2, he2, hS2, le2, at2, ne2, ch2⟩ := c_ss44 hk hn hw dd (s + 1) N y2 m1 d1 (by omega) (by omega) f1 he1 (fun i => (rx i).sim (hQ i))
      refine ⟨m2, z2, d2, e1.trans e2, f2, he2, hS2, fun i => (le2 i).tr (rx i).le, fun i s' x u h1 h2 h3 h4 => ?_, fun i k hk => by rw [ne2 i k hk, ne i k hk], ?_⟩
      · by_cases es : s' = s
        · subst es
          obtain ⟨w, w1, w2⟩ := (rx i).at dle.rf h3 h4
          obtain ⟨w', w3, w4⟩ := le2 i n w w1
          exact ⟨w', w3, by omega⟩
        · obtain ⟨u1, u2, u3⟩ := (rx i).le x u h4
          obtain ⟨w, w1, w2⟩ := at2 i s' x u1 (by omega) h2 h3 u2
          exact ⟨w, w1, by omega⟩
      · rcases ch with ⟨c1, c2⟩ | ⟨c1, c2⟩
        · rw [← c1, ← c2]
          exact ch2
        · rcases ch2 with ⟨c3, c4⟩ | ⟨c3, c4⟩
          · exact Or.inr ⟨by rw [c3]; exact c1, by rw [c4]; exact c2⟩
          · exact Or.inr ⟨fun z => c1 (dle3 (fun i => (rx i).le) le2 z), c4⟩
    · refine ⟨m, x2, d, ?_, f, he, hQ, fun i => dle.rf, fun i s' x u h1 h2 h3 => absurd (toG_f (stB_ok hk.1) h3).2.2.1 hst, fun _ _ _ => rfl, Or.inl ⟨rfl, rfl⟩⟩
      obtain ⟨h0, ha, h7, wp, hs0⟩ := hk
      unfold lb_Way_settleSet_44 b_Way_settleSet_100
      rw [inb_nI il (by decide), o_gd_t, o_let_eq, nI_clamp (by omega), show m (a0 + 1) (ix c n) = 0 by rw [f _ _ (by omega), hs0 n hn hw, if_neg hst], if_pos rfl]
theorem c_ss25 {w : Nat} (hk : stK m0 a0 c p w) {F : Nat} (hF : 20000 ≤ F) {r4 : Nat → Int32 → Int32 → Int32 → aM → Option (Int32 × aM)} {x3 : Int32} : ∀ (t N : Nat) (x2 : Int32) (m : aM) (d : D3), t ≤ p6 c → t < N → fS a0 m0 m → eD m a0 c p (fun n => w ≤ n % 32) d → SN m0 c p d → ∃ m1 y2 d1, ll_Way_settleSet_25 F r4 N a0 (nI w) x2 x3 (nI t - 1) m = r4 a0 (nI w) y2 (x3 + 1) m1 ∧ fS a0 m0 m1 ∧ eD m1 a0 c p (fun n => w ≤ n % 32) d1 ∧ SN m0 c p d1 ∧ (∀ i, dle (d1 i) (d i)) ∧ (∀ i n s' x u, n % 32 = w → n / 32 < t → s' < 6 → tcG m0 c p n s' = some x → d i x = some u → ∃ v, d1 i n = some v ∧ v ≤ u + coC m0 i n s') ∧ (∀ i k, k % 32 ≠ w → d1 i k = d i k) ∧ (d1 = d ∧ y2 = x2 ∨ d1 ≠ d ∧ y2 = 1)
  | 0, N, x2, m, d, ht, hN, f, he, hQ => by
    obtain ⟨N, rfl⟩ : ∃ q, N = q + 1 := ⟨N - 1, by omega⟩
    refine ⟨m, x2, d, ?_, f, he, hQ, fun i => dle.rf, fun i n s' x u h1 h2 => by omega, fun _ _ _ => rfl, Or.inl ⟨rfl, rfl⟩⟩
    show lb_Way_settleSet_25 F r4 (ll_Way_settleSet_25 F r4 N) a0 (nI w) x2 x3 (nI 0 - 1) m = _
    unfold lb_Way_settleSet_25
    rw [if_pos (by decide)]
  | t + 1, N, x2, m, d, ht, hN, f, he, hQ => by
    obtain ⟨N, rfl⟩ : ∃ q, N = q + 1 := ⟨N - 1, by omega⟩
    have pb := (p6_b (a := c)).2
    have w32 : w < 32 := by
      have := hk.2.2.2.1
      have : 2 ^ p ≤ 2 ^ 5 := Nat.pow_le_pow_right (by decide) hk.1.2.1
      omega
    have en : (32 * t + w) / 32 = t := by omega
    have ew : (32 * t + w) % 32 = w := by omega
    obtain ⟨m1, y2, d1, e1, f1, he1, hS1, le1, at1, ne1, ch⟩ := c_ss44 (n := 32 * t + w) (F := F) (r4 := r4) (r25 := ll_Way_settleSet_25 F r4 N) (x3 := x3) hk (by rw [en]; omega) ew 6 0 F x2 m d (by omega) (by omega) f he hQ
    obtain ⟨m2, z2, d2, e2, f2, he2, hS2, le2, at2, ne2, ch2⟩ := c_ss25 hk hF t N y2 m1 d1 (by omega) (by omega) f1 he1 hS1
    rw [en] at e1
    refine ⟨m2, z2, d2, ?_, f2, he2, hS2, fun i => (le2 i).tr (le1 i), fun i n s' x u h1 h2 h3 h4 h5 => ?_, fun i k hk => by rw [ne2 i k hk, ne1 i k (fun z => hk (by rw [z]; exact ew))], ?_⟩
    · refine Eq.trans ?_ (e1.trans e2)
      show lb_Way_settleSet_25 F r4 (ll_Way_settleSet_25 F r4 N) a0 (nI w) x2 x3 (nI (t + 1) - 1) m = _
      unfold lb_Way_settleSet_25
      rw [nI_pred, if_neg (nI_pos (by omega)), show m a0 7 = nI (p6 c) by rw [f _ _ (by omega)]; exact hk.2.2.1, nI_mul, nI_add, ix_p w32]
      rfl
    · by_cases es : n = 32 * t + w
      · subst es
        obtain ⟨w, w1, w2⟩ := at1 i s' x u (by omega) h3 h4 h5
        obtain ⟨w', w3, w4⟩ := le2 i _ w w1
        exact ⟨w', w3, by omega⟩
      · obtain ⟨u1, u2, u3⟩ := le1 i x u h5
        obtain ⟨w, w1, w2⟩ := at2 i n s' x u1 h1 (by omega) h3 h4 u2
        exact ⟨w, w1, by omega⟩
    · rcases ch with ⟨c1, c2⟩ | ⟨c1, c2⟩
      · rw [← c1, ← c2]
        exact ch2
      · rcases ch2 with ⟨c3, c4⟩ | ⟨c3, c4⟩
        · exact Or.inr ⟨by rw [c3]; exact c1, by rw [c4]; exact c2⟩
        · exact Or.inr ⟨fun z => c1 (dle3 le1 le2 z), c4⟩
abbrev fin3W (m0 : aM) (c p w : Nat) (d : D3) : Prop := ∀ i, finW (stB m0 c p) c p (coC m0 i) (GC m0 c p i) w (d i)
/-- set w is laid: goals, rewriting steps -/
def laid (m0 : aM) (c p w : Nat) (d : D3) : Prop := (∀ i n, n % 32 = w → GC m0 c p i n → d i n = some 0) ∧ fin3W m0 c p (w + 1) d ∧ ∀ i, rwF (stB m0 c p) c p (coC m0 i) w (d i)
theorem laid.le {w : Nat} (h0 : iPl m0 c p) {d d1 : D3} (h : laid m0 c p w d) (l : ∀ i, dle (d1 i) (d i)) (ne : ∀ i k, k % 32 ≠ w → d1 i k = d i k) : laid m0 c p w d1 := by
  obtain ⟨h1, h2, h3⟩ := h
  refine ⟨fun i n hn g => ?_, fun i => (h2 i).le (l i), fun i n s x u hn h6 e e2 => ?_⟩
  · obtain ⟨u, u1, u2⟩ := l i n 0 (h1 i n hn g)
    rw [u1]
    congr 1
    omega
  · obtain ⟨_, _, _, _, _, _, f7, _⟩ := toG_f (stB_ok h0) e
    have := (f7 h6).1
    rw [ne i x (by omega)] at e2
    obtain ⟨v, v1, v2⟩ := h3 i n s x u hn h6 e e2
    obtain ⟨v', v3, v4⟩ := l i n v v1
    exact ⟨v', v3, by omega⟩
theorem c_ss4 {w : Nat} (hk : stK m0 a0 c p w) {F : Nat} (hF : 20000 ≤ F) : ∀ (j q N : Nat) (m : aM) (d : D3), j + q = 433 → j + 2 ≤ N → fS a0 m0 m → eD m a0 c p (fun n => w ≤ n % 32) d → SN m0 c p d → laid m0 c p w d → (∀ i, upL (stB m0 c p) c p (coC m0 i) (GC m0 c p i) w q (d i)) → ∃ m1 d1, ll_Way_settleSet_4 F N a0 (nI w) 1 (nI q) m = some (0, m1) ∧ fS a0 m0 m1 ∧ eD m1 a0 c p (fun n => w ≤ n % 32) d1 ∧ SN m0 c p d1 ∧ fin3W m0 c p w d1 ∧ (∀ i k, k % 32 ≠ w → d1 i k = d i k) := fun j => by
  have ok := stB_ok hk.1
  induction j with
  | zero =>
    intro q N m d hj hN f he hQ hl hu
    obtain ⟨N, rfl⟩ : ∃ q, N = q + 1 := ⟨N - 1, by omega⟩
    refine ⟨m, d, ?_, f, he, hQ, fun i l n e v hn h1 h2 => ?_, fun _ _ _ => rfl⟩
    · show lb_Way_settleSet_4 F (ll_Way_settleSet_4 F N) a0 (nI w) 1 (nI q) m = _
      unfold lb_Way_settleSet_4
      rw [if_neg (by decide), if_pos (show (432 : Int32) < nI q from nI_lt (a := 432) (by omega) (by omega))]
    · by_cases z : n % 32 = w
      · exact (hu i).all ok (GC_st i) (by omega) z h1 h2
      · exact hl.2.1 i l n e v (by omega) h1 h2
  | succ j ih =>
    intro q N m d hj hN f he hQ hl hu
    obtain ⟨N, rfl⟩ : ∃ q, N = q + 2 := ⟨N - 2, by omega⟩
    have pb := p6_b (a := c)
    obtain ⟨m1, y2, d1, e1, f1, he1, hS1, le1, at1, ne1, ch⟩ := c_ss25 (F := F) (r4 := ll_Way_settleSet_4 F (N + 1)) (x3 := nI q) hk hF (p6 c) F 0 m d (Nat.le_refl _) (by omega) f he hQ
    have hl1 := hl.le hk.1 le1 ne1
    have st1 : ll_Way_settleSet_4 F (N + 2) a0 (nI w) 1 (nI q) m = ll_Way_settleSet_4 F (N + 1) a0 (nI w) y2 (nI (q + 1)) m1 := by
      show lb_Way_settleSet_4 F (ll_Way_settleSet_4 F (N + 1)) a0 (nI w) 1 (nI q) m = _
      unfold lb_Way_settleSet_4
      rw [if_neg (by decide), if_neg (show ¬ (432 : Int32) < nI q from nI_nlt (a := 432) (by omega) (by omega)), show m a0 7 = nI (p6 c) by rw [f _ _ (by omega)]; exact hk.2.2.1, e1, show nI q + 1 = nI (q + 1) from nI_add q 1]
    have nd : ∀ {n s' x : Nat}, tcG m0 c p n s' = some x → n / 32 < p6 c := fun z => (stB_iff.mp (toG_f ok z).2.2.1).1
    rcases ch with ⟨c1, c2⟩ | ⟨c1, c2⟩
    · refine ⟨m1, d1, ?_, f1, he1, hS1, fun i => finW.of ok (hl1.1 i) (hl1.2.1 i) (hl1.2.2 i) (fun n s x u h1 h2 h3 h4 => ?_), ne1⟩
      · rw [st1, c2]
        show lb_Way_settleSet_4 F (ll_Way_settleSet_4 F N) a0 (nI w) 0 (nI (q + 1)) m1 = _
        unfold lb_Way_settleSet_4
        rw [if_pos rfl]
      · rw [c1] at h4
        exact at1 i n s x u h1 (nd h3) h2 h3 h4
    · rw [c2] at st1
      rw [st1]
      obtain ⟨m2, d2, e2, f2, he2, hS2, fn2, ne2⟩ := ih (q + 1) (N + 1) m1 d1 (by omega) (by omega) f1 he1 hS1 hl1 (fun i => (hu i).s ok (hl1.1 i) (hl1.2.1 i) (hl1.2.2 i) (fun n s x u h1 h2 h3 h4 => at1 i n s x u h1 (nd h3) h2 h3 h4))
      exact ⟨m2, d2, e2, f2, he2, hS2, fn2, fun i k hk => by rw [ne2 i k hk, ne1 i k hk]⟩
theorem c_settle {w : Nat} (hk : stK m0 a0 c p w) {F : Nat} (hF : 20000 ≤ F) {m : aM} {d : D3} (f : fS a0 m0 m) (he : eD m a0 c p (fun n => w ≤ n % 32) d) (hQ : SN m0 c p d) (hl : laid m0 c p w d) : ∃ m1 d1, f_Way_settleSet F a0 (nI w) m = some (0, m1) ∧ fS a0 m0 m1 ∧ eD m1 a0 c p (fun n => w ≤ n % 32) d1 ∧ SN m0 c p d1 ∧ fin3W m0 c p w d1 ∧ (∀ i k, k % 32 ≠ w → d1 i k = d i k) :=
  c_ss4 hk hF 433 0 F m d (by omega) (by omega) f he hQ hl (fun i => upL.z (stB_ok hk.1) (hl.1 i) (hl.2.1 i) (hl.2.2 i))
end
