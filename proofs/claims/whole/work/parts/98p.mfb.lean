/-! WAYS: the reference's sweeps -/
def enM : Option Nat → Int32
  | none => -1
  | some v => nI v
def kI (k : Bool) : Int32 := if k then 1 else 0
def coM (m0 : aM) (k : Bool) : Nat → Nat → Nat := if k then (fun _ s => if s < 6 then 0 else 1) else cB1 (fun n s => hS m0 (n / 32) s) 10000
abbrev fB (m0 m : aM) : Prop := ∀ b j, b ≠ 8471 → m b j = m0 b j
abbrev fE (m : aM) (d : Nat → Option Nat) : Prop := ∀ n, n < 6912 → m 8471 n = enM (d n)
theorem nI_m1 {v : Nat} (h : v < 2 ^ 31) : ¬ nI v = -1 := fun z => by
  have : (nI v).toInt = (-1 : Int32).toInt := by rw [z]
  rw [nI_toInt h] at this
  have e : (-1 : Int32).toInt = -1 := by decide
  omega
section
variable {m0 : aM} {st : Nat → Bool} {c p : Nat} {k : Bool} {G : Nat → Prop}
theorem fB.pl {m : aM} (h : iPl m0 c p) (f : fB m0 m) : iPl m c p := h.fr (fun b j hb => f b j (by omega))
theorem hS_fr {m : aM} (f : fB m0 m) (n s : Nat) : hS m n s = hS m0 n s := by
  unfold hS
  rw [f 30 _ (by decide), f 32 _ (by decide)]
theorem coM_C (ok : stOk st c p) (h : iPl m0 c p) : ∀ n s x, toG st c p n s = some x → coM m0 k n s ≤ 990001 := fun n s x e => by
  obtain ⟨_, _, _, _, f5, _, _, f8⟩ := toG_f ok e
  unfold coM
  cases k with
  | true =>
    show (if s < 6 then 0 else 1) ≤ 990001
    split <;> omega
  | false =>
    have := hS_b (n := n / 32) h f5 f8
    show 10000 * hS m0 (n / 32) s + 1 ≤ 990001
    omega
theorem m_stepG (ok : stOk st c p) {m : aM} (h : iPl m c p) (hs : ∀ j, j < 6912 → m 8472 j = if st j then 1 else 0) {n s : Nat} (hn : n < 6912) (hst : st n = true) (h11 : s < 11) : f_Mod_stepTo (nI n / 32) (nI n % 32) (nI s) m = some (enM (toG st c p n s)) := by
  rw [show nI n / 32 = nI (n / 32) from nI_div (b := 32) (by omega) (by decide), show nI n % 32 = nI (n % 32) from nI_mod (b := 32) (by omega) (by decide), m_step h (by omega) (by omega) h11]
  congr 1
  unfold toG
  rw [if_pos ⟨hst, h11⟩]
  cases e : stT c p (n / 32) (n % 32) s with
  | none => rfl
  | some q =>
    obtain ⟨a1, a2, _⟩ := stT_some (show n / 32 < 216 by omega) (show n % 32 < 32 by omega) ok.2.1 e
    show (if m 8472 (32 * q.1 + q.2) = 0 then -1 else nI (32 * q.1 + q.2)) = enM (if st (32 * q.1 + q.2) = true then some (32 * q.1 + q.2) else none)
    rw [hs _ (by omega)]
    by_cases k2 : st (32 * q.1 + q.2) = true
    · rw [if_pos k2, if_pos k2, if_neg (by decide)]
      rfl
    · rw [if_neg k2, if_neg k2, if_pos rfl]
      rfl
theorem fE_st {m : aM} {d : Nat → Option Nat} {n v : Nat} (h : fE m d) : fE (a_st m 8471 n (nI v)) (updD d n v) := fun j hj => by
  unfold updD
  rw [a_rd]
  by_cases e : j = n
  · rw [if_pos ⟨rfl, e⟩, if_pos e]
    rfl
  · rw [if_neg (fun z => e z.2), if_neg e]
    exact h j hj
theorem updD_ne {d : Nat → Option Nat} {n v : Nat} (h : ∀ w, d n = some w → v < w) : updD d n v ≠ d := fun z => by
  have e : d n = some v := by
    rw [← z]
    exact if_pos rfl
  have := h v e
  omega
theorem m_fb1 (ok : stOk st c p) (h0 : iPl m0 c p) (hs0 : ∀ j, j < 6912 → m0 8472 j = if st j then 1 else 0) {F : Nat} {r127 : Int32 → Int32 → aM → Option (Int32 × aM)} {r140 : Int32 → Int32 → Int32 → aM → Option (Int32 × aM)} {r148 : Int32 → Int32 → Int32 → Int32 → aM → Option (Int32 × aM)} {n s : Nat} (hn : n < 6912) (hst : st n = true) (h11 : s < 11) {x4 : Int32} {m : aM} {d : Nat → Option Nat} (f : fB m0 m) (he : fE m d) (hQ : sndS (toG st c p) (coM m0 k) G d) : ∃ m1 y4 d1, lb_Mod_findBest_148 F r127 r140 r148 (kI k) x4 (nI n) (nI s) m = r148 (kI k) y4 (nI n) (nI (s + 1)) m1 ∧ fB m0 m1 ∧ fE m1 d1 ∧ Rlx (toG st c p) (coM m0 k) d d1 n s ∧ (d1 = d ∧ y4 = x4 ∨ d1 ≠ d ∧ y4 = 1) := by
  have hp := f.pl h0
  have ib : inb (nI n) 6912 = true := inb_nI hn (by decide)
  have cn : (nI n).toNatClampNeg = n := nI_clamp (by omega)
  have st1 : m 8472 n = 1 := by rw [f _ _ (by decide), hs0 n hn, if_pos hst]
  unfold lb_Mod_findBest_148
  rw [if_neg (show ¬ (11 : Int32) ≤ nI s from nI_ge (b := 11) h11 (by decide)), ib, o_gd_t, cn, st1, if_neg (by decide), m_stepG ok hp (fun j hj => by rw [f _ _ (by decide), hs0 j hj]) hn hst h11, o_b_some]
  have skip : ∀ e0 : (∀ x u, toG st c p n s = some x → d x = some u → ∃ w, d n = some w ∧ w ≤ u + coM m0 k n s), ∃ m1 y4 d1, b_Mod_findBest_287 F r127 r140 r148 (kI k) x4 (nI n) (nI s) m = r148 (kI k) y4 (nI n) (nI (s + 1)) m1 ∧ fB m0 m1 ∧ fE m1 d1 ∧ Rlx (toG st c p) (coM m0 k) d d1 n s ∧ (d1 = d ∧ y4 = x4 ∨ d1 ≠ d ∧ y4 = 1) := fun e0 =>
    ⟨m, x4, d, by unfold b_Mod_findBest_287; rw [show nI s + 1 = nI (s + 1) from nI_add s 1], f, he, Or.inl ⟨rfl, e0⟩, Or.inl ⟨rfl, rfl⟩⟩
  cases eT : toG st c p n s with
  | none =>
    rw [show enM none = -1 from rfl, if_pos rfl]
    exact skip (fun x u z => by rw [eT] at z; exact absurd z (by simp))
  | some x =>
    obtain ⟨_, xl, _, _, _, _, _, h5⟩ := toG_f ok eT
    rw [show enM (some x) = nI x from rfl, if_neg (nI_m1 (by omega)), inb_nI xl (by decide), o_gd_t, nI_clamp (by omega), he x xl]
    cases eD : d x with
    | none =>
      rw [show enM none = -1 from rfl, if_pos rfl]
      exact skip (fun x' u z z2 => by rw [eT] at z; rw [← Option.some.inj z, eD] at z2; exact absurd z2 (by simp))
    | some u =>
      have ub := snd_bd ok (coM_C ok h0) hQ xl eD
      have cb := coM_C (k := k) ok h0 n s x eT
      rw [show enM (some u) = nI u from rfl, if_neg (nI_m1 (by omega))]
      have tail : ∃ m1 y4 d1, b_Mod_findBest_246 F r127 r140 r148 (kI k) x4 (nI n) (nI s) (nI (coM m0 k n s)) (nI u) m = r148 (kI k) y4 (nI n) (nI (s + 1)) m1 ∧ fB m0 m1 ∧ fE m1 d1 ∧ Rlx (toG st c p) (coM m0 k) d d1 n s ∧ (d1 = d ∧ y4 = x4 ∨ d1 ≠ d ∧ y4 = 1) := by
        unfold b_Mod_findBest_246
        rw [ib, o_gd_t, o_gd_t, cn, nI_add]
        have wr1 : (∀ w, d n = some w → u + coM m0 k n s < w) → ∃ m1 y4 d1, b_Mod_findBest_275 F r127 r140 r148 (kI k) (nI n) (nI s) (nI (u + coM m0 k n s)) m = r148 (kI k) y4 (nI n) (nI (s + 1)) m1 ∧ fB m0 m1 ∧ fE m1 d1 ∧ Rlx (toG st c p) (coM m0 k) d d1 n s ∧ (d1 = d ∧ y4 = x4 ∨ d1 ≠ d ∧ y4 = 1) := fun hw =>
          ⟨a_st m 8471 n (nI (u + coM m0 k n s)), 1, updD d n (u + coM m0 k n s), by
            unfold b_Mod_findBest_275 b_Mod_findBest_287
            rw [ib, o_gd_t, o_let_eq, cn, show nI s + 1 = nI (s + 1) from nI_add s 1], fun b j hb => by rw [a_st_no (fun z => hb z.1)]; exact f b j hb, fE_st he, Or.inr ⟨x, u, eT, eD, hw, rfl⟩, Or.inr ⟨updD_ne hw, rfl⟩⟩
        rw [he n hn]
        cases eN : d n with
        | none =>
          rw [show enM none = -1 from rfl, if_pos rfl]
          exact wr1 (fun w z => by rw [eN] at z; exact absurd z (by simp))
        | some w =>
          have wb := snd_bd ok (coM_C ok h0) hQ hn eN
          rw [show enM (some w) = nI w from rfl, if_neg (nI_m1 (by omega))]
          by_cases lt : u + coM m0 k n s < w
          · rw [if_pos ((nI_ltI (by omega) (by omega)).mpr lt)]
            exact wr1 (fun w' z => by rw [eN] at z; rw [← Option.some.inj z]; exact lt)
          · rw [if_neg (fun z => lt ((nI_ltI (by omega) (by omega)).mp z))]
            refine skip (fun x' u' z z2 => ?_)
            rw [eT] at z
            rw [← Option.some.inj z, eD] at z2
            exact ⟨w, eN, by rw [← Option.some.inj z2]; omega⟩
      rw [o_gd_t]
      cases k with
      | false =>
        rw [show kI false = 0 from rfl, if_pos rfl, show nI n / 32 = nI (n / 32) from nI_div (b := 32) (by omega) (by decide), m_cost hp (by omega) h11 h5, o_b_some, hS_fr f, show (10000 : Int32) * nI (hS m0 (n / 32) s) + 1 = nI (coM m0 false n s) from by rw [show (10000 : Int32) = nI 10000 from rfl, nI_mul]; exact nI_add _ 1]
        exact tail
      | true =>
        rw [show kI true = 1 from rfl, if_neg (by decide)]
        by_cases s6 : s < 6
        · rw [if_neg (show ¬ (6 : Int32) ≤ nI s from nI_ge (b := 6) s6 (by decide))]
          have e : coM m0 true n s = 0 := if_pos s6
          rw [e] at tail
          exact tail
        · rw [if_pos (show (6 : Int32) ≤ nI s from nI_le (a := 6) (by omega) (by omega))]
          have e : coM m0 true n s = 1 := if_neg s6
          rw [e] at tail
          exact tail
theorem m_fb148 (ok : stOk st c p) (h0 : iPl m0 c p) (hs0 : ∀ j, j < 6912 → m0 8472 j = if st j then 1 else 0) {F : Nat} {r127 : Int32 → Int32 → aM → Option (Int32 × aM)} {r140 : Int32 → Int32 → Int32 → aM → Option (Int32 × aM)} {n : Nat} (hn : n < 6912) : ∀ (dd s N : Nat) (x4 : Int32) (m : aM) (d : Nat → Option Nat), s + dd = 11 → dd < N → fB m0 m → fE m d → sndS (toG st c p) (coM m0 k) G d → ∃ m1 y4 d1, ll_Mod_findBest_148 F r127 r140 N (kI k) x4 (nI n) (nI s) m = r140 (kI k) y4 (nI n - 1) m1 ∧ fB m0 m1 ∧ fE m1 d1 ∧ sndS (toG st c p) (coM m0 k) G d1 ∧ dle d1 d ∧ (∀ s' x u, s ≤ s' → toG st c p n s' = some x → d x = some u → ∃ w, d1 n = some w ∧ w ≤ u + coM m0 k n s') ∧ (d1 = d ∧ y4 = x4 ∨ d1 ≠ d ∧ y4 = 1)
  | 0, s, N, x4, m, d, hd, hN, f, he, hQ => by
    obtain ⟨N, rfl⟩ : ∃ q, N = q + 1 := ⟨N - 1, by omega⟩
    refine ⟨m, x4, d, ?_, f, he, hQ, dle.rf, fun s' x u h1 h2 => ?_, Or.inl ⟨rfl, rfl⟩⟩
    · show lb_Mod_findBest_148 F r127 r140 (ll_Mod_findBest_148 F r127 r140 N) (kI k) x4 (nI n) (nI s) m = _
      unfold lb_Mod_findBest_148 b_Mod_findBest_293
      rw [if_pos (show (11 : Int32) ≤ nI s from nI_le (a := 11) (by omega) (by omega))]
    · have := (toG_f ok h2).2.2.2.2.1
      omega
  | dd + 1, s, N, x4, m, d, hd, hN, f, he, hQ => by
    obtain ⟨N, rfl⟩ : ∃ q, N = q + 1 := ⟨N - 1, by omega⟩
    have un : ll_Mod_findBest_148 F r127 r140 (N + 1) (kI k) x4 (nI n) (nI s) m = lb_Mod_findBest_148 F r127 r140 (ll_Mod_findBest_148 F r127 r140 N) (kI k) x4 (nI n) (nI s) m := rfl
    rw [un]
    by_cases hst : st n = true
    · obtain ⟨m1, y4, d1, e1, f1, he1, rx, ch⟩ := m_fb1 (k := k) (F := F) (r127 := r127) (r140 := r140) (r148 := ll_Mod_findBest_148 F r127 r140 N) (x4 := x4) ok h0 hs0 hn hst (show s < 11 by omega) f he hQ
      obtain ⟨m2, z4, d2, e2, f2, he2, hS2, le2, at2, ch2⟩ := m_fb148 ok h0 hs0 hn dd (s + 1) N y4 m1 d1 (by omega) (by omega) f1 he1 (rx.sim hQ)
      refine ⟨m2, z4, d2, e1.trans e2, f2, he2, hS2, le2.tr rx.le, fun s' x u h1 h2 h3 => ?_, ?_⟩
      · by_cases es : s' = s
        · subst es
          obtain ⟨w, w1, w2⟩ := rx.at dle.rf h2 h3
          obtain ⟨w', w3, w4⟩ := le2 n w w1
          exact ⟨w', w3, by omega⟩
        · obtain ⟨u1, u2, u3⟩ := rx.le x u h3
          obtain ⟨w, w1, w2⟩ := at2 s' x u1 (by omega) h2 u2
          exact ⟨w, w1, by omega⟩
      · rcases ch with ⟨c1, c2⟩ | ⟨c1, c2⟩
        · rw [← c1, ← c2]
          exact ch2
        · rcases ch2 with ⟨c3, c4⟩ | ⟨c3, c4⟩
          · exact Or.inr ⟨by rw [c3]; exact c1, by rw [c4]; exact c2⟩
          · refine Or.inr ⟨fun z => c3 ?_, c4⟩
            have l2 := le2
            rw [z] at l2
            rw [z]
            exact dle.as l2 rx.le
    · refine ⟨m, x4, d, ?_, f, he, hQ, dle.rf, fun s' x u h1 h2 => absurd (toG_f ok h2).2.2.1 hst, Or.inl ⟨rfl, rfl⟩⟩
      unfold lb_Mod_findBest_148 b_Mod_findBest_293
      rw [if_neg (show ¬ (11 : Int32) ≤ nI s from nI_ge (b := 11) (by omega) (by decide)), inb_nI hn (by decide), o_gd_t, nI_clamp (by omega), show m 8472 n = 0 by rw [f _ _ (by decide), hs0 n hn, if_neg hst], if_pos rfl]
theorem m_fb140 (ok : stOk st c p) (h0 : iPl m0 c p) (hs0 : ∀ j, j < 6912 → m0 8472 j = if st j then 1 else 0) {F : Nat} (hF : 20000 ≤ F) {r127 : Int32 → Int32 → aM → Option (Int32 × aM)} : ∀ (n N : Nat) (x4 : Int32) (m : aM) (d : Nat → Option Nat), n ≤ 6912 → n < N → fB m0 m → fE m d → sndS (toG st c p) (coM m0 k) G d → ∃ m1 y4 d1, ll_Mod_findBest_140 F r127 N (kI k) x4 (nI n - 1) m = r127 (kI k) y4 m1 ∧ fB m0 m1 ∧ fE m1 d1 ∧ sndS (toG st c p) (coM m0 k) G d1 ∧ dle d1 d ∧ (∀ n' s' x u, n' < n → toG st c p n' s' = some x → d x = some u → ∃ w, d1 n' = some w ∧ w ≤ u + coM m0 k n' s') ∧ (d1 = d ∧ y4 = x4 ∨ d1 ≠ d ∧ y4 = 1)
  | 0, N, x4, m, d, hd, hN, f, he, hQ => by
    obtain ⟨N, rfl⟩ : ∃ q, N = q + 1 := ⟨N - 1, by omega⟩
    refine ⟨m, x4, d, ?_, f, he, hQ, dle.rf, fun n' s' x u h1 h2 => by omega, Or.inl ⟨rfl, rfl⟩⟩
    show lb_Mod_findBest_140 F r127 (ll_Mod_findBest_140 F r127 N) (kI k) x4 (nI 0 - 1) m = _
    unfold lb_Mod_findBest_140
    rw [if_pos (by decide)]
  | n + 1, N, x4, m, d, hd, hN, f, he, hQ => by
    obtain ⟨N, rfl⟩ : ∃ q, N = q + 1 := ⟨N - 1, by omega⟩
    obtain ⟨m1, y4, d1, e1, f1, he1, hS1, le1, at1, ch⟩ := m_fb148 (k := k) (G := G) (F := F) (r127 := r127) (r140 := ll_Mod_findBest_140 F r127 N) ok h0 hs0 (show n < 6912 by omega) 11 0 F x4 m d (by omega) (by omega) f he hQ
    obtain ⟨m2, z4, d2, e2, f2, he2, hS2, le2, at2, ch2⟩ := m_fb140 ok h0 hs0 hF n N y4 m1 d1 (by omega) (by omega) f1 he1 hS1
    refine ⟨m2, z4, d2, ?_, f2, he2, hS2, le2.tr le1, fun n' s' x u h1 h2 h3 => ?_, ?_⟩
    · refine Eq.trans ?_ (e1.trans e2)
      show lb_Mod_findBest_140 F r127 (ll_Mod_findBest_140 F r127 N) (kI k) x4 (nI (n + 1) - 1) m = _
      unfold lb_Mod_findBest_140
      rw [nI_pred, if_neg (nI_pos (by omega))]
      rfl
    · by_cases es : n' = n
      · subst es
        obtain ⟨w, w1, w2⟩ := at1 s' x u (by omega) h2 h3
        obtain ⟨w', w3, w4⟩ := le2 n' w w1
        exact ⟨w', w3, by omega⟩
      · obtain ⟨u1, u2, u3⟩ := le1 x u h3
        obtain ⟨w, w1, w2⟩ := at2 n' s' x u1 (by omega) h2 u2
        exact ⟨w, w1, by omega⟩
    · rcases ch with ⟨c1, c2⟩ | ⟨c1, c2⟩
      · rw [← c1, ← c2]
        exact ch2
      · rcases ch2 with ⟨c3, c4⟩ | ⟨c3, c4⟩
        · exact Or.inr ⟨by rw [c3]; exact c1, by rw [c4]; exact c2⟩
        · refine Or.inr ⟨fun z => c3 ?_, c4⟩
          have l2 := le2
          rw [z] at l2
          rw [z]
          exact dle.as l2 le1
end
