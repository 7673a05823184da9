/-! WAYS: both finished tables say the same -/
abbrev hG (m0 : aM) : Nat → Nat → Nat := fun n s => hS m0 (n / 32) s
/-- the reference's table and the class's, of holding up and steps -/
def Two (m0 : aM) (c p : Nat) (dC dM : Nat → Option Nat) : Prop := Tb (stB m0 c p) c p (cB1 (hG m0) 2048) (gG m0 c p true) dC ∧ Tb (stB m0 c p) c p (cB1 (hG m0) 10000) (gG m0 c p true) dM
section
variable {m0 : aM} {c p : Nat} {dC dM : Nat → Option Nat}
theorem Two.at (h0 : iPl m0 c p) (h : Two m0 c p dC dM) {n : Nat} (hn : n < 6912) : (dC n = none ∧ dM n = none) ∨ ∃ H S, S ≤ 1295 ∧ H ≤ 128205 ∧ (S = 0 → H = 0) ∧ dC n = some (2048 * H + S) ∧ dM n = some (10000 * H + S) := by
  have ok := stB_ok h0
  obtain ⟨⟨a1, a2⟩, b1, b2⟩ := h
  have few := few_w (h := hG m0) (G := gG m0 c p true) (toG_lv ok) (toG_N ok) hn
  cases e : dC n with
  | none =>
    cases e' : dM n with
    | none => exact Or.inl ⟨rfl, rfl⟩
    | some v =>
      obtain ⟨l, z, z1, z2, _⟩ := b1 n v e'
      obtain ⟨v', z3⟩ := wr_any (co' := cB1 (hG m0) 2048) l n z v z1
      obtain ⟨w, w1, _⟩ := a2 l n z v' hn z3 z2
      rw [e] at w1
      exact absurd w1 (by simp)
  | some v =>
    obtain ⟨l, z, z1, z2, z3, _⟩ := a1 n v e
    obtain ⟨v', q3⟩ := wr_any (co' := cB1 (hG m0) 10000) l n z v z1
    obtain ⟨D', w1, _⟩ := b2 l n z v' hn q3 z2
    have opC : ∀ l e' u, wr (tcG m0 c p) (cB1 (hG m0) 2048) l n = some (e', u) → gG m0 c p true e' → v ≤ u := fun l e' u k1 k2 => by
      obtain ⟨x, x1, x2⟩ := a2 l n e' u hn k1 k2
      rw [e] at x1
      rw [Option.some.inj x1]
      exact x2
    have opM : ∀ l e' u, wr (tcG m0 c p) (cB1 (hG m0) 10000) l n = some (e', u) → gG m0 c p true e' → D' ≤ u := fun l e' u k1 k2 => by
      obtain ⟨x, x1, x2⟩ := b2 l n e' u hn k1 k2
      rw [w1] at x1
      rw [Option.some.inj x1]
      exact x2
    obtain ⟨l', z', y1, y2, _⟩ := b1 n D' w1
    obtain ⟨H, S, s1, s2, s3, _⟩ := bases (B := 2048) (B' := 10000) (M := 1295) (by decide) (by decide) few ⟨l, z, z1, z2⟩ opC ⟨l', z', y1, y2⟩ opM
    have lf := few_m (toG_lv ok) (toG_N ok) hn z1 z3
    obtain ⟨H1, x1, x2⟩ := (wr_base l n z v).mp z1
    have hH : H1 = H ∧ l.length = S := by
      have q : 2048 * H1 + l.length = 2048 * H + S := x2.symm.trans s2
      omega
    have hb := wr_le (C := 99) (fun n s x k => by
      obtain ⟨_, _, _, _, f5, _, _, f8⟩ := toG_f ok k
      exact hS_b (n := n / 32) h0 f5 f8) l n z H1 x1
    refine Or.inr ⟨H, S, s1, ?_, fun z0 => ?_, by rw [s2], by rw [w1, s3]⟩
    · rw [← hH.1]
      have : l.length * 99 ≤ 1295 * 99 := Nat.mul_le_mul_right 99 lf
      omega
    · have : l = [] := List.length_eq_zero_iff.mp (hH.2.trans z0)
      subst this
      have : n = z ∧ 0 = H1 := by simpa [wr] using x1
      omega
/-- a step that keeps to the least -/
def sP (m0 : aM) (c p : Nat) (d : Nat → Option Nat) (B n s : Nat) : Prop := ∃ x u, tcG m0 c p n s = some x ∧ d x = some u ∧ d n = some (u + (B * hG m0 n s + 1))
theorem sP_two (h0 : iPl m0 c p) (h : Two m0 c p dC dM) {n s : Nat} (hn : n < 6912) : sP m0 c p dC 2048 n s ↔ sP m0 c p dM 10000 n s := by
  have hn' := h.at h0 hn
  constructor
  · rintro ⟨x, u, e1, e2, e3⟩
    have xl := (toG_f (stB_ok h0) e1).2.1
    rcases h.at h0 xl with ⟨k1, _⟩ | ⟨H', S', k1, k2, k3, k4, k5⟩
    · rw [k1] at e2
      exact absurd e2 (by simp)
    · rcases hn' with ⟨j1, _⟩ | ⟨H, S, j1, j2, j3, j4, j5⟩
      · rw [j1] at e3
        exact absurd e3 (by simp)
      · rw [k4] at e2
        rw [j4] at e3
        have := Option.some.inj e2
        have := Option.some.inj e3
        refine ⟨x, _, e1, k5, ?_⟩
        rw [j5]
        congr 1
        exact ((base_step (B := 2048) (B' := 10000) (c := hG m0 n s) (by omega) (by omega) (by omega) (by omega)).mp (by omega)).symm
  · rintro ⟨x, u, e1, e2, e3⟩
    have xl := (toG_f (stB_ok h0) e1).2.1
    rcases h.at h0 xl with ⟨_, k1⟩ | ⟨H', S', k1, k2, k3, k4, k5⟩
    · rw [k1] at e2
      exact absurd e2 (by simp)
    · rcases hn' with ⟨_, j1⟩ | ⟨H, S, j1, j2, j3, j4, j5⟩
      · rw [j1] at e3
        exact absurd e3 (by simp)
      · rw [k5] at e2
        rw [j5] at e3
        have := Option.some.inj e2
        have := Option.some.inj e3
        refine ⟨x, _, e1, k4, ?_⟩
        rw [j4]
        congr 1
        exact ((base_step (B := 2048) (B' := 10000) (c := hG m0 n s) (by omega) (by omega) (by omega) (by omega)).mpr (by omega)).symm
/-- there is one as long as the goal isn't reached, and it takes one step off -/
theorem sP_ex (h : Tb (stB m0 c p) c p (cB1 (hG m0) 10000) (gG m0 c p true) dM) {n v : Nat} (hn : n < 6912) (e : dM n = some v) (hv : v ≠ 0) : ∃ s, sP m0 c p dM 10000 n s := by
  obtain ⟨l, z, z1, z2, _⟩ := h.1 n v e
  cases l with
  | nil =>
    have : n = z ∧ 0 = v := by simpa [wr] using z1
    omega
  | cons s l =>
    obtain ⟨x, u, k1, k2, k3⟩ := wr_cons.mp z1
    have xl : x < 6912 := by
      obtain ⟨_, _, q, _, g2, g3⟩ := toG_iff.mp k1
      rw [g3]
      have := (stB_iff.mp g2).1
      have := (p6_b (a := c)).2
      omega
    obtain ⟨u', w1, w2⟩ := h.2 l x z u xl k2 z2
    obtain ⟨v', w3, w4⟩ := h.fix hn k1 w1
    rw [e] at w3
    have hv' : v = v' := Option.some.inj w3
    refine ⟨s, x, u', k1, w1, ?_⟩
    rw [e]
    congr 1
    unfold cB1 at k3 w4
    omega
theorem least {P : Nat → Prop} : ∀ (s : Nat), P s → ∃ t, t ≤ s ∧ P t ∧ ∀ r, r < t → ¬ P r
  | 0, h => ⟨0, Nat.le_refl _, h, fun r hr => by omega⟩
  | s + 1, h => by
    by_cases c : ∃ r, r < s + 1 ∧ P r
    · obtain ⟨r, hr, k⟩ := c
      have key : ∀ (q : Nat), ∀ r, r ≤ q → P r → ∃ t, t ≤ r ∧ P t ∧ ∀ r', r' < t → ¬ P r' := fun q => by
        induction q with
        | zero =>
          intro r hr k
          obtain rfl : r = 0 := by omega
          exact ⟨0, Nat.le_refl _, k, fun r hr => by omega⟩
        | succ q ih =>
          intro r hr k
          by_cases z : ∃ r', r' < r ∧ P r'
          · obtain ⟨r', z1, z2⟩ := z
            obtain ⟨t, t1, t2, t3⟩ := ih r' (by omega) z2
            exact ⟨t, by omega, t2, t3⟩
          · exact ⟨r, Nat.le_refl _, k, fun r' z1 z2 => z ⟨r', z1, z2⟩⟩
      obtain ⟨t, t1, t2, t3⟩ := key r r (Nat.le_refl _) k
      exact ⟨t, by omega, t2, t3⟩
    · exact ⟨s + 1, Nat.le_refl _, h, fun r hr k => c ⟨r, hr, k⟩⟩
/-- the step that is taken -/
theorem sP_first (h0 : iPl m0 c p) (h : Two m0 c p dC dM) {n H S : Nat} (hn : n < 6912) (e : dM n = some (10000 * H + S)) (hS1 : S ≤ 1295) (hS : S ≠ 0) : ∃ s x H', s < 11 ∧ tcG m0 c p n s = some x ∧ sP m0 c p dM 10000 n s ∧ (∀ r, r < s → ¬ sP m0 c p dM 10000 n r) ∧ x < 6912 ∧ dM x = some (10000 * H' + (S - 1)) := by
  obtain ⟨s0, k0⟩ := sP_ex h.2 hn e (by omega)
  obtain ⟨s, _, k, kl⟩ := least s0 k0
  obtain ⟨x, u, e1, e2, e3⟩ := id k
  obtain ⟨_, xl, _, _, s11, _⟩ := toG_f (stB_ok h0) e1
  rcases h.at h0 xl with ⟨_, k1⟩ | ⟨H', S', k1, k2, k3, k4, k5⟩
  · rw [k1] at e2
    exact absurd e2 (by simp)
  · refine ⟨s, x, H', s11, e1, k, kl, xl, ?_⟩
    rw [k5] at e2
    rw [e] at e3
    have q1 := Option.some.inj e2
    have q2 := Option.some.inj e3
    rw [k5]
    congr 1
    have : S' + 1 = S := by omega
    omega
end
