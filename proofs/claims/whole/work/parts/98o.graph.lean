/-! WAYS: the graph of both -/
def toG (st : Nat → Bool) (c p n s : Nat) : Option Nat := if st n = true ∧ s < 11 then (match stT c p (n / 32) (n % 32) s with | none => none | some q => if st (32 * q.1 + q.2) = true then some (32 * q.1 + q.2) else none) else none
def stOk (st : Nat → Bool) (c p : Nat) : Prop := c ≤ 3 ∧ p ≤ 5 ∧ ∀ n, st n = true → n / 32 < p6 c ∧ n % 32 < 2 ^ p
theorem toG_iff {st : Nat → Bool} {c p n s x : Nat} : toG st c p n s = some x ↔ st n = true ∧ s < 11 ∧ ∃ q : Nat × Nat, stT c p (n / 32) (n % 32) s = some q ∧ st (32 * q.1 + q.2) = true ∧ x = 32 * q.1 + q.2 := by
  unfold toG
  by_cases k : st n = true ∧ s < 11
  · rw [if_pos k]
    cases e : stT c p (n / 32) (n % 32) s with
    | none => simp
    | some q =>
      show (if st (32 * q.1 + q.2) = true then some (32 * q.1 + q.2) else none) = some x ↔ _
      by_cases k2 : st (32 * q.1 + q.2) = true
      · rw [if_pos k2]
        constructor
        · intro z
          exact ⟨k.1, k.2, q, rfl, k2, (Option.some.inj z).symm⟩
        · rintro ⟨_, _, q', z1, _, z3⟩
          rw [z3, Option.some.inj z1]
      · rw [if_neg k2]
        constructor
        · intro z
          exact absurd z (by simp)
        · rintro ⟨_, _, q', z1, z2, _⟩
          rw [← Option.some.inj z1] at z2
          exact absurd z2 k2
  · rw [if_neg k]
    constructor
    · intro z
      exact absurd z (by simp)
    · rintro ⟨z1, z2, _⟩
      exact absurd ⟨z1, z2⟩ k
theorem stT_some {c p n w s : Nat} {q : Nat × Nat} (hn : n < 216) (hw : w < 32) (hp : p ≤ 5) (h : stT c p n w s = some q) : q.1 < 216 ∧ q.2 < 32 ∧ (s < 6 → q.2 = w) ∧ (6 ≤ s → q.1 = n ∧ w < q.2 ∧ pc5 w < pc5 q.2) ∧ (s < 3 → stg n s ≠ 5) := by
  unfold stT at h
  by_cases s3 : s < 3
  · rw [if_pos s3] at h
    by_cases k : s < c ∧ stg n s ≠ 5
    · rw [if_pos k] at h
      obtain rfl := Option.some.inj h
      exact ⟨stg_up n hn s s3 k.2, hw, fun _ => rfl, fun z => by omega, fun _ => k.2⟩
    · rw [if_neg k] at h
      exact absurd h (by simp)
  · rw [if_neg s3] at h
    by_cases s6 : s < 6
    · rw [if_pos s6] at h
      by_cases k : s - 3 < c ∧ 1 ≤ stg n (s - 3) ∧ stg n (s - 3) ≤ 4
      · rw [if_pos k] at h
        obtain rfl := Option.some.inj h
        exact ⟨show n - p6 (s - 3) < 216 by omega, hw, fun _ => rfl, fun z => by omega, fun z => by omega⟩
      · rw [if_neg k] at h
        exact absurd h (by simp)
    · rw [if_neg s6] at h
      by_cases k : s - 6 < p ∧ w / 2 ^ (s - 6) % 2 = 0
      · rw [if_pos k] at h
        obtain rfl := Option.some.inj h
        obtain ⟨_, b2⟩ := w_bit w hw (s - 6) (by omega)
        obtain ⟨_, b3, b4⟩ := b2 k.2
        have : 0 < 2 ^ (s - 6) := Nat.pow_pos (by decide)
        exact ⟨hn, b3, fun z => by omega, fun _ => ⟨rfl, show w < w + 2 ^ (s - 6) by omega, show pc5 w < pc5 (w + 2 ^ (s - 6)) by omega⟩, fun z => by omega⟩
      · rw [if_neg k] at h
        exact absurd h (by simp)
section
variable {st : Nat → Bool} {c p : Nat}
theorem stOk.lt (ok : stOk st c p) {n : Nat} (h : st n = true) : n < 6912 := by
  have := (ok.2.2 n h).1
  have := (p6_b (a := c)).2
  omega
theorem toG_f (ok : stOk st c p) {n s x : Nat} (h : toG st c p n s = some x) : n < 6912 ∧ x < 6912 ∧ st n = true ∧ st x = true ∧ s < 11 ∧ (s < 6 → x % 32 = n % 32) ∧ (6 ≤ s → n % 32 < x % 32 ∧ pc5 (n % 32) < pc5 (x % 32)) ∧ (s < 3 → stg (n / 32) s ≠ 5) := by
  obtain ⟨h1, h2, q, h3, h4, rfl⟩ := toG_iff.mp h
  have l := ok.lt h1
  obtain ⟨a1, a2, a3, a4, a5⟩ := stT_some (show n / 32 < 216 by omega) (show n % 32 < 32 by omega) ok.2.1 h3
  have e : (32 * q.1 + q.2) % 32 = q.2 := by omega
  exact ⟨l, ok.lt h4, h1, h4, h2, fun z => by rw [e]; exact a3 z, fun z => by rw [e]; exact (a4 z).2, a5⟩
theorem toG_lv (ok : stOk st c p) : ∀ n s x, toG st c p n s = some x → x % 32 = n % 32 ∨ pc5 (n % 32) < pc5 (x % 32) := fun n s x h => by
  obtain ⟨_, _, _, _, _, f6, f7, _⟩ := toG_f ok h
  by_cases k : s < 6
  · exact Or.inl (f6 k)
  · exact Or.inr (f7 (by omega)).2
theorem toG_N (ok : stOk st c p) : ∀ n s x, n < 6912 → toG st c p n s = some x → x < 6912 := fun n s x _ h => (toG_f ok h).2.1
end
section
variable {to : Nat → Nat → Option Nat} {co : Nat → Nat → Nat} {G : Nat → Prop}
theorem wr_le {C : Nat} (hC : ∀ n s x, to n s = some x → co n s ≤ C) : ∀ (l : List Nat) (n e v : Nat), wr to co l n = some (e, v) → v ≤ l.length * C
  | [], n, e, v, h => by
    have : n = e ∧ 0 = v := by simpa [wr] using h
    omega
  | s :: l, n, e, v, h => by
    obtain ⟨x, u, h1, h2, h3⟩ := wr_cons.mp h
    have := wr_le hC l x e u h2
    have := hC n s x h1
    rw [List.length_cons, Nat.add_mul, Nat.one_mul]
    omega
/-- the end of a walk doesn't rest on the costs -/
theorem wr_any {co' : Nat → Nat → Nat} : ∀ (l : List Nat) (n e v : Nat), wr to co l n = some (e, v) → ∃ v', wr to co' l n = some (e, v')
  | [], n, e, v, h => by
    have : n = e ∧ 0 = v := by simpa [wr] using h
    exact ⟨0, by rw [← this.1]; rfl⟩
  | s :: l, n, e, v, h => by
    obtain ⟨x, u, h1, h2, h3⟩ := wr_cons.mp h
    obtain ⟨v', e'⟩ := wr_any l x e u h2
    exact ⟨v' + co' n s, wr_cons.mpr ⟨x, v', h1, e', rfl⟩⟩
end
section
variable (st : Nat → Bool) (c p : Nat) (co : Nat → Nat → Nat) (G : Nat → Prop) (d : Nat → Option Nat)
/-- no walk is cheaper -/
def upA : Prop := ∀ l n e v, n < 6912 → wr (toG st c p) co l n = some (e, v) → G e → ∃ w, d n = some w ∧ w ≤ v
/-- a finished table -/
def Tb : Prop := sndS (toG st c p) co G d ∧ upA st c p co G d
end
section
variable {st : Nat → Bool} {c p : Nat} {co : Nat → Nat → Nat} {G : Nat → Prop} {d d' : Nat → Option Nat}
theorem snd_bd (ok : stOk st c p) {C : Nat} (hC : ∀ n s x, toG st c p n s = some x → co n s ≤ C) (h : sndS (toG st c p) co G d) {n v : Nat} (hn : n < 6912) (e : d n = some v) : v ≤ 1295 * C := by
  obtain ⟨l, z, z1, z2, z3, _⟩ := h n v e
  have k := few_m (toG_lv ok) (toG_N ok) hn z1 z3
  have := wr_le hC l n z v z1
  exact Nat.le_trans this (Nat.mul_le_mul_right C k)
theorem dle.as (h : dle d' d) (k : dle d d') : d' = d := by
  funext n
  cases e : d n with
  | none =>
    cases e' : d' n with
    | none => rfl
    | some w =>
      obtain ⟨u, z, _⟩ := k n w e'
      rw [e] at z
      exact absurd z (by simp)
  | some w =>
    obtain ⟨u, z, l1⟩ := h n w e
    obtain ⟨v, z', l2⟩ := k n u z
    have : v = w := Option.some.inj (z'.symm.trans e)
    rw [z]
    congr 1
    omega
theorem Tb.fix (h : Tb st c p co G d) {n s x u : Nat} (hn : n < 6912) (e : toG st c p n s = some x) (e2 : d x = some u) : ∃ w, d n = some w ∧ w ≤ u + co n s := by
  obtain ⟨l, z, z1, z2, _⟩ := h.1 x u e2
  exact h.2 (s :: l) n z (u + co n s) hn (wr_cons.mpr ⟨x, u, e, z1, rfl⟩) z2
/-- a table below the finished one, whose costs are walks', is the finished one -/
theorem upA.eq (h : upA st c p co G d) (hs : sndT (toG st c p) co G d) (hd : sndT (toG st c p) co G d') (l : dle d' d) {n : Nat} (hn : n < 6912) : d' n = d n := by
  refine same_d (N := 6912) hd hs (fun l' n' e v hn' h1 h2 => ?_) h hn
  obtain ⟨w, w1, w2⟩ := h l' n' e v hn' h1 h2
  obtain ⟨w', w3, w4⟩ := l n' w w1
  exact ⟨w', w3, by omega⟩
end
