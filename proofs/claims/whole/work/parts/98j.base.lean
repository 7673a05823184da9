/-! WAYS: the least holding up, then the least steps, by either base -/
section
variable {to : Nat → Nat → Option Nat} {h : Nat → Nat → Nat} {G : Nat → Prop}
def cB1 (h : Nat → Nat → Nat) (B : Nat) : Nat → Nat → Nat := fun n s => B * h n s + 1
theorem wr_base {B : Nat} : ∀ (l : List Nat) (n e v : Nat), wr to (cB1 h B) l n = some (e, v) ↔ ∃ H, wr to h l n = some (e, H) ∧ v = B * H + l.length
  | [], n, e, v => by
    constructor
    · intro z
      have q : n = e ∧ 0 = v := by simpa [wr] using z
      exact ⟨0, by rw [q.1]; rfl, by simp [q.2.symm]⟩
    · rintro ⟨H, z, q⟩
      have r : n = e ∧ 0 = H := by simpa [wr] using z
      obtain ⟨rfl, rfl⟩ := r
      rw [q]
      simp [wr]
  | s :: l, n, e, v => by
    constructor
    · intro z
      obtain ⟨x, u, k1, k2, k3⟩ := wr_cons.mp z
      obtain ⟨H, q1, q2⟩ := (wr_base l x e u).mp k2
      refine ⟨H + h n s, wr_cons.mpr ⟨x, H, k1, q1, rfl⟩, ?_⟩
      rw [k3, q2, List.length_cons, Nat.mul_add]
      unfold cB1
      omega
    · rintro ⟨H, z, q⟩
      obtain ⟨x, u, k1, k2, k3⟩ := wr_cons.mp z
      refine wr_cons.mpr ⟨x, B * u + l.length, k1, (wr_base l x e _).mpr ⟨u, k2, rfl⟩, ?_⟩
      rw [q, k3, List.length_cons, Nat.mul_add]
      unfold cB1
      omega
theorem lex1 {B H H' S S' : Nat} (hS : S' < B) (h : B * H + S ≤ B * H' + S') : H ≤ H' := by
  by_cases c : H' < H
  · have : B * (H' + 1) ≤ B * H := Nat.mul_le_mul_left B c
    rw [Nat.mul_add, Nat.mul_one] at this
    omega
  · omega
theorem lex2 {B H S S' : Nat} (h : B * H + S ≤ B * H + S') : S ≤ S' := by omega
/-- a least cost by base B: least holding up, few steps -/
theorem base1 {B M D n : Nat} (hM : M < B) (few : ∀ l e H, wr to h l n = some (e, H) → G e → ∃ l' e' H', wr to h l' n = some (e', H') ∧ G e' ∧ H' ≤ H ∧ l'.length ≤ M) (sd : ∃ l e, wr to (cB1 h B) l n = some (e, D) ∧ G e) (op : ∀ l e v, wr to (cB1 h B) l n = some (e, v) → G e → D ≤ v) : ∃ l e H, wr to h l n = some (e, H) ∧ G e ∧ l.length ≤ M ∧ D = B * H + l.length := by
  obtain ⟨l, e, k1, k2⟩ := sd
  obtain ⟨H, q1, q2⟩ := (wr_base l n e D).mp k1
  obtain ⟨l', e', H', r1, r2, r3, r4⟩ := few l e H q1 k2
  have o := op l' e' (B * H' + l'.length) ((wr_base l' n e' _).mpr ⟨H', r1, rfl⟩) r2
  have : B * H' ≤ B * H := Nat.mul_le_mul_left B r3
  exact ⟨l, e, H, q1, k2, by omega, q2⟩
theorem bases {B B' M D D' n : Nat} (hM : M < B) (hM' : M < B') (few : ∀ l e H, wr to h l n = some (e, H) → G e → ∃ l' e' H', wr to h l' n = some (e', H') ∧ G e' ∧ H' ≤ H ∧ l'.length ≤ M) (sd : ∃ l e, wr to (cB1 h B) l n = some (e, D) ∧ G e) (op : ∀ l e v, wr to (cB1 h B) l n = some (e, v) → G e → D ≤ v) (sd' : ∃ l e, wr to (cB1 h B') l n = some (e, D') ∧ G e) (op' : ∀ l e v, wr to (cB1 h B') l n = some (e, v) → G e → D' ≤ v) : ∃ H S, S ≤ M ∧ D = B * H + S ∧ D' = B' * H + S ∧ D / B = H ∧ D' / B' = H ∧ D % B = S ∧ D' % B' = S := by
  obtain ⟨l, e, H, a1, a2, a3, a4⟩ := base1 hM few sd op
  obtain ⟨l', e', H', b1, b2, b3, b4⟩ := base1 hM' few sd' op'
  have c1 := op l' e' (B * H' + l'.length) ((wr_base l' n e' _).mpr ⟨H', b1, rfl⟩) b2
  have c2 := op' l e (B' * H + l.length) ((wr_base l n e _).mpr ⟨H, a1, rfl⟩) a2
  rw [a4] at c1
  rw [b4] at c2
  have hH : H = H' := Nat.le_antisymm (lex1 (by omega) c1) (lex1 (by omega) c2)
  subst hH
  have hS : l.length = l'.length := Nat.le_antisymm (lex2 c1) (lex2 c2)
  refine ⟨H, l.length, a3, a4, by rw [b4, hS], ?_, ?_, ?_, ?_⟩
  · rw [a4, Nat.mul_add_div (by omega), Nat.div_eq_of_lt (by omega), Nat.add_zero]
  · rw [b4, Nat.mul_add_div (by omega), Nat.div_eq_of_lt (by omega), Nat.add_zero]
  · rw [a4, Nat.mul_add_mod, Nat.mod_eq_of_lt (by omega)]
  · rw [b4, Nat.mul_add_mod, Nat.mod_eq_of_lt (by omega), hS]
/-- a step keeps to the least cost by one base as by the other -/
theorem base_step {B B' H S H' S' c : Nat} (h1 : S < B) (h1' : S' + 1 < B) (h2 : S < B') (h2' : S' + 1 < B') : B * H' + S' + (B * c + 1) = B * H + S ↔ B' * H' + S' + (B' * c + 1) = B' * H + S := by
  have key : ∀ B, S < B → S' + 1 < B → (B * H' + S' + (B * c + 1) = B * H + S ↔ H' + c = H ∧ S' + 1 = S) := fun B k1 k2 => by
    have e : B * H' + S' + (B * c + 1) = B * (H' + c) + (S' + 1) := by rw [Nat.mul_add]; omega
    rw [e]
    constructor
    · intro z
      have hH : H' + c = H := Nat.le_antisymm (lex1 k1 (Nat.le_of_eq z)) (lex1 k2 (Nat.le_of_eq z.symm))
      refine ⟨hH, ?_⟩
      rw [hH] at z
      omega
    · rintro ⟨rfl, rfl⟩
      rfl
  rw [key B h1 h1', key B' h2 h2']
end
