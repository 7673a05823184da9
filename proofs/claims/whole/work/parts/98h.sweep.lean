/-! SWEEPS that better a table of costs step by step -/
/-- d' is nowhere worse than d -/
def dle (d' d : Nat → Option Nat) : Prop := ∀ n w, d n = some w → ∃ w', d' n = some w' ∧ w' ≤ w
theorem dle.rf {d : Nat → Option Nat} : dle d d := fun _ w h => ⟨w, h, Nat.le_refl _⟩
theorem dle.tr {d d1 d2 : Nat → Option Nat} (h : dle d2 d1) (k : dle d1 d) : dle d2 d := fun n w e => by
  obtain ⟨w1, e1, l1⟩ := k n w e
  obtain ⟨w2, e2, l2⟩ := h n w1 e1
  exact ⟨w2, e2, by omega⟩
def updD (d : Nat → Option Nat) (n v : Nat) : Nat → Option Nat := fun k => if k = n then some v else d k
section
variable (to : Nat → Nat → Option Nat) (co : Nat → Nat → Nat)
/-- one step looked at -/
def Rlx (d d' : Nat → Option Nat) (n s : Nat) : Prop := (d' = d ∧ ∀ x u, to n s = some x → d x = some u → ∃ w, d n = some w ∧ w ≤ u + co n s) ∨ ∃ x u, to n s = some x ∧ d x = some u ∧ (∀ w, d n = some w → u + co n s < w) ∧ d' = updD d n (u + co n s)
/-- each cost is a walk's -/
def sndT (G : Nat → Prop) (d : Nat → Option Nat) : Prop := ∀ n w, d n = some w → ∃ l e, wr to co l n = some (e, w) ∧ G e
/-- no walk of few steps is cheaper -/
def upK (G : Nat → Prop) (N k : Nat) (d : Nat → Option Nat) : Prop := ∀ l n e v, l.length ≤ k → n < N → wr to co l n = some (e, v) → G e → ∃ w, d n = some w ∧ w ≤ v
end
section
variable {to : Nat → Nat → Option Nat} {co : Nat → Nat → Nat} {G : Nat → Prop}
theorem Rlx.le {d d' : Nat → Option Nat} {n s : Nat} (h : Rlx to co d d' n s) : dle d' d := by
  rcases h with ⟨rfl, _⟩ | ⟨x, u, _, _, h3, rfl⟩
  · exact dle.rf
  · intro k w e
    unfold updD
    by_cases c : k = n
    · subst c
      have := h3 w e
      exact ⟨_, if_pos rfl, by omega⟩
    · exact ⟨w, by rw [if_neg c]; exact e, Nat.le_refl _⟩
theorem Rlx.sn {d d' : Nat → Option Nat} {n s : Nat} (h : Rlx to co d d' n s) (k : sndT to co G d) : sndT to co G d' := by
  rcases h with ⟨rfl, _⟩ | ⟨x, u, h1, h2, h3, rfl⟩
  · exact k
  · intro q w e
    unfold updD at e
    by_cases c : q = n
    · subst c
      rw [if_pos rfl] at e
      obtain ⟨l, z, z1, z2⟩ := k x u h2
      exact ⟨s :: l, z, wr_cons.mpr ⟨x, u, h1, z1, (Option.some.inj e).symm⟩, z2⟩
    · rw [if_neg c] at e
      exact k q w e
/-- after a step is looked at, it betters nothing that it would have bettered before -/
theorem Rlx.at {d d' d0 : Nat → Option Nat} {n s x u : Nat} (h : Rlx to co d d' n s) (k : dle d d0) (e1 : to n s = some x) (e2 : d0 x = some u) : ∃ w, d' n = some w ∧ w ≤ u + co n s := by
  obtain ⟨u', e3, l3⟩ := k x u e2
  rcases h with ⟨rfl, h2⟩ | ⟨x', v, h1, h2, h3, rfl⟩
  · obtain ⟨w, w1, w2⟩ := h2 x u' e1 e3
    exact ⟨w, w1, by omega⟩
  · have : x' = x := Option.some.inj (h1.symm.trans e1)
    subst this
    have : v = u' := Option.some.inj (h2.symm.trans e3)
    subst this
    exact ⟨_, if_pos rfl, by omega⟩
theorem upK.z {d : Nat → Option Nat} {N : Nat} (hg : ∀ n, G n → d n = some 0) : upK to co G N 0 d := fun l n e v h1 hn h2 he => by
  obtain rfl : l = [] := List.length_eq_zero_iff.mp (by omega)
  have : n = e ∧ 0 = v := by simpa [wr] using h2
  obtain ⟨rfl, rfl⟩ := this
  exact ⟨0, hg _ he, Nat.le_refl _⟩
/-- a whole sweep -/
theorem upK.s {d d0 : Nat → Option Nat} {N k : Nat} (hN : ∀ n s x, n < N → to n s = some x → x < N) (h : upK to co G N k d0) (hg : ∀ n, G n → d n = some 0) (sw : ∀ n s x u, n < N → to n s = some x → d0 x = some u → ∃ w, d n = some w ∧ w ≤ u + co n s) : upK to co G N (k + 1) d := fun l n e v h1 hn h2 he => by
  cases l with
  | nil =>
    have : n = e ∧ 0 = v := by simpa [wr] using h2
    obtain ⟨rfl, rfl⟩ := this
    exact ⟨0, hg _ he, Nat.le_refl _⟩
  | cons s l =>
    obtain ⟨x, u, k1, k2, k3⟩ := wr_cons.mp h2
    rw [List.length_cons] at h1
    obtain ⟨w, w1, w2⟩ := h l x e u (by omega) (hN n s x hn k1) k2 he
    obtain ⟨z, z1, z2⟩ := sw n s x w hn k1 w1
    exact ⟨z, z1, by omega⟩
/-- few sweeps are enough -/
theorem upK.all {d : Nat → Option Nat} {N k : Nat} (hN : ∀ n s x, n < N → to n s = some x → x < N) (h : upK to co G N k d) (hk : N ≤ k + 1) {l : List Nat} {n e v : Nat} (hn : n < N) (h2 : wr to co l n = some (e, v)) (he : G e) : ∃ w, d n = some w ∧ w ≤ v := by
  obtain ⟨l', v', k1, k2, k3⟩ := short hN hn h2
  obtain ⟨w, w1, w2⟩ := h l' n e v' (by omega) hn k2 he
  exact ⟨w, w1, by omega⟩
/-- once they were enough, no step betters anything -/
theorem Rlx.no {d d' : Nat → Option Nat} {n s N k : Nat} (hN : ∀ n s x, n < N → to n s = some x → x < N) (hn : n < N) (h : Rlx to co d d' n s) (hs : sndT to co G d) (hu : upK to co G N k d) (hk : N ≤ k + 1) : d' = d := by
  rcases h with ⟨rfl, _⟩ | ⟨x, u, h1, h2, h3, rfl⟩
  · rfl
  · obtain ⟨l, z, z1, z2⟩ := hs x u h2
    obtain ⟨w, w1, w2⟩ := hu.all hN hk hn (wr_cons.mpr ⟨x, u, h1, z1, rfl⟩) z2
    have := h3 w w1
    omega
/-- two tables that nothing betters are the same -/
theorem same_d {d d' : Nat → Option Nat} {N : Nat} (h1 : sndT to co G d) (h2 : sndT to co G d') (k1 : ∀ l n e v, n < N → wr to co l n = some (e, v) → G e → ∃ w, d n = some w ∧ w ≤ v) (k2 : ∀ l n e v, n < N → wr to co l n = some (e, v) → G e → ∃ w, d' n = some w ∧ w ≤ v) {n : Nat} (hn : n < N) : d n = d' n := by
  cases e : d n with
  | none =>
    cases e' : d' n with
    | none => rfl
    | some w =>
      obtain ⟨l, z, z1, z2⟩ := h2 n w e'
      obtain ⟨w', q, _⟩ := k1 l n z w hn z1 z2
      rw [e] at q
      exact absurd q (by simp)
  | some w =>
    obtain ⟨l, z, z1, z2⟩ := h1 n w e
    obtain ⟨w', q, q2⟩ := k2 l n z w hn z1 z2
    obtain ⟨l', z', z1', z2'⟩ := h2 n w' q
    obtain ⟨w'', r, r2⟩ := k1 l' n z' w' hn z1' z2'
    have : w = w'' := Option.some.inj (e.symm.trans r)
    rw [q]
    congr 1
    omega
end
