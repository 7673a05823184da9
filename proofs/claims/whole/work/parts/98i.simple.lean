/-! SWEEPS: each cost is a simple walk's -/
section
variable (to : Nat → Nat → Option Nat) (co : Nat → Nat → Nat)
/-- at each node of a walk the table is no worse than the rest of the walk -/
def dm (d : Nat → Option Nat) : List Nat → Nat → Prop
  | [], n => d n = some 0
  | s :: l, n => (∃ e v w, wr to co (s :: l) n = some (e, v) ∧ d n = some w ∧ w ≤ v) ∧ ∃ x, to n s = some x ∧ dm d l x
def sndS (G : Nat → Prop) (d : Nat → Option Nat) : Prop := ∀ n w, d n = some w → ∃ l e, wr to co l n = some (e, w) ∧ G e ∧ (vis to l n).Nodup ∧ dm to co d l n
end
section
variable {to : Nat → Nat → Option Nat} {co : Nat → Nat → Nat} {G : Nat → Prop}
theorem dm_le {d d' : Nat → Option Nat} (h : dle d' d) : ∀ (l : List Nat) (n : Nat), dm to co d l n → dm to co d' l n
  | [], n, k => by
    obtain ⟨w, e, le⟩ := h n 0 k
    have : w = 0 := by omega
    subst this
    exact e
  | s :: l, n, ⟨⟨e, v, w, k1, k2, k3⟩, x, k4, k5⟩ => by
    obtain ⟨w', e', le⟩ := h n w k2
    exact ⟨⟨e, v, w', k1, e', by omega⟩, x, k4, dm_le h l x k5⟩
theorem dm_mem {d : Nat → Option Nat} : ∀ (l : List Nat) (n e v y : Nat), dm to co d l n → wr to co l n = some (e, v) → y ∈ vis to l n → ∃ w, d y = some w ∧ w ≤ v
  | [], n, e, v, y, k, h, hy => by
    have q : y = n := by simpa [vis] using hy
    subst q
    exact ⟨0, k, by omega⟩
  | s :: l, n, e, v, y, ⟨⟨e', v', w, k1, k2, k3⟩, x, k4, k5⟩, h, hy => by
    rw [vis_cons k4, List.mem_cons] at hy
    have q := Option.some.inj (k1.symm.trans h)
    have qv : v' = v := congrArg Prod.snd q
    rcases hy with rfl | hy
    · exact ⟨w, k2, by omega⟩
    · obtain ⟨x', u, h1, h2, h3⟩ := wr_cons.mp h
      have : x' = x := Option.some.inj (h1.symm.trans k4)
      subst this
      obtain ⟨w', z1, z2⟩ := dm_mem l x' e u y k5 h2 hy
      exact ⟨w', z1, by omega⟩
theorem Rlx.sim {d d' : Nat → Option Nat} {n s : Nat} (h : Rlx to co d d' n s) (k : sndS to co G d) : sndS to co G d' := by
  have le := h.le
  rcases h with ⟨rfl, _⟩ | ⟨x, u, h1, h2, h3, rfl⟩
  · exact k
  · intro q w e
    by_cases c : q = n
    · subst c
      have ew : u + co q s = w := by
        unfold updD at e
        rw [if_pos rfl] at e
        exact Option.some.inj e
      obtain ⟨l, z, z1, z2, z3, z4⟩ := k x u h2
      have w1 : wr to co (s :: l) q = some (z, w) := wr_cons.mpr ⟨x, u, h1, z1, ew.symm⟩
      have nin : ¬ q ∈ vis to l x := fun y => by
        obtain ⟨v, v1, v2⟩ := dm_mem l x z u q z4 z1 y
        have := h3 v v1
        omega
      refine ⟨s :: l, z, w1, z2, ?_, ⟨z, w, w, w1, e, Nat.le_refl _⟩, x, h1, dm_le le l x z4⟩
      rw [vis_cons h1]
      exact List.nodup_cons.mpr ⟨nin, z3⟩
    · unfold updD at e
      rw [if_neg c] at e
      obtain ⟨l, z, z1, z2, z3, z4⟩ := k q w e
      exact ⟨l, z, z1, z2, z3, dm_le le l q z4⟩
theorem sndS.t {d : Nat → Option Nat} (h : sndS to co G d) : sndT to co G d := fun n w e => by
  obtain ⟨l, z, z1, z2, _⟩ := h n w e
  exact ⟨l, z, z1, z2⟩
/-- at the outset only goals have a cost -/
theorem sndS.z {d : Nat → Option Nat} (h : ∀ n w, d n = some w → w = 0 ∧ G n) : sndS to co G d := fun n w e => by
  obtain ⟨rfl, g⟩ := h n w e
  exact ⟨[], n, rfl, g, by simp [vis], e⟩
/-- so each cost has few steps -/
theorem sndS.len {d : Nat → Option Nat} {N n w : Nat} (hN : ∀ n s x, n < N → to n s = some x → x < N) (h : sndS to co G d) (hn : n < N) (e : d n = some w) : ∃ l z, wr to co l n = some (z, w) ∧ G z ∧ (vis to l n).Nodup ∧ l.length < N := by
  obtain ⟨l, z, z1, z2, z3, _⟩ := h n w e
  have k4 := pigeon N _ z3 (vis_lt hN l n z w hn z1)
  rw [vis_len l n z w z1] at k4
  exact ⟨l, z, z1, z2, z3, by omega⟩
end
