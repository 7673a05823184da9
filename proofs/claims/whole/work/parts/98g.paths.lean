/-! WALKS in a graph whose steps are numbered: simple walks are short -/
theorem pigeon : ∀ (N : Nat) (l : List Nat), l.Nodup → (∀ x ∈ l, x < N) → l.length ≤ N
  | 0, l, _, h => by
    cases l with
    | nil => exact Nat.le_refl _
    | cons a l => exact absurd (h a (by simp)) (by omega)
  | N + 1, l, hl, h => by
    by_cases c : N ∈ l
    · have k := pigeon N (l.erase N) (hl.erase N) (fun x hx => by
        have := (hl.mem_erase_iff).mp hx
        have := h x this.2
        omega)
      rw [List.length_erase_of_mem c] at k
      omega
    · have k := pigeon N l hl (fun x hx => by
        have := h x hx
        have : x ≠ N := fun e => c (e ▸ hx)
        omega)
      omega
section
variable (to : Nat → Nat → Option Nat) (co : Nat → Nat → Nat)
/-- where a walk ends, and what it costs -/
def wr : List Nat → Nat → Option (Nat × Nat)
  | [], n => some (n, 0)
  | s :: l, n => match to n s with
    | none => none
    | some x => match wr l x with
      | none => none
      | some (e, v) => some (e, v + co n s)
/-- the nodes on it -/
def vis : List Nat → Nat → List Nat
  | [], n => [n]
  | s :: l, n => n :: match to n s with
    | none => []
    | some x => vis l x
end
section
variable {to : Nat → Nat → Option Nat} {co : Nat → Nat → Nat}
theorem wr_cons {s : Nat} {l : List Nat} {n e v : Nat} : wr to co (s :: l) n = some (e, v) ↔ ∃ x u, to n s = some x ∧ wr to co l x = some (e, u) ∧ v = u + co n s := by
  rw [show wr to co (s :: l) n = (match to n s with | none => none | some x => match wr to co l x with | none => none | some (e, v) => some (e, v + co n s)) from rfl]
  cases h1 : to n s with
  | none => simp
  | some x =>
    cases h2 : wr to co l x with
    | none => simp [h2]
    | some q =>
      obtain ⟨e', u⟩ := q
      simp [h2]
      constructor
      · rintro ⟨rfl, rfl⟩
        exact ⟨u, ⟨rfl, rfl⟩, rfl⟩
      · rintro ⟨u', ⟨rfl, rfl⟩, rfl⟩
        exact ⟨rfl, rfl⟩
theorem vis_cons {s : Nat} {l : List Nat} {n x : Nat} (h : to n s = some x) : vis to (s :: l) n = n :: vis to l x := by
  rw [show vis to (s :: l) n = n :: (match to n s with | none => [] | some x => vis to l x) from rfl, h]
theorem vis_len : ∀ (l : List Nat) (n e v : Nat), wr to co l n = some (e, v) → (vis to l n).length = l.length + 1
  | [], n, e, v, _ => rfl
  | s :: l, n, e, v, h => by
    obtain ⟨x, u, h1, h2, _⟩ := wr_cons.mp h
    rw [vis_cons h1, List.length_cons, vis_len l x e u h2, List.length_cons]
theorem vis_lt {N : Nat} (hN : ∀ n s x, n < N → to n s = some x → x < N) : ∀ (l : List Nat) (n e v : Nat), n < N → wr to co l n = some (e, v) → ∀ x ∈ vis to l n, x < N
  | [], n, e, v, hn, _, x, hx => by
    have : x = n := by simpa [vis] using hx
    omega
  | s :: l, n, e, v, hn, h, x, hx => by
    obtain ⟨y, u, h1, h2, _⟩ := wr_cons.mp h
    rw [vis_cons h1, List.mem_cons] at hx
    rcases hx with rfl | hx
    · exact hn
    · exact vis_lt hN l y e u (hN n s y hn h1) h2 x hx
/-- from any node on a walk the rest of it leads on -/
theorem vis_suf : ∀ (l : List Nat) (n e v x : Nat), wr to co l n = some (e, v) → x ∈ vis to l n → ∃ l' v', wr to co l' x = some (e, v') ∧ v' ≤ v ∧ (vis to l' x).Sublist (vis to l n) ∧ l'.length ≤ l.length
  | [], n, e, v, x, h, hx => by
    have : x = n := by simpa [vis] using hx
    subst this
    exact ⟨[], v, h, Nat.le_refl _, List.Sublist.refl _, Nat.le_refl _⟩
  | s :: l, n, e, v, x, h, hx => by
    obtain ⟨y, u, h1, h2, h3⟩ := wr_cons.mp h
    rw [vis_cons h1, List.mem_cons] at hx
    by_cases c : x = n
    · subst c
      exact ⟨s :: l, v, h, Nat.le_refl _, List.Sublist.refl _, Nat.le_refl _⟩
    · obtain ⟨l', v', k1, k2, k3, k4⟩ := vis_suf l y e u x h2 (hx.resolve_left c)
      refine ⟨l', v', k1, by omega, ?_, by rw [List.length_cons]; omega⟩
      rw [vis_cons h1]
      exact k3.trans (List.sublist_cons_self _ _)
theorem simple : ∀ (l : List Nat) (n e v : Nat), wr to co l n = some (e, v) → ∃ l' v', wr to co l' n = some (e, v') ∧ v' ≤ v ∧ (vis to l' n).Nodup
  | [], n, e, v, h => ⟨[], v, h, Nat.le_refl _, by simp [vis]⟩
  | s :: l, n, e, v, h => by
    obtain ⟨y, u, h1, h2, h3⟩ := wr_cons.mp h
    obtain ⟨l', v', k1, k2, k3⟩ := simple l y e u h2
    by_cases c : n ∈ vis to l' y
    · obtain ⟨l2, v2, q1, q2, q3, _⟩ := vis_suf l' y e v' n k1 c
      exact ⟨l2, v2, q1, by omega, k3.sublist q3⟩
    · refine ⟨s :: l', v' + co n s, wr_cons.mpr ⟨y, v', h1, k1, rfl⟩, by omega, ?_⟩
      rw [vis_cons h1]
      exact List.nodup_cons.mpr ⟨c, k3⟩
/-- a cheapest walk may be taken short -/
theorem short {N : Nat} (hN : ∀ n s x, n < N → to n s = some x → x < N) {l : List Nat} {n e v : Nat} (hn : n < N) (h : wr to co l n = some (e, v)) : ∃ l' v', l'.length < N ∧ wr to co l' n = some (e, v') ∧ v' ≤ v := by
  obtain ⟨l', v', k1, k2, k3⟩ := simple l n e v h
  have k4 := pigeon N _ k3 (vis_lt hN l' n e v' hn k1)
  rw [vis_len l' n e v' k1] at k4
  exact ⟨l', v', by omega, k1, k2⟩
/-- a table of costs that no step betters is below every walk -/
theorem below {G : Nat → Prop} {d : Nat → Option Nat} (hg : ∀ n, G n → d n = some 0) (hs : ∀ n s x u, to n s = some x → d x = some u → ∃ w, d n = some w ∧ w ≤ u + co n s) : ∀ (l : List Nat) (n e v : Nat), wr to co l n = some (e, v) → G e → ∃ w, d n = some w ∧ w ≤ v
  | [], n, e, v, h, he => by
    have : n = e ∧ 0 = v := by simpa [wr] using h
    obtain ⟨rfl, rfl⟩ := this
    exact ⟨0, hg _ he, Nat.le_refl _⟩
  | s :: l, n, e, v, h, he => by
    obtain ⟨y, u, h1, h2, h3⟩ := wr_cons.mp h
    obtain ⟨w, w1, w2⟩ := below hg hs l y e u h2 he
    obtain ⟨z, z1, z2⟩ := hs n s y w h1 w1
    exact ⟨z, z1, by omega⟩
end
