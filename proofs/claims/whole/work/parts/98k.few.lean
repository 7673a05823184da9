/-! WAYS: a simple walk has few steps, since what is rewritten only grows -/
section
variable {to : Nat → Nat → Option Nat} {co : Nat → Nat → Nat} {cls pos L : Nat → Nat}
theorem vis_lev (hs : ∀ n s x, to n s = some x → cls x = cls n ∨ L (cls n) < L (cls x)) : ∀ (l : List Nat) (n e v y : Nat), wr to co l n = some (e, v) → y ∈ vis to l n → cls y = cls n ∨ L (cls n) < L (cls y)
  | [], n, e, v, y, _, hy => by
    have q : y = n := by simpa [vis] using hy
    exact Or.inl (by rw [q])
  | s :: l, n, e, v, y, h, hy => by
    obtain ⟨x, u, h1, h2, _⟩ := wr_cons.mp h
    rw [vis_cons h1, List.mem_cons] at hy
    rcases hy with rfl | hy
    · exact Or.inl rfl
    · have k := vis_lev hs l x e u y h2 hy
      rcases hs n s x h1 with q | q
      · rw [q] at k
        exact k
      · rcases k with k | k
        · rw [k]; exact Or.inr q
        · exact Or.inr (by omega)
theorem vis_map {P : Nat} (hs : ∀ n s x, to n s = some x → cls x = cls n ∨ L (cls n) < L (cls x)) (hi : ∀ a b, cls a = cls b → pos a = pos b → a = b) : ∀ (l : List Nat) (n e v : Nat), wr to co l n = some (e, v) → (∀ y ∈ vis to l n, pos y < P) → (vis to l n).Nodup → ((vis to l n).map (fun y => P * L (cls y) + pos y)).Nodup
  | [], n, e, v, _, _, _ => by simp [vis]
  | s :: l, n, e, v, h, hp, hd => by
    obtain ⟨x, u, h1, h2, _⟩ := wr_cons.mp h
    rw [vis_cons h1] at hd hp ⊢
    rw [List.map_cons, List.nodup_cons]
    obtain ⟨d1, d2⟩ := List.nodup_cons.mp hd
    refine ⟨fun z => ?_, vis_map hs hi l x e u h2 (fun y hy => hp y (List.mem_cons_of_mem _ hy)) d2⟩
    obtain ⟨y, hy, ey⟩ := List.mem_map.mp z
    have p1 := hp y (List.mem_cons_of_mem _ hy)
    have p2 := hp n (List.mem_cons_self)
    have eL : L (cls y) = L (cls n) := Nat.le_antisymm (lex1 p2 (Nat.le_of_eq ey)) (lex1 p1 (Nat.le_of_eq ey.symm))
    have ep : pos y = pos n := by rw [eL] at ey; omega
    have k := vis_lev (co := co) hs (s :: l) n e v y h (by rw [vis_cons h1]; exact List.mem_cons_of_mem _ hy)
    rcases k with k | k
    · exact d1 (hi y n k ep ▸ hy)
    · omega
theorem few {P Q : Nat} (hs : ∀ n s x, to n s = some x → cls x = cls n ∨ L (cls n) < L (cls x)) (hi : ∀ a b, cls a = cls b → pos a = pos b → a = b) {l : List Nat} {n e v : Nat} (h : wr to co l n = some (e, v)) (hp : ∀ y ∈ vis to l n, pos y < P) (hq : ∀ y ∈ vis to l n, L (cls y) < Q) (hd : (vis to l n).Nodup) : l.length + 1 ≤ P * Q := by
  have k := pigeon (P * Q) _ (vis_map (co := co) hs hi l n e v h hp hd) (fun z hz => by
    obtain ⟨y, hy, ey⟩ := List.mem_map.mp hz
    have p1 := hp y hy
    have q1 : P * (L (cls y) + 1) ≤ P * Q := Nat.mul_le_mul_left P (hq y hy)
    rw [Nat.mul_add, Nat.mul_one] at q1
    omega)
  rw [List.length_map, vis_len l n e v h] at k
  exact k
end
/-- how many of five are rewritten -/
def pc5 (w : Nat) : Nat := w % 2 + w / 2 % 2 + w / 4 % 2 + w / 8 % 2 + w / 16 % 2
theorem pc5_6 (w : Nat) : pc5 w < 6 := by
  unfold pc5
  omega
/-- as the reference numbers them: node 32 n + w -/
theorem few_m {to : Nat → Nat → Option Nat} {co : Nat → Nat → Nat} (hs : ∀ n s x, to n s = some x → x % 32 = n % 32 ∨ pc5 (n % 32) < pc5 (x % 32)) (hN : ∀ n s x, n < 6912 → to n s = some x → x < 6912) {l : List Nat} {n e v : Nat} (hn : n < 6912) (h : wr to co l n = some (e, v)) (hd : (vis to l n).Nodup) : l.length ≤ 1295 := by
  have lt := vis_lt hN l n e v hn h
  have := few (co := co) (cls := fun y => y % 32) (pos := fun y => y / 32) (L := pc5) (P := 216) (Q := 6) hs (fun a b h1 h2 => by
    have h1 : a % 32 = b % 32 := h1
    have h2 : a / 32 = b / 32 := h2
    omega) h (fun y hy => by
    have := lt y hy
    show y / 32 < 216
    omega) (fun y _ => pc5_6 _) hd
  omega
/-- every walk has one with few steps and no more holding up -/
theorem few_w {to : Nat → Nat → Option Nat} {h : Nat → Nat → Nat} {G : Nat → Prop} (hs : ∀ n s x, to n s = some x → x % 32 = n % 32 ∨ pc5 (n % 32) < pc5 (x % 32)) (hN : ∀ n s x, n < 6912 → to n s = some x → x < 6912) {n : Nat} (hn : n < 6912) : ∀ l e H, wr to h l n = some (e, H) → G e → ∃ l' e' H', wr to h l' n = some (e', H') ∧ G e' ∧ H' ≤ H ∧ l'.length ≤ 1295 := fun l e H k g => by
  obtain ⟨l', v', k1, k2, k3⟩ := simple l n e H k
  exact ⟨l', e, v', k1, g, k2, few_m hs hN hn k1 k3⟩
