/-! WAYS: sweeps over one set alone -/
def lo : List Nat → Nat
  | [] => 0
  | s :: l => if s < 6 then lo l + 1 else 0
theorem lo_len : ∀ l, lo l ≤ l.length
  | [] => Nat.le_refl _
  | s :: l => by
    have := lo_len l
    unfold lo
    rw [List.length_cons]
    split <;> omega
section
variable (st : Nat → Bool) (c p : Nat) (co : Nat → Nat → Nat) (G : Nat → Prop)
/-- no walk with few steps in set w first is cheaper -/
def upL (w k : Nat) (d : Nat → Option Nat) : Prop := ∀ l n e v, n % 32 = w → lo l ≤ k → wr (toG st c p) co l n = some (e, v) → G e → ∃ u, d n = some u ∧ u ≤ v
/-- the sets from w on are finished -/
def finW (w : Nat) (d : Nat → Option Nat) : Prop := ∀ l n e v, w ≤ n % 32 → wr (toG st c p) co l n = some (e, v) → G e → ∃ u, d n = some u ∧ u ≤ v
/-- rewriting steps from set w better nothing -/
def rwF (w : Nat) (d : Nat → Option Nat) : Prop := ∀ n s x u, n % 32 = w → 6 ≤ s → toG st c p n s = some x → d x = some u → ∃ v, d n = some v ∧ v ≤ u + co n s
end
section
variable {st : Nat → Bool} {c p : Nat} {co : Nat → Nat → Nat} {G : Nat → Prop} {d d0 : Nat → Option Nat} {w k : Nat}
theorem upL.z (ok : stOk st c p) (hg : ∀ n, n % 32 = w → G n → d n = some 0) (hf : finW st c p co G (w + 1) d) (hr : rwF st c p co w d) : upL st c p co G w 0 d := fun l n e v hn hl h he => by
  cases l with
  | nil =>
    have : n = e ∧ 0 = v := by simpa [wr] using h
    obtain ⟨rfl, rfl⟩ := this
    exact ⟨0, hg _ hn he, Nat.le_refl _⟩
  | cons s l =>
    obtain ⟨x, u, k1, k2, k3⟩ := wr_cons.mp h
    by_cases s6 : s < 6
    · unfold lo at hl
      rw [if_pos s6] at hl
      omega
    · obtain ⟨_, _, _, _, _, _, f7, _⟩ := toG_f ok k1
      have := (f7 (by omega)).1
      obtain ⟨u', z1, z2⟩ := hf l x e u (by omega) k2 he
      obtain ⟨v', z3, z4⟩ := hr n s x u' hn (by omega) k1 z1
      exact ⟨v', z3, by omega⟩
theorem upL.s (ok : stOk st c p) (h0 : upL st c p co G w k d0) (hg : ∀ n, n % 32 = w → G n → d n = some 0) (hf : finW st c p co G (w + 1) d) (hr : rwF st c p co w d) (sw : ∀ n s x u, n % 32 = w → s < 6 → toG st c p n s = some x → d0 x = some u → ∃ v, d n = some v ∧ v ≤ u + co n s) : upL st c p co G w (k + 1) d := fun l n e v hn hl h he => by
  cases l with
  | nil =>
    have : n = e ∧ 0 = v := by simpa [wr] using h
    obtain ⟨rfl, rfl⟩ := this
    exact ⟨0, hg _ hn he, Nat.le_refl _⟩
  | cons s l =>
    obtain ⟨x, u, k1, k2, k3⟩ := wr_cons.mp h
    obtain ⟨_, _, _, _, _, f6, f7, _⟩ := toG_f ok k1
    by_cases s6 : s < 6
    · unfold lo at hl
      rw [if_pos s6] at hl
      obtain ⟨u', z1, z2⟩ := h0 l x e u (by rw [f6 s6, hn]) (by omega) k2 he
      obtain ⟨v', z3, z4⟩ := sw n s x u' hn s6 k1 z1
      exact ⟨v', z3, by omega⟩
    · have := (f7 (by omega)).1
      obtain ⟨u', z1, z2⟩ := hf l x e u (by omega) k2 he
      obtain ⟨v', z3, z4⟩ := hr n s x u' hn (by omega) k1 z1
      exact ⟨v', z3, by omega⟩
theorem lo_vis (ok : stOk st c p) : ∀ (l : List Nat) (n e v : Nat), wr (toG st c p) co l n = some (e, v) → ∀ y ∈ (vis (toG st c p) l n).take (lo l + 1), y % 32 = n % 32
  | [], n, e, v, h, y, hy => by
    have : y = n := by simpa [vis] using List.mem_of_mem_take hy
    rw [this]
  | s :: l, n, e, v, h, y, hy => by
    obtain ⟨x, u, k1, k2, k3⟩ := wr_cons.mp h
    obtain ⟨_, _, _, _, _, f6, f7, _⟩ := toG_f ok k1
    rw [vis_cons k1, List.take_succ_cons, List.mem_cons] at hy
    rcases hy with rfl | hy
    · rfl
    · by_cases s6 : s < 6
      · rw [show lo (s :: l) = lo l + 1 from if_pos s6] at hy
        rw [lo_vis ok l x e u k2 y hy, f6 s6]
      · rw [show lo (s :: l) = 0 from if_neg s6] at hy
        exact absurd hy (by simp)
theorem lo_216 (ok : stOk st c p) {l : List Nat} {n e v : Nat} (hn : n < 6912) (h : wr (toG st c p) co l n = some (e, v)) (hd : (vis (toG st c p) l n).Nodup) : lo l < 216 := by
  have lt := vis_lt (toG_N ok) l n e v hn h
  have lv := lo_vis ok l n e v h
  have ndp : (((vis (toG st c p) l n).take (lo l + 1)).map (· / 32)).Nodup := by
    have nd1 := hd.sublist (List.take_sublist (lo l + 1) _)
    refine (List.pairwise_map).mpr (nd1.imp_of_mem (fun {a b} ha hb hab => ?_))
    have h1 := lv a ha
    have h2 := lv b hb
    intro z
    have z : a / 32 = b / 32 := z
    exact hab (by omega)
  have k4 := pigeon 216 _ ndp (fun z hz => by
    obtain ⟨y, hy, rfl⟩ := List.mem_map.mp hz
    have := lt y (List.mem_of_mem_take hy)
    show y / 32 < 216
    omega)
  rw [List.length_map, List.length_take, vis_len l n e v h] at k4
  have := lo_len l
  omega
theorem upL.all (ok : stOk st c p) (hG : ∀ n, G n → st n = true) (h : upL st c p co G w k d) (hk : 215 ≤ k) {l : List Nat} {n e v : Nat} (hn : n % 32 = w) (h1 : wr (toG st c p) co l n = some (e, v)) (h2 : G e) : ∃ u, d n = some u ∧ u ≤ v := by
  obtain ⟨l', v', k1, k2, k3⟩ := simple l n e v h1
  have l6 : n < 6912 := by
    cases l with
    | nil =>
      have : n = e ∧ 0 = v := by simpa [wr] using h1
      rw [this.1]
      exact ok.lt (hG e h2)
    | cons s l =>
      obtain ⟨x, u, q1, _⟩ := wr_cons.mp h1
      exact (toG_f ok q1).1
  have := lo_216 ok l6 k1 k3
  obtain ⟨u, u1, u2⟩ := h l' n e v' hn (by omega) k1 h2
  exact ⟨u, u1, by omega⟩
/-- a sweep that betters nothing: set w is finished -/
theorem finW.of (ok : stOk st c p) (hg : ∀ n, n % 32 = w → G n → d n = some 0) (hf : finW st c p co G (w + 1) d) (hr : rwF st c p co w d) (sw : ∀ n s x u, n % 32 = w → s < 6 → toG st c p n s = some x → d x = some u → ∃ v, d n = some v ∧ v ≤ u + co n s) : finW st c p co G w d := fun l => by
  induction l with
  | nil =>
    intro n e v hn h he
    have : n = e ∧ 0 = v := by simpa [wr] using h
    obtain ⟨rfl, rfl⟩ := this
    by_cases z : n % 32 = w
    · exact ⟨0, hg _ z he, Nat.le_refl _⟩
    · exact hf [] n n 0 (by omega) rfl he
  | cons s l ih =>
    intro n e v hn h he
    by_cases z : n % 32 = w
    · obtain ⟨x, u, k1, k2, k3⟩ := wr_cons.mp h
      obtain ⟨_, _, _, _, _, f6, f7, _⟩ := toG_f ok k1
      by_cases s6 : s < 6
      · obtain ⟨u', z1, z2⟩ := ih x e u (by rw [f6 s6]; omega) k2 he
        obtain ⟨v', z3, z4⟩ := sw n s x u' z s6 k1 z1
        exact ⟨v', z3, by omega⟩
      · have := (f7 (by omega)).1
        obtain ⟨u', z1, z2⟩ := hf l x e u (by omega) k2 he
        obtain ⟨v', z3, z4⟩ := hr n s x u' z (by omega) k1 z1
        exact ⟨v', z3, by omega⟩
    · exact hf (s :: l) n e v (by omega) h he
theorem finW.le {d' : Nat → Option Nat} (h : finW st c p co G w d) (l : dle d' d) : finW st c p co G w d' := fun q n e v hn h1 h2 => by
  obtain ⟨u, u1, u2⟩ := h q n e v hn h1 h2
  obtain ⟨u', u3, u4⟩ := l n u u1
  exact ⟨u', u3, by omega⟩
theorem finW.top (ok : stOk st c p) (hG : ∀ n, G n → st n = true) (hw : 2 ^ p ≤ w) : finW st c p co G w d := fun l n e v hn h1 h2 => by
  have hs : st n = true := by
    cases l with
    | nil =>
      have : n = e ∧ 0 = v := by simpa [wr] using h1
      rw [this.1]
      exact hG e h2
    | cons s l =>
      obtain ⟨x, u, q1, _⟩ := wr_cons.mp h1
      exact (toG_f ok q1).2.2.1
  have := (ok.2.2 n hs).2
  omega
theorem finW.upA (h : finW st c p co G 0 d) : upA st c p co G d := fun l n e v _ h1 h2 => h l n e v (by omega) h1 h2
theorem snd_st (ok : stOk st c p) (hG : ∀ n, G n → st n = true) (h : sndT (toG st c p) co G d) {n u : Nat} (e : d n = some u) : st n = true := by
  obtain ⟨l, z, z1, z2⟩ := h n u e
  cases l with
  | nil =>
    have : n = z ∧ 0 = u := by simpa [wr] using z1
    rw [this.1]
    exact hG z z2
  | cons s l =>
    obtain ⟨x, v, h1, _⟩ := wr_cons.mp z1
    exact (toG_f ok h1).2.2.1
end
/-! the class's numbering -/
def ix (c n : Nat) : Nat := n % 32 * p6 c + n / 32
theorem ix_lt {c n : Nat} (h : n / 32 < p6 c) : ix c n < 6912 := by
  have pb := p6_b (a := c)
  have h1 : n % 32 * p6 c ≤ 31 * p6 c := Nat.mul_le_mul_right _ (by omega)
  unfold ix
  omega
theorem ix_inj {c n n' : Nat} (h : n / 32 < p6 c) (h' : n' / 32 < p6 c) (e : ix c n = ix c n') : n = n' := by
  have d1 : ix c n / p6 c = n % 32 := by
    unfold ix
    rw [Nat.mul_comm, Nat.mul_add_div (by omega), Nat.div_eq_of_lt h, Nat.add_zero]
  have d2 : ix c n' / p6 c = n' % 32 := by
    unfold ix
    rw [Nat.mul_comm, Nat.mul_add_div (by omega), Nat.div_eq_of_lt h', Nat.add_zero]
  have m1 : ix c n % p6 c = n / 32 := by
    unfold ix
    rw [Nat.mul_comm, Nat.mul_add_mod, Nat.mod_eq_of_lt h]
  have m2 : ix c n' % p6 c = n' / 32 := by
    unfold ix
    rw [Nat.mul_comm, Nat.mul_add_mod, Nat.mod_eq_of_lt h']
  rw [e] at d1 m1
  omega
theorem ix_p {c x y : Nat} (hy : y < 32) : ix c (32 * x + y) = y * p6 c + x := by
  unfold ix
  rw [show (32 * x + y) % 32 = y by omega, show (32 * x + y) / 32 = x by omega]
theorem stT_up : ∀ c, c < 4 → ∀ n, n < 216 → ∀ s, s < 3 → n < p6 c ∧ s < c ∧ stg n s ≠ 5 → n + p6 s < p6 c := by decide +kernel
theorem w_up : ∀ p, p < 6 → ∀ w, w < 32 → ∀ q, q < 5 → w < 2 ^ p ∧ q < p ∧ w / 2 ^ q % 2 = 0 → w + 2 ^ q < 2 ^ p := by decide +kernel
theorem stT_in {c p n w s : Nat} {q : Nat × Nat} (hc : c ≤ 3) (hp : p ≤ 5) (hn : n < p6 c) (hw : w < 2 ^ p) (h : stT c p n w s = some q) : q.1 < p6 c ∧ q.2 < 2 ^ p := by
  have n2 : n < 216 := by have := (p6_b (a := c)).2; omega
  have w2 : w < 32 := by have : 2 ^ p ≤ 2 ^ 5 := Nat.pow_le_pow_right (by decide) hp; omega
  unfold stT at h
  by_cases s3 : s < 3
  · rw [if_pos s3] at h
    by_cases k : s < c ∧ stg n s ≠ 5
    · rw [if_pos k] at h
      obtain rfl := Option.some.inj h
      exact ⟨stT_up c (by omega) n n2 s s3 ⟨hn, k.1, k.2⟩, hw⟩
    · rw [if_neg k] at h
      exact absurd h (by simp)
  · rw [if_neg s3] at h
    by_cases s6 : s < 6
    · rw [if_pos s6] at h
      by_cases k : s - 3 < c ∧ 1 ≤ stg n (s - 3) ∧ stg n (s - 3) ≤ 4
      · rw [if_pos k] at h
        obtain rfl := Option.some.inj h
        exact ⟨show n - p6 (s - 3) < p6 c by omega, hw⟩
      · rw [if_neg k] at h
        exact absurd h (by simp)
    · rw [if_neg s6] at h
      by_cases k : s - 6 < p ∧ w / 2 ^ (s - 6) % 2 = 0
      · rw [if_pos k] at h
        obtain rfl := Option.some.inj h
        exact ⟨hn, w_up p (by omega) w w2 (s - 6) (by omega) ⟨hw, k.1, k.2⟩⟩
      · rw [if_neg k] at h
        exact absurd h (by simp)
