/-! CLASS AND REFERENCE TOGETHER -/
def iT (m : aM) : Prop := ∃ t, t ≤ 400 ∧ m 0 1 = nI t ∧ m 242 1 = nI t ∧ ∀ j, j < t → m 1 j = m 243 j
def iF (m : aM) : Prop := m 0 4 = m 242 5
def iL (m : aM) : Prop := ∃ st, LC m st
/-- a number of Int32 within bounds -/
def bd (x : Int32) (lo hi : Int) : Prop := lo ≤ x.toInt ∧ x.toInt ≤ hi
def iB (m : aM) : Prop := ∀ j, j < 4 → m 22 j = m 253 j ∧ m 23 j = m 254 j ∧ -999 ≤ (m 22 j).toInt ∧ (m 22 j).toInt ≤ (m 23 j).toInt ∧ (m 23 j).toInt ≤ (m 22 j).toInt + 7 ∧ (m 23 j).toInt ≤ 999
/-- the plan: c changes, p programs -/
def iPl (m : aM) (c p : Nat) : Prop := c ≤ 3 ∧ p ≤ 5 ∧ m 29 5 = nI c ∧ m 242 35 = nI c ∧ m 29 6 = nI p ∧ m 242 36 = nI p ∧
  (∀ a s, a < 3 → s < 5 → m 30 (5 * a + s) = m (8453 + a) s ∧ bd (m 30 (5 * a + s)) 0 99) ∧
  (∀ q a, q < 5 → a < 3 → m 31 (3 * q + a) = m (8457 + q) a ∧ bd (m 31 (3 * q + a)) 0 2) ∧
  (∀ q, q < 5 → m 32 q = m 8470 q ∧ bd (m 32 q) 0 99) ∧
  (∀ a b, a < 3 → b < 3 → m 33 (3 * a + b) = m (8463 + a) b ∧ isb (m 33 (3 * a + b)) = true ∧ (m 33 (3 * a + b) = 1 → a < c ∧ b < c)) ∧
  (∀ a b, a < 3 → b < 3 → isb (m 34 (3 * a + b)) = true ∧ (m 34 (3 * a + b) = 1 → a < b ∧ b < c) ∧ m (8467 + a) b = (if a < b then m 34 (3 * a + b) else if b < a then m 34 (3 * b + a) else 0))
def iP (m : aM) : Prop := ∃ c p, iPl m c p
def iA (m : aM) : Prop := ∃ t, t ≤ 10000 ∧ m 37 7 = nI t ∧ ∀ p f l, p < 8 → f < 2 → l < 4 → m 36 (16 * p + 8 * f + 2 * l) = m (8644 + 3 * p + f) l ∧ m 36 (16 * p + 8 * f + 2 * l + 1) = m (8669 + 3 * p + f) l ∧ (∀ w, w < 2 → bd (m 36 (16 * p + 8 * f + 2 * l + w)) (-1) t)
/-- a row that is there, in both -/
def rwT (m : aM) (k t : Nat) : Prop := ∃ κ, κ < 4 ∧ m (42 + 5 * k) 3 = nI κ ∧ m 8475 k = nI κ ∧ (∀ j, j < 4 → m (43 + 5 * k) j = m (8479 + k) j) ∧
  (κ = 1 ∨ κ = 2 → ∀ j, j < 4 → m (44 + 5 * k) j = m (8520 + k) j ∧ m (45 + 5 * k) j = m (8561 + k) j) ∧
  (m 8474 k = 0 ∧ m (42 + 5 * k) 4 = -1 ∧ m (42 + 5 * k) 5 = -1 ∨ m 8474 k = 1 ∧ m (42 + 5 * k) 4 = m 8476 k ∧ m (42 + 5 * k) 5 = m 8477 k ∧ ¬ m (42 + 5 * k) 4 = -1 ∧ (κ = 1 ∨ κ = 2)) ∧
  (∀ f, f < 2 → ((m (42 + 5 * k) 6 = nI t ∧ m (46 + 5 * k) f = 1) ↔ m (8602 + k) f = nI t) ∧ bd (m (8602 + k) f) (-1) t) ∧ bd (m (42 + 5 * k) 6) (-1) t
def rw (m : aM) (k t : Nat) : Prop := (∀ f, f < 2 → isb (m (46 + 5 * k) f) = true) ∧ (m 8473 k = 0 ∧ m (42 + 5 * k) 3 = -1 ∨ m 8473 k = 1 ∧ rwT m k t)
def iR (m : aM) : Prop := ∃ s t, s ≤ 5 ∧ t ≤ 10000 ∧ m 37 6 = nI s ∧ m 242 45 = nI s ∧ m 37 7 = nI t ∧ m 242 46 = nI t ∧ m 37 8 = m 242 47 ∧ isb (m 37 8) = true ∧ m 37 9 = m 242 49 ∧ bd (m 37 9) 0 40 ∧ m 37 10 = m 242 48 ∧ bd (m 37 10) 0 1000 ∧ ∀ k, k < 40 → rw m k t
/-- all but the ways -/
def Iv (m : aM) : Prop := iT m ∧ iF m ∧ iL m ∧ iB m ∧ iP m ∧ iA m ∧ iR m
/-- what none of it rests on -/
def sc : Nat → Nat → Prop := fun b j => (10 ≤ b ∧ b ≤ 20) ∨ (24 ≤ b ∧ b ≤ 28) ∨ (39 ≤ b ∧ b ≤ 41) ∨ (b = 242 ∧ (j = 0 ∨ j = 2 ∨ (13 ≤ j ∧ j ≤ 21))) ∨ (247 ≤ b ∧ b ≤ 252) ∨ (255 ≤ b ∧ b ≤ 257) ∨ (259 ≤ b ∧ b ≤ 8451) ∨ (8471 ≤ b ∧ b ≤ 8472) ∨ 8692 ≤ b ∨ (b = 29 ∧ j = 7)
section
variable {m m' : aM}
theorem iT.fr (h : iT m) (f : ∀ b j, b = 1 ∨ b = 243 ∨ (b = 0 ∧ j = 1) ∨ (b = 242 ∧ j = 1) → m' b j = m b j) : iT m' := by
  obtain ⟨t, h1, h2, h3, h4⟩ := h
  exact ⟨t, h1, (f _ _ (by omega)).trans h2, (f _ _ (by omega)).trans h3, fun j hj => by rw [f 1 j (by omega), f 243 j (by omega)]; exact h4 j hj⟩
theorem iF.fr (h : iF m) (f : ∀ b j, (b = 0 ∧ j = 4) ∨ (b = 242 ∧ j = 5) → m' b j = m b j) : iF m' := by
  unfold iF
  rw [f _ _ (by omega), f _ _ (by omega)]
  exact h
theorem iL.fr (h : iL m) (f : ∀ b j, fL b j → m' b j = m b j) : iL m' := by
  obtain ⟨st, h⟩ := h
  exact ⟨st, h.fr f⟩
theorem iB.fr (h : iB m) (f : ∀ b j, b = 22 ∨ b = 23 ∨ b = 253 ∨ b = 254 → m' b j = m b j) : iB m' := fun j hj => by
  rw [f 22 j (by omega), f 23 j (by omega), f 253 j (by omega), f 254 j (by omega)]
  exact h j hj
theorem iPl.fr {c p : Nat} (h : iPl m c p) (f : ∀ b j, (b = 29 ∧ (j = 5 ∨ j = 6)) ∨ (30 ≤ b ∧ b ≤ 34) ∨ (b = 242 ∧ (j = 35 ∨ j = 36)) ∨ (8453 ≤ b ∧ b ≤ 8470) → m' b j = m b j) : iPl m' c p := by
  obtain ⟨h1, h2, h3, h4, h5, h6, h7, h8, h9, h10, h11⟩ := h
  refine ⟨h1, h2, (f _ _ (by omega)).trans h3, (f _ _ (by omega)).trans h4, (f _ _ (by omega)).trans h5, (f _ _ (by omega)).trans h6, fun a s ha hs => ?_, fun q a hq ha => ?_, fun q hq => ?_, fun a b ha hb => ?_, fun a b ha hb => ?_⟩
  · rw [f 30 _ (by omega), f (8453 + a) _ (by omega)]; exact h7 a s ha hs
  · rw [f 31 _ (by omega), f (8457 + q) _ (by omega)]; exact h8 q a hq ha
  · rw [f 32 _ (by omega), f 8470 _ (by omega)]; exact h9 q hq
  · rw [f 33 _ (by omega), f (8463 + a) _ (by omega)]; exact h10 a b ha hb
  · rw [f 34 _ (by omega), f (8467 + a) _ (by omega), f 34 _ (by omega)]; exact h11 a b ha hb
theorem iP.fr (h : iP m) (f : ∀ b j, (b = 29 ∧ (j = 5 ∨ j = 6)) ∨ (30 ≤ b ∧ b ≤ 34) ∨ (b = 242 ∧ (j = 35 ∨ j = 36)) ∨ (8453 ≤ b ∧ b ≤ 8470) → m' b j = m b j) : iP m' := by
  obtain ⟨c, p, h⟩ := h
  exact ⟨c, p, h.fr f⟩
theorem iA.fr (h : iA m) (f : ∀ b j, (b = 37 ∧ j = 7) ∨ b = 36 ∨ (8643 ≤ b ∧ b ≤ 8691) → m' b j = m b j) : iA m' := by
  obtain ⟨t, h0, h1, h2⟩ := h
  refine ⟨t, h0, (f _ _ (by omega)).trans h1, fun p q l hp hq hl => ?_⟩
  rw [f 36 _ (by omega), f 36 _ (by omega), f (8644 + 3 * p + q) _ (by omega), f (8669 + 3 * p + q) _ (by omega)]
  refine ⟨(h2 p q l hp hq hl).1, (h2 p q l hp hq hl).2.1, fun w hw => ?_⟩
  rw [f 36 _ (by omega)]
  exact (h2 p q l hp hq hl).2.2 w hw
theorem rw.fr {k t : Nat} (hk : k < 40) (h : rw m k t) (f : ∀ b j, (42 + 5 * k ≤ b ∧ b ≤ 46 + 5 * k) ∨ (8473 ≤ b ∧ b ≤ 8477 ∧ j = k) ∨ b = 8479 + k ∨ b = 8520 + k ∨ b = 8561 + k ∨ b = 8602 + k → m' b j = m b j) : rw m' k t := by
  obtain ⟨h0, h⟩ := h
  refine ⟨fun q hq => by rw [f _ _ (by omega)]; exact h0 q hq, ?_⟩
  rcases h with ⟨h1, h2⟩ | ⟨h1, κ, h2, h3, h4, h5, h6, h7, h8, h9⟩
  · exact Or.inl ⟨(f _ _ (by omega)).trans h1, (f _ _ (by omega)).trans h2⟩
  · refine Or.inr ⟨(f _ _ (by omega)).trans h1, κ, h2, (f _ _ (by omega)).trans h3, (f _ _ (by omega)).trans h4, fun j hj => ?_, fun hc j hj => ?_, ?_, fun q hq => ?_, ?_⟩
    · rw [f (43 + 5 * k) j (by omega), f (8479 + k) j (by omega)]; exact h5 j hj
    · rw [f (44 + 5 * k) j (by omega), f (8520 + k) j (by omega), f (45 + 5 * k) j (by omega), f (8561 + k) j (by omega)]; exact h6 hc j hj
    · rw [f 8474 k (by omega), f (42 + 5 * k) 4 (by omega), f (42 + 5 * k) 5 (by omega), f 8476 k (by omega), f 8477 k (by omega)]; exact h7
    · rw [f (42 + 5 * k) 6 (by omega), f (46 + 5 * k) q (by omega), f (8602 + k) q (by omega)]; exact h8 q hq
    · rw [f (42 + 5 * k) 6 (by omega)]; exact h9
theorem iR.fr (h : iR m) (f : ∀ b j, (b = 37 ∧ 6 ≤ j ∧ j ≤ 10) ∨ (42 ≤ b ∧ b ≤ 241) ∨ (b = 242 ∧ 45 ≤ j ∧ j ≤ 49) ∨ (8473 ≤ b ∧ b ≤ 8641) → m' b j = m b j) : iR m' := by
  obtain ⟨s, t, h1, h2, h3, h4, h5, h6, h7, h8, h9, h10, h11, h12, h13⟩ := h
  refine ⟨s, t, h1, h2, (f _ _ (by omega)).trans h3, (f _ _ (by omega)).trans h4, (f _ _ (by omega)).trans h5, (f _ _ (by omega)).trans h6, ?_, ?_, ?_, ?_, ?_, ?_, fun k hk => (h13 k hk).fr hk (fun b j hb => f b j (by omega))⟩
  · rw [f _ _ (by omega), f _ _ (by omega)]; exact h7
  · rw [f _ _ (by omega)]; exact h8
  · rw [f _ _ (by omega), f _ _ (by omega)]; exact h9
  · rw [f _ _ (by omega)]; exact h10
  · rw [f _ _ (by omega), f _ _ (by omega)]; exact h11
  · rw [f _ _ (by omega)]; exact h12
theorem fL_sc {b j : Nat} (h : fL b j) : ¬ sc b j := by
  unfold fL at h
  unfold sc
  omega
/-- calls that leave all as it was -/
theorem Iv.fr (h : Iv m) (f : Fr sc m m') : Iv m' := by
  obtain ⟨h1, h2, h3, h4, h5, h6, h7⟩ := h
  exact ⟨h1.fr (fun b j hb => f b j (by unfold sc; omega)), h2.fr (fun b j hb => f b j (by unfold sc; omega)), h3.fr (fun b j hb => f b j (fL_sc hb)), h4.fr (fun b j hb => f b j (by unfold sc; omega)), h5.fr (fun b j hb => f b j (by unfold sc; omega)), h6.fr (fun b j hb => f b j (by unfold sc; omega)), h7.fr (fun b j hb => f b j (by unfold sc; omega))⟩
end
