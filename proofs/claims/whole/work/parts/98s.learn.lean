/-! WAYS: the class learns a step -/
def enW : Option Nat → Int32
  | none => 2147483647
  | some v => nI v
def enB : Option Nat → Int32
  | none => 0
  | some _ => 1
def enC (i : Fin 3) : Option Nat → Int32 := if i.val < 2 then enW else enB
def RlX (d d' : Nat → Option Nat) (n x k : Nat) : Prop := (d' = d ∧ ∀ u, d x = some u → ∃ w, d n = some w ∧ w ≤ u + k) ∨ ∃ u, d x = some u ∧ (∀ w, d n = some w → u + k < w) ∧ d' = updD d n (u + k)
theorem RlX.ne {d d' : Nat → Option Nat} {n x k j : Nat} (h : RlX d d' n x k) (hj : j ≠ n) : d' j = d j := by
  rcases h with ⟨rfl, _⟩ | ⟨u, _, _, rfl⟩
  · rfl
  · exact if_neg hj
theorem RlX.to {to : Nat → Nat → Option Nat} {co : Nat → Nat → Nat} {d d' : Nat → Option Nat} {n x s : Nat} (h : RlX d d' n x (co n s)) (k : to n s = some x ∨ to n s = none ∧ d x = none) : Rlx to co d d' n s := by
  rcases k with k | ⟨k1, k2⟩
  · rcases h with ⟨rfl, h2⟩ | ⟨u, h1, h2, h3⟩
    · exact Or.inl ⟨rfl, fun x' u e1 e2 => h2 u (by rw [← e2]; rw [k] at e1; rw [Option.some.inj e1])⟩
    · exact Or.inr ⟨x, u, k, h1, h2, h3⟩
  · rcases h with ⟨rfl, _⟩ | ⟨u, h1, _⟩
    · exact Or.inl ⟨rfl, fun x' u e1 _ => by rw [k1] at e1; exact absurd e1 (by simp)⟩
    · rw [k2] at h1
      exact absurd h1 (by simp)
theorem enW_max {v : Nat} (h : v < 2147483647) : ¬ nI v = 2147483647 := fun z => by
  have := nI_inj (by omega) (by decide) (show nI v = nI 2147483647 from z)
  omega
theorem enW_cmp {d : Nat → Option Nat} {n x k : Nat} (h1 : ∀ u, d x = some u → u + k < 2147483647) (h2 : ∀ w, d n = some w → w < 2147483647) : (enW (d x) = 2147483647 ∧ RlX d d n x k) ∨ ∃ u, enW (d x) = nI u ∧ ¬ nI u = 2147483647 ∧ ((enW (d n) ≤ nI (u + k) ∧ RlX d d n x k) ∨ (¬ enW (d n) ≤ nI (u + k) ∧ RlX d (updD d n (u + k)) n x k ∧ updD d n (u + k) ≠ d)) := by
  cases e : d x with
  | none => exact Or.inl ⟨rfl, Or.inl ⟨rfl, fun u z => by rw [e] at z; exact absurd z (by simp)⟩⟩
  | some u =>
    have hu := h1 u e
    refine Or.inr ⟨u, rfl, enW_max (by omega), ?_⟩
    cases e2 : d n with
    | none =>
      have hw : ∀ w, d n = some w → u + k < w := fun w z => by rw [e2] at z; exact absurd z (by simp)
      exact Or.inr ⟨fun z => by have := (nI_leI (a := 2147483647) (by decide) (by omega)).mp z; omega, Or.inr ⟨u, e, hw, rfl⟩, updD_ne hw⟩
    | some w =>
      have wb := h2 w e2
      by_cases l : u + k < w
      · have hw : ∀ w', d n = some w' → u + k < w' := fun w' z => by rw [e2] at z; rw [← Option.some.inj z]; exact l
        exact Or.inr ⟨fun z => by have := (nI_leI (by omega) (by omega)).mp z; omega, Or.inr ⟨u, e, hw, rfl⟩, updD_ne hw⟩
      · exact Or.inl ⟨nI_le (by omega) (by omega), Or.inl ⟨rfl, fun u' z => ⟨w, e2, by rw [e] at z; rw [← Option.some.inj z]; omega⟩⟩⟩
section
variable {a0 I X : Nat} {m : aM} {d : Nat → Option Nat} {n x : Nat}
abbrev lrn (m m1 : aM) (a I : Nat) (en : Option Nat → Int32) (d d1 : Nat → Option Nat) (n : Nat) : Prop := m1 a I = en (d1 n) ∧ ∀ b j, ¬ (b = a ∧ j = I) → m1 b j = m b j
theorem c_l123 (hI : I < 6912) (hX : X < 6912) {x5 : Int32} (h5 : isb x5 = true) (e1 : m (a0 + 4) X = enB (d x)) (e2 : m (a0 + 4) I = enB (d n)) (hz : ∀ k w, d k = some w → k = n ∨ k = x → w = 0) : ∃ y m1 d1, b_Way_learn_123 a0 (nI I) (nI X) x5 m = some (y, m1) ∧ RlX d d1 n x 0 ∧ lrn m m1 (a0 + 4) I enB d d1 n ∧ (d1 = d ∧ y = x5 ∨ d1 ≠ d ∧ y = 1) := by
  unfold b_Way_learn_123
  rw [inb_nI hX (by decide), o_gd_t, o_let_eq, nI_clamp (by omega), e1, inb_nI hI (by decide), o_gd_t, o_gd_t, o_let_eq, o_let_eq, nI_clamp (by omega), e2, h5, o_gd_t]
  cases k1 : d x with
  | none =>
    rw [show enB none = 0 from rfl, if_pos rfl]
    exact ⟨x5, m, d, rfl, Or.inl ⟨rfl, fun u z => by rw [k1] at z; exact absurd z (by simp)⟩, ⟨e2, fun _ _ _ => rfl⟩, Or.inl ⟨rfl, rfl⟩⟩
  | some u =>
    rw [show enB (some u) = 1 from rfl, if_neg (by decide)]
    cases k2 : d n with
    | none =>
      rw [show enB none = 0 from rfl, if_pos rfl]
      have hw : ∀ w, d n = some w → u + 0 < w := fun w z => by rw [k2] at z; exact absurd z (by simp)
      refine ⟨1, a_st m (a0 + 4) I 1, updD d n (u + 0), rfl, Or.inr ⟨u, k1, hw, rfl⟩, ⟨?_, fun b j hb => a_st_no hb⟩, Or.inr ⟨updD_ne hw, rfl⟩⟩
      rw [a_st_self]
      show (1 : Int32) = enB (updD d n (u + 0) n)
      rw [show updD d n (u + 0) n = some (u + 0) from if_pos rfl]
      rfl
    | some w =>
      rw [show enB (some w) = 1 from rfl, if_neg (by decide)]
      exact ⟨x5, m, d, rfl, Or.inl ⟨rfl, fun u' _ => ⟨w, k2, by have := hz n w k2 (Or.inl rfl); omega⟩⟩, ⟨e2, fun _ _ _ => rfl⟩, Or.inl ⟨rfl, rfl⟩⟩
theorem c_l76 (hI : I < 6912) (hX : X < 6912) {x5 : Int32} {r : Nat} (e1 : m (a0 + 3) X = enW (d x)) (e2 : m (a0 + 3) I = enW (d n)) (h1 : ∀ u, d x = some u → u + r < 2147483647) (h2 : ∀ w, d n = some w → w < 2147483647) : ∃ y m1 d1, b_Way_learn_76 a0 (nI I) (nI X) (nI r) x5 m = b_Way_learn_123 a0 (nI I) (nI X) y m1 ∧ RlX d d1 n x r ∧ lrn m m1 (a0 + 3) I enW d d1 n ∧ (d1 = d ∧ y = x5 ∨ d1 ≠ d ∧ y = 1) := by
  unfold b_Way_learn_76
  rw [inb_nI hX (by decide), o_gd_t, o_let_eq, nI_clamp (by omega), e1, o_gd_t, o_let_eq, inb_nI hI (by decide), o_gd_t, o_let_eq, nI_clamp (by omega), e2, o_gd_t, o_let_eq, o_gd_t, o_let_eq]
  rcases enW_cmp h1 h2 with ⟨k1, k2⟩ | ⟨u, k1, k2, ⟨k3, k4⟩ | ⟨k3, k4, k5⟩⟩
  · rw [k1, if_pos rfl]
    exact ⟨x5, m, d, rfl, k2, ⟨e2, fun _ _ _ => rfl⟩, Or.inl ⟨rfl, rfl⟩⟩
  · rw [k1, if_neg k2, nI_add, if_pos k3]
    exact ⟨x5, m, d, rfl, k4, ⟨e2, fun _ _ _ => rfl⟩, Or.inl ⟨rfl, rfl⟩⟩
  · rw [k1, if_neg k2, nI_add, if_neg k3]
    refine ⟨1, a_st m (a0 + 3) I (nI (u + r)), updD d n (u + r), rfl, k4, ⟨?_, fun b j hb => a_st_no hb⟩, Or.inr ⟨k5, rfl⟩⟩
    rw [a_st_self, show updD d n (u + r) n = some (u + r) from if_pos rfl]
    rfl
theorem c_l0 (hI : I < 6912) (hX : X < 6912) {x4 : Int32} {h : Nat} (e1 : m (a0 + 2) X = enW (d x)) (e2 : m (a0 + 2) I = enW (d n)) (h1 : ∀ u, d x = some u → u + (2048 * h + 1) < 2147483647) (h2 : ∀ w, d n = some w → w < 2147483647) : ∃ y m1 d1, f_Way_learn a0 (nI I) (nI X) (nI h) x4 m = b_Way_learn_76 a0 (nI I) (nI X) x4 y m1 ∧ RlX d d1 n x (2048 * h + 1) ∧ lrn m m1 (a0 + 2) I enW d d1 n ∧ (d1 = d ∧ y = 0 ∨ d1 ≠ d ∧ y = 1) := by
  have pl : ∀ i, i < 6912 → f_Way_isPlace (nI i) m = some 1 := fun i hi => by
    unfold f_Way_isPlace
    rw [if_neg (nI_pos (by omega)), if_neg (show ¬ (6912 : Int32) ≤ nI i from nI_ge (b := 6912) hi (by decide))]
  unfold f_Way_learn
  rw [pl I hI, o_b_some, if_neg (by decide), pl X hX, o_b_some, if_neg (by decide), inb_nI hX (by decide), o_gd_t, o_let_eq, nI_clamp (by omega), e1, o_gd_t, o_let_eq, inb_nI hI (by decide), o_gd_t, o_let_eq, nI_clamp (by omega), e2, o_gd_t, o_let_eq, o_gd_t, o_let_eq]
  have ad : ∀ u, nI u + nI h * 2048 + 1 = nI (u + (2048 * h + 1)) := fun u => by
    rw [show (2048 : Int32) = nI 2048 from rfl, nI_mul, nI_add, show nI (u + h * 2048) + 1 = nI (u + h * 2048 + 1) from nI_add _ 1]
    congr 1
    omega
  rcases enW_cmp h1 h2 with ⟨k1, k2⟩ | ⟨u, k1, k2, ⟨k3, k4⟩ | ⟨k3, k4, k5⟩⟩
  · rw [k1, if_pos rfl]
    exact ⟨0, m, d, rfl, k2, ⟨e2, fun _ _ _ => rfl⟩, Or.inl ⟨rfl, rfl⟩⟩
  · rw [k1, if_neg k2, ad, if_pos k3]
    exact ⟨0, m, d, rfl, k4, ⟨e2, fun _ _ _ => rfl⟩, Or.inl ⟨rfl, rfl⟩⟩
  · rw [k1, if_neg k2, ad, if_neg k3]
    refine ⟨1, a_st m (a0 + 2) I (nI (u + (2048 * h + 1))), updD d n (u + (2048 * h + 1)), rfl, k4, ⟨?_, fun b j hb => a_st_no hb⟩, Or.inr ⟨k5, rfl⟩⟩
    rw [a_st_self, show updD d n (u + (2048 * h + 1)) n = some (u + (2048 * h + 1)) from if_pos rfl]
    rfl
end
/-- a family of three tables -/
abbrev D3 : Type := Fin 3 → Nat → Option Nat
def k3 (h r : Nat) (i : Fin 3) : Nat := if i.val = 0 then 2048 * h + 1 else if i.val = 1 then r else 0
theorem fin3 {P : Fin 3 → Prop} (h0 : P 0) (h1 : P 1) (h2 : P 2) : ∀ i, P i
  | ⟨0, _⟩ => h0
  | ⟨1, _⟩ => h1
  | ⟨2, _⟩ => h2
theorem c_learn {a0 I X n x h r : Nat} {m : aM} {d : D3} (hI : I < 6912) (hX : X < 6912) (e1 : ∀ i, m (a0 + 2 + i.val) X = enC i (d i x)) (e2 : ∀ i, m (a0 + 2 + i.val) I = enC i (d i n)) (h1 : ∀ i u, d i x = some u → u + k3 h r i < 2147483647) (h2 : ∀ i w, d i n = some w → w < 2147483647) (hz : ∀ k w, d 2 k = some w → k = n ∨ k = x → w = 0) : ∃ (y : Int32) (m1 : aM) (d1 : D3), f_Way_learn a0 (nI I) (nI X) (nI h) (nI r) m = some (y, m1) ∧ (∀ i, RlX (d i) (d1 i) n x (k3 h r i)) ∧ (∀ i, m1 (a0 + 2 + i.val) I = enC i (d1 i n)) ∧ (∀ b j, ¬ (j = I ∧ (b = a0 + 2 ∨ b = a0 + 3 ∨ b = a0 + 4)) → m1 b j = m b j) ∧ (d1 = d ∧ y = 0 ∨ d1 ≠ d ∧ y = 1) := by
  obtain ⟨y0, m1, d0, q1, q2, ⟨q3, q4⟩, q5⟩ := c_l0 (m := m) (d := d 0) (n := n) (x := x) (x4 := nI r) (h := h) hI hX (e1 0) (e2 0) (fun u z => h1 0 u z) (fun w z => h2 0 w z)
  obtain ⟨y1, m2, d1, r1, r2, ⟨r3, r4⟩, r5⟩ := c_l76 (m := m1) (d := d 1) (n := n) (x := x) (x5 := y0) (r := r) hI hX ((q4 (a0 + 3) X (by omega)).trans (e1 1)) ((q4 (a0 + 3) I (by omega)).trans (e2 1)) (fun u z => h1 1 u z) (fun w z => h2 1 w z)
  have b1 : isb y1 = true := by
    rcases r5 with ⟨_, z⟩ | ⟨_, z⟩
    · rw [z]
      rcases q5 with ⟨_, z⟩ | ⟨_, z⟩ <;> rw [z] <;> rfl
    · rw [z]; rfl
  obtain ⟨y2, m3, d2, s1, s2, ⟨s3, s4⟩, s5⟩ := c_l123 (m := m2) (d := d 2) (n := n) (x := x) (x5 := y1) hI hX b1 ((r4 (a0 + 4) X (by omega)).trans ((q4 (a0 + 4) X (by omega)).trans (e1 2))) ((r4 (a0 + 4) I (by omega)).trans ((q4 (a0 + 4) I (by omega)).trans (e2 2))) hz
  let dd : D3 := fun i => if i.val = 0 then d0 else if i.val = 1 then d1 else d2
  refine ⟨y2, m3, dd, q1.trans (r1.trans s1), fin3 q2 r2 s2, fin3 ?_ ?_ s3, fun b j hb => ?_, ?_⟩
  · show m3 (a0 + 2) I = enW (d0 n)
    rw [s4 _ _ (by omega), r4 _ _ (by omega)]
    exact q3
  · show m3 (a0 + 3) I = enW (d1 n)
    rw [s4 _ _ (by omega)]
    exact r3
  · rw [s4 _ _ (fun z => hb ⟨z.2, by omega⟩), r4 _ _ (fun z => hb ⟨z.2, by omega⟩), q4 _ _ (fun z => hb ⟨z.2, by omega⟩)]
  · have ne0 : d0 ≠ d 0 → dd ≠ d := fun z q => z (congrFun q 0)
    have ne1 : d1 ≠ d 1 → dd ≠ d := fun z q => z (congrFun q 1)
    have ne2 : d2 ≠ d 2 → dd ≠ d := fun z q => z (congrFun q 2)
    rcases s5 with ⟨a1, a2⟩ | ⟨a1, a2⟩
    · rcases r5 with ⟨b1, b2⟩ | ⟨b1, b2⟩
      · rcases q5 with ⟨c1, c2⟩ | ⟨c1, c2⟩
        · exact Or.inl ⟨funext (fin3 c1 b1 a1), by rw [a2, b2, c2]⟩
        · exact Or.inr ⟨ne0 c1, by rw [a2, b2, c2]⟩
      · exact Or.inr ⟨ne1 b1, by rw [a2, b2]⟩
    · exact Or.inr ⟨ne2 a1, a2⟩
