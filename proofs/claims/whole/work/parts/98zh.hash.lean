/-! LIKES: a table with open places -/
def Eqv (lk : Nat → Nat → Prop) : Prop := (∀ a, lk a a) ∧ (∀ a b, lk a b → lk b a) ∧ ∀ a b c, lk a b → lk b c → lk a c
/-- the first of its like -/
def fstL (lk : Nat → Nat → Prop) (r : Nat) : Prop := ∀ q, q < r → ¬ lk q r
def HT (lk : Nat → Nat → Prop) (h : Nat → Nat) (n : Nat) (T : Nat → Option Nat) : Prop := (∀ p r, T p = some r → p < 8192 ∧ r < n ∧ fstL lk r) ∧ (∀ p q r, T p = some r → T q = some r → p = q) ∧ ∀ r, r < n → fstL lk r → ∃ t, t < 8192 ∧ T ((h r + t) % 8192) = some r ∧ ∀ s, s < t → T ((h r + s) % 8192) ≠ none
section
variable {lk : Nat → Nat → Prop} {h : Nat → Nat} {n : Nat} {T : Nat → Option Nat}
theorem HT.z : HT lk h 0 (fun _ => none) := ⟨fun p r e => absurd e (by simp), fun p q r e => absurd e (by simp), fun r hr => by omega⟩
theorem fstL_ex (E : Eqv lk) {r n : Nat} (k : lk r n) : ∃ q, q ≤ r ∧ lk q n ∧ fstL lk q := by
  obtain ⟨q, q1, q2, q3⟩ := least (P := fun q => lk q n) r k
  exact ⟨q, q1, q2, fun s hs z => q3 s hs (E.2.2 s q n z q2)⟩
theorem HT.probe (E : Eqv lk) (hh : ∀ a b, lk a b → h a = h b) (hT : HT lk h n T) (hn : n < 8192) : ∃ t, t < 8192 ∧ (∀ s, s < t → ∃ r, T ((h n + s) % 8192) = some r ∧ ¬ lk r n) ∧ ((T ((h n + t) % 8192) = none ∧ fstL lk n) ∨ ∃ r, T ((h n + t) % 8192) = some r ∧ lk r n) := by
  obtain ⟨h1, h2, h3⟩ := hT
  have ex : ∃ t, t < 8192 ∧ (T ((h n + t) % 8192) = none ∨ ∃ r, T ((h n + t) % 8192) = some r ∧ lk r n) := by
    apply Classical.byContradiction
    intro no
    have al : ∀ t, t < 8192 → ∃ r, T ((h n + t) % 8192) = some r := fun t ht => by
      cases e : T ((h n + t) % 8192) with
      | none => exact absurd ⟨t, ht, Or.inl e⟩ no
      | some r => exact ⟨r, rfl⟩
    have nd : ((List.range 8192).map (fun t => (T ((h n + t) % 8192)).getD 0)).Nodup := by
      refine (List.pairwise_map).mpr (List.nodup_range.imp_of_mem (fun {a b} ha hb hab => ?_))
      have ha' := List.mem_range.mp ha
      have hb' := List.mem_range.mp hb
      obtain ⟨r, e1⟩ := al a ha'
      obtain ⟨r', e2⟩ := al b hb'
      show (T ((h n + a) % 8192)).getD 0 ≠ (T ((h n + b) % 8192)).getD 0
      rw [e1, e2]
      intro z
      have z : r = r' := z
      have := h2 _ _ r e1 (z ▸ e2)
      omega
    have k4 := pigeon n _ nd (fun x hx => by
      obtain ⟨t, ht, rfl⟩ := List.mem_map.mp hx
      obtain ⟨r, e1⟩ := al t (List.mem_range.mp ht)
      show (T ((h n + t) % 8192)).getD 0 < n
      rw [e1]
      exact (h1 _ _ e1).2.1)
    rw [List.length_map, List.length_range] at k4
    omega
  obtain ⟨t0, t01, t02⟩ := ex
  obtain ⟨t, t1, t2, t3⟩ := least (P := fun t => T ((h n + t) % 8192) = none ∨ ∃ r, T ((h n + t) % 8192) = some r ∧ lk r n) t0 t02
  refine ⟨t, by omega, fun s hs => ?_, ?_⟩
  · cases e : T ((h n + s) % 8192) with
    | none => exact absurd (Or.inl e) (t3 s hs)
    | some r => exact ⟨r, rfl, fun z => t3 s hs (Or.inr ⟨r, e, z⟩)⟩
  · rcases t2 with t2 | t2
    · refine Or.inl ⟨t2, fun q hq k => ?_⟩
      obtain ⟨r0, r1, r2, r3⟩ := fstL_ex E k
      obtain ⟨u, u1, u2, u3⟩ := h3 r0 (by omega) r3
      rw [hh r0 n r2] at u2 u3
      by_cases c : t < u
      · exact u3 t c t2
      · by_cases c2 : u = t
        · rw [c2, t2] at u2
          exact absurd u2 (by simp)
        · exact t3 u (by omega) (Or.inr ⟨r0, u2, r2⟩)
    · exact Or.inr t2
theorem HT.old (hT : HT lk h n T) {r : Nat} (k : lk r n) (hr : r < n) : HT lk h (n + 1) T := by
  obtain ⟨h1, h2, h3⟩ := hT
  refine ⟨fun p q e => ⟨(h1 p q e).1, by have := (h1 p q e).2.1; omega, (h1 p q e).2.2⟩, h2, fun q hq f => ?_⟩
  by_cases c : q = n
  · rw [c] at f
    exact absurd k (f r hr)
  · exact h3 q (by omega) f
theorem HT.new (hT : HT lk h n T) {t : Nat} (ht : t < 8192) (occ : ∀ s, s < t → ∃ r, T ((h n + s) % 8192) = some r ∧ ¬ lk r n) (e : T ((h n + t) % 8192) = none) (f : fstL lk n) : HT lk h (n + 1) (updD T ((h n + t) % 8192) n) := by
  obtain ⟨h1, h2, h3⟩ := hT
  have oc : ∀ p, T p ≠ none → updD T ((h n + t) % 8192) n p ≠ none := fun p hp => by
    unfold updD
    by_cases c : p = (h n + t) % 8192
    · rw [if_pos c]; simp
    · rw [if_neg c]; exact hp
  have pl : ∀ p r, updD T ((h n + t) % 8192) n p = some r → p = (h n + t) % 8192 ∧ r = n ∨ p ≠ (h n + t) % 8192 ∧ T p = some r := fun p r k => by
    unfold updD at k
    by_cases c : p = (h n + t) % 8192
    · rw [if_pos c] at k
      exact Or.inl ⟨c, (Option.some.inj k).symm⟩
    · rw [if_neg c] at k
      exact Or.inr ⟨c, k⟩
  refine ⟨fun p r k => ?_, fun p q r k1 k2 => ?_, fun r hr fr => ?_⟩
  · rcases pl p r k with ⟨c1, c2⟩ | ⟨_, c2⟩
    · rw [c1, c2]
      exact ⟨Nat.mod_lt _ (by decide), by omega, f⟩
    · have := h1 p r c2
      exact ⟨this.1, by omega, this.2.2⟩
  · rcases pl p r k1 with ⟨c1, c2⟩ | ⟨_, c2⟩
    · rcases pl q r k2 with ⟨d1, _⟩ | ⟨_, d2⟩
      · rw [c1, d1]
      · have := (h1 q r d2).2.1
        omega
    · rcases pl q r k2 with ⟨_, d2⟩ | ⟨_, d2⟩
      · have := (h1 p r c2).2.1
        omega
      · exact h2 p q r c2 d2
  · by_cases c : r = n
    · rw [c]
      refine ⟨t, ht, if_pos rfl, fun s hs => oc _ ?_⟩
      obtain ⟨r', e', _⟩ := occ s hs
      rw [e']; simp
    · obtain ⟨u, u1, u2, u3⟩ := h3 r (by omega) fr
      refine ⟨u, u1, ?_, fun s hs => oc _ (u3 s hs)⟩
      unfold updD
      rw [if_neg (fun z => by rw [z, e] at u2; exact absurd u2 (by simp))]
      exact u2
end
/-- the first row like row n -/
noncomputable def fsL (lk : Nat → Nat → Prop) (n : Nat) : Nat := @dite _ (∃ q, q ≤ n ∧ lk q n ∧ fstL lk q) (Classical.propDecidable _) (fun z => Classical.choose z) (fun _ => 0)
theorem fsL_eq {lk : Nat → Nat → Prop} (E : Eqv lk) {n r : Nat} (hr : r ≤ n) (k : lk r n) (f : fstL lk r) : fsL lk n = r := by
  have ex : ∃ q, q ≤ n ∧ lk q n ∧ fstL lk q := ⟨r, hr, k, f⟩
  have e : fsL lk n = Classical.choose ex := @dif_pos _ (Classical.propDecidable _) ex _ _ _
  have s := Classical.choose_spec ex
  rw [e]
  generalize Classical.choose ex = q at s
  obtain ⟨s1, s2, s3⟩ := s
  have qr : lk q r := E.2.2 _ _ _ s2 (E.2.1 _ _ k)
  rcases Nat.lt_trichotomy q r with c | c | c
  · exact absurd qr (f q c)
  · exact c
  · exact absurd (E.2.1 _ _ qr) (s3 r c)
/-! bits -/
def bL (f : Nat → Bool) : Nat → Nat → Int32 → Int32
  | 0, _, x => x
  | d + 1, l, x => bL f d (l + 1) (if f l = true then x ||| ((1 : Int32) <<< (nI l &&& 31)) else x)
theorem bL_no {f : Nat → Bool} (h : ∀ l, f l = false) : ∀ (d l : Nat) (x : Int32), bL f d l x = x
  | 0, l, x => rfl
  | d + 1, l, x => by
    unfold bL
    rw [if_neg (by rw [h l]; decide)]
    exact bL_no h d (l + 1) x
theorem bL_cg {f g : Nat → Bool} : ∀ (d l : Nat) (x : Int32), (∀ i, l ≤ i → i < l + d → f i = g i) → bL f d l x = bL g d l x
  | 0, l, x, _ => rfl
  | d + 1, l, x, h => by
    unfold bL
    rw [h l (by omega) (by omega)]
    exact bL_cg d (l + 1) _ (fun i h1 h2 => h i (by omega) (by omega))
/-! small numbers of bits -/
theorem and13 (x : Int32) : ∃ p, p < 8192 ∧ x &&& 8191 = nI p := by
  refine ⟨x.toBitVec.toNat % 8192, Nat.mod_lt _ (by decide), ?_⟩
  apply Int32.toBitVec_inj.mp
  rw [Int32.toBitVec_and]
  apply BitVec.eq_of_toNat_eq
  rw [BitVec.toNat_and]
  show x.toBitVec.toNat &&& 8191 = (BitVec.ofNat 32 (x.toBitVec.toNat % 8192)).toNat
  rw [BitVec.toNat_ofNat, show (8191 : Nat) = 2 ^ 13 - 1 from rfl, Nat.and_two_pow_sub_one_eq_mod]
  have : x.toBitVec.toNat % 8192 < 8192 := Nat.mod_lt _ (by decide)
  omega
theorem and13n {a : Nat} (h : a < 2 ^ 31) : nI a &&& 8191 = nI (a % 8192) := by
  apply Int32.toBitVec_inj.mp
  rw [Int32.toBitVec_and]
  apply BitVec.eq_of_toNat_eq
  rw [BitVec.toNat_and]
  show (BitVec.ofNat 32 a).toNat &&& 8191 = (BitVec.ofNat 32 (a % 8192)).toNat
  rw [BitVec.toNat_ofNat, BitVec.toNat_ofNat, show (8191 : Nat) = 2 ^ 13 - 1 from rfl, Nat.and_two_pow_sub_one_eq_mod]
  have : a % 8192 < 8192 := Nat.mod_lt _ (by decide)
  omega
