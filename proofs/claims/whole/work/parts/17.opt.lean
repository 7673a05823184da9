/-! PROGRAMS AS FUNCTIONS (made by wip/gen/sysg.py): none where an index, a divisor or the room of a loop isn't shown to be good -/
def o_let {α β : Type} (x : α) (k : α → β) : β := k x
def o_gd {β : Type} (b : Bool) (x : Option β) : Option β := match b with
  | true => x
  | false => none
def o_b {α β : Type} (f : Option α) (k : α → Option β) : Option β := match f with
  | some x => k x
  | none => none
def o_b2 {α β : Type} (f : Option (α × aM)) (k : α → aM → Option β) : Option β := match f with
  | some x => k x.1 x.2
  | none => none
abbrev oX : Type := Int32 ⊕ String
def o_t (f : Option oX) (m : aM) (k : Int32 → Option (oX × aM)) : Option (oX × aM) := match f with
  | some (.inl x) => k x
  | some (.inr E) => some (.inr E, m)
  | none => none
def o_tp (f : Option oX) (k : Int32 → Option oX) : Option oX := match f with
  | some (.inl x) => k x
  | some (.inr E) => some (.inr E)
  | none => none
def o_t2 (f : Option (oX × aM)) (k : Int32 → aM → Option (oX × aM)) : Option (oX × aM) := match f with
  | some (.inl x, m) => k x m
  | some (.inr E, m) => some (.inr E, m)
  | none => none
theorem o_let_ex {α β : Type} {x : α} {k : α → Option β} {o : β} (e : o_let x k = some o) : ∃ y, y = x ∧ k y = some o := ⟨x, rfl, e⟩
theorem o_gd_ex {β : Type} {b : Bool} {x : Option β} {o : β} (e : o_gd b x = some o) : b = true ∧ x = some o := by
  cases b
  · exact absurd e (by simp [o_gd])
  · exact ⟨rfl, e⟩
theorem o_b_ex {α β : Type} {f : Option α} {k : α → Option β} {o : β} (e : o_b f k = some o) : ∃ x, f = some x ∧ k x = some o := by
  cases f with
  | none => exact absurd e (by simp [o_b])
  | some x => exact ⟨x, rfl, e⟩
theorem o_b2_ex {α β : Type} {f : Option (α × aM)} {k : α → aM → Option β} {o : β} (e : o_b2 f k = some o) : ∃ x m, f = some (x, m) ∧ k x m = some o := by
  cases f with
  | none => exact absurd e (by simp [o_b2])
  | some x => exact ⟨x.1, x.2, rfl, e⟩
theorem o_t_ex {f : Option oX} {m : aM} {k : Int32 → Option (oX × aM)} {o : oX × aM} (e : o_t f m k = some o) : (∃ x, f = some (.inl x) ∧ k x = some o) ∨ ∃ E, f = some (.inr E) ∧ (some (.inr E, m) : Option (oX × aM)) = some o := by
  match f, e with
  | none, e => exact absurd e (by simp [o_t])
  | some (.inl x), e => exact Or.inl ⟨x, rfl, e⟩
  | some (.inr E), e => exact Or.inr ⟨E, rfl, e⟩
theorem o_tp_ex {f : Option oX} {k : Int32 → Option oX} {o : oX} (e : o_tp f k = some o) : (∃ x, f = some (.inl x) ∧ k x = some o) ∨ ∃ E, f = some (.inr E) ∧ (some (.inr E) : Option oX) = some o := by
  match f, e with
  | none, e => exact absurd e (by simp [o_tp])
  | some (.inl x), e => exact Or.inl ⟨x, rfl, e⟩
  | some (.inr E), e => exact Or.inr ⟨E, rfl, e⟩
theorem o_t2_ex {f : Option (oX × aM)} {k : Int32 → aM → Option (oX × aM)} {o : oX × aM} (e : o_t2 f k = some o) : (∃ x m, f = some (.inl x, m) ∧ k x m = some o) ∨ ∃ E m, f = some (.inr E, m) ∧ (some (.inr E, m) : Option (oX × aM)) = some o := by
  match f, e with
  | none, e => exact absurd e (by simp [o_t2])
  | some (.inl x, m), e => exact Or.inl ⟨x, m, rfl, e⟩
  | some (.inr E, m), e => exact Or.inr ⟨E, m, rfl, e⟩
def inb (i : Int32) (n : Nat) : Bool := decide (0 ≤ i.toInt) && decide (i.toInt < (n : Int))
theorem inb_in {i : Int32} {n : Nat} (h : inb i n = true) : vp_in i n := by
  rw [vp_in_iff]
  simpa [inb] using h
theorem inb_iff {i : Int32} {n : Nat} : inb i n = true ↔ 0 ≤ i.toInt ∧ i.toInt < (n : Int) := by simp [inb]
theorem vp_lt {i : Int32} {n : Nat} (h : vp_in i n) : i.toNatClampNeg < n := Nat.lt_of_not_le (fun q => h (Or.inr q))
def isb (x : Int32) : Bool := decide (x = 0 ∨ x = 1)
theorem isb_or {x : Int32} (h : isb x = true) : x = 0 ∨ x = 1 := of_decide_eq_true h
def nz (x : Int32) : Bool := decide (¬ x = 0)
theorem nz_ne {x : Int32} (h : nz x = true) : ¬ x = 0 := of_decide_eq_true h
def cpg (sp dp n : Int32) (na nb : Nat) : Bool := decide (¬ sp < 0 ∧ ¬ dp < 0 ∧ ¬ n < 0 ∧ sp.toNatClampNeg + n.toNatClampNeg ≤ na ∧ dp.toNatClampNeg + n.toNatClampNeg ≤ nb)
theorem cpg_of {sp dp n : Int32} {na nb : Nat} (h : cpg sp dp n na nb = true) : ¬ sp < 0 ∧ ¬ dp < 0 ∧ ¬ n < 0 ∧ sp.toNatClampNeg + n.toNatClampNeg ≤ na ∧ dp.toNatClampNeg + n.toNatClampNeg ≤ nb := of_decide_eq_true h
/-- contracts of what may throw -/
def SpE (K : aK) (M : aMI) (d bc bs : Nat) (av : List Value) (h : aH) (o : Option Value ⊕ String) (h' : aH) : Prop := ∀ Q : aQ, Q o h' → Run K M d bc bs av h Q
def o_out : oX → Option Value ⊕ String
  | .inl x => .inl (some (.int x))
  | .inr E => .inr E
def o_outv : oX → Option Value ⊕ String
  | .inl _ => .inl none
  | .inr E => .inr E
theorem spe_of {K : aK} {M : aMI} {d bc bs : Nat} {av : List Value} {h h' : aH} {o : Option Value ⊕ String} (ok : a_ok M) (hh : M.2.2.2.2.2 = []) (hl : av.length ≤ M.2.2.1) (hc : ∀ v ∈ av, v.category = 1) (g : ∀ Q : aQ, Q o h' → G K M d bc bs 0 (a_L0 M av) [] h Q) : SpE K M d bc bs av h o h' := fun Q hq => run_of ok hh hl hc (g Q hq)
theorem G.hm {K : aK} {M : aMI} {d bc bs pc : Nat} {L S : List Value} {g : aG} {m m' : aM} {Q : aQ} (e : m' = m) (k : G K M d bc bs pc L S (g, m') Q) : G K M d bc bs pc L S (g, m) Q := by subst e; exact k
theorem G.vy {K : aK} {M : aMI} {d bc bs pc : Nat} {L S : List Value} {h : aH} {x y : Int32} {Q : aQ} (e : y = x) (k : G K M d bc bs pc L (.int y :: S) h Q) : G K M d bc bs pc L (.int x :: S) h Q := by subst e; exact k
/-- locals that are forgotten -/
def wl : List Value → List Value → Prop
  | [], L' => L' = []
  | x :: L, L' => match L' with
    | [] => False
    | y :: L'' => ((∃ u, y = .double u) ∨ x = y) ∧ wl L L''
theorem wl0 : wl [] [] := rfl
theorem wld {x : Value} {u : UInt64} {L L' : List Value} (h : wl L L') : wl (x :: L) (.double u :: L') := ⟨Or.inl ⟨u, rfl⟩, h⟩
theorem wls {x : Value} {L L' : List Value} (h : wl L L') : wl (x :: L) (x :: L') := ⟨Or.inr rfl, h⟩
theorem wl_get : ∀ (L L' : List Value), wl L L' → ∀ (j : Nat) (v : Value), L'[j]? = some v → (∃ x, v = .double x) ∨ L[j]? = some v
  | [], L', h, j, v, hv => by rw [show L' = [] from h] at hv; simp at hv
  | _ :: _, [], h, _, _, _ => h.elim
  | x :: L, y :: L', h, 0, v, hv => by
    simp only [List.getElem?_cons_zero, Option.some.injEq] at hv ⊢
    subst hv
    exact h.1
  | x :: L, y :: L', h, j + 1, v, hv => by
    simp only [List.getElem?_cons_succ] at hv ⊢
    exact wl_get L L' h.2 j v hv
theorem G.wl {K : aK} {M : aMI} {d bc bs pc : Nat} {L L' S : List Value} {h : aH} {Q : aQ} (hw : wl L L') (k : G K M d bc bs pc L' S h Q) : G K M d bc bs pc L S h Q := G.wk (wl_get L L' hw) k
theorem i_m1 (x : Int32) : x + Int32.ofInt (-1) = x - 1 := by rw [Int32.sub_eq_add_neg]; rfl
def rwp (i : Int32) : Nat := 42 + 5 * i.toNatClampNeg

def Sys (g : aG) : Prop := ShLen g 2 ∧ ShLen g 12 ∧ ShBox g 21 ∧ ShPla g 29 ∧ ShAsk g 35 ∧ ShTab g 37 ∧ (∀ k, k < 40 → ShRow g (42 + 5 * k) ∧ g.2.2.1 38 k = some (42 + 5 * k)) ∧ g.2.1 0 = (19, 10) ∧ g.2.2.1 0 0 = some 1 ∧ g.2.1 1 = (0, 400) ∧ g.2.1 11 = (15, 8) ∧ g.2.2.1 11 0 = some 1 ∧ g.2.2.1 21 0 = some 2 ∧ g.2.2.1 37 0 = some 2 ∧ g.2.2.1 37 1 = some 35 ∧ g.2.2.1 11 5 = some 12 ∧ g.2.2.1 0 2 = some 2 ∧ g.2.2.1 0 3 = some 11 ∧ g.2.2.1 0 5 = some 21 ∧ g.2.2.1 0 6 = some 29 ∧ g.2.2.1 0 8 = some 35 ∧ g.2.2.1 0 9 = some 37
theorem sy_len {g : aG} (s : Sys g) : ShLen g 2 := s.1
theorem sy_dra {g : aG} (s : Sys g) : ShLen g 12 := s.2.1
theorem sy_Box {g : aG} (s : Sys g) : ShBox g 21 := s.2.2.1
theorem sy_Pla {g : aG} (s : Sys g) : ShPla g 29 := s.2.2.2.1
theorem sy_Ask {g : aG} (s : Sys g) : ShAsk g 35 := s.2.2.2.2.1
theorem sy_Tab {g : aG} (s : Sys g) : ShTab g 37 := s.2.2.2.2.2.1
theorem sy_rows {g : aG} (s : Sys g) : (∀ k, k < 40 → ShRow g (42 + 5 * k) ∧ g.2.2.1 38 k = some (42 + 5 * k)) := s.2.2.2.2.2.2.1
theorem sk_Led {g : aG} (s : Sys g) : g.2.1 0 = (19, 10) := s.2.2.2.2.2.2.2.1
theorem sr_Led_0 {g : aG} (s : Sys g) : g.2.2.1 0 0 = some 1 := s.2.2.2.2.2.2.2.2.1
theorem sa_Led_0 {g : aG} (s : Sys g) : g.2.1 1 = (0, 400) := s.2.2.2.2.2.2.2.2.2.1
theorem sk_Rea {g : aG} (s : Sys g) : g.2.1 11 = (15, 8) := s.2.2.2.2.2.2.2.2.2.2.1
theorem sr_Rea_0 {g : aG} (s : Sys g) : g.2.2.1 11 0 = some 1 := s.2.2.2.2.2.2.2.2.2.2.2.1
theorem sr_Box_0 {g : aG} (s : Sys g) : g.2.2.1 21 0 = some 2 := s.2.2.2.2.2.2.2.2.2.2.2.2.1
theorem sr_Tab_0 {g : aG} (s : Sys g) : g.2.2.1 37 0 = some 2 := s.2.2.2.2.2.2.2.2.2.2.2.2.2.1
theorem sr_Tab_1 {g : aG} (s : Sys g) : g.2.2.1 37 1 = some 35 := s.2.2.2.2.2.2.2.2.2.2.2.2.2.2.1
theorem sr_Rea_5 {g : aG} (s : Sys g) : g.2.2.1 11 5 = some 12 := s.2.2.2.2.2.2.2.2.2.2.2.2.2.2.2.1
theorem sr_Led_2 {g : aG} (s : Sys g) : g.2.2.1 0 2 = some 2 := s.2.2.2.2.2.2.2.2.2.2.2.2.2.2.2.2.1
theorem sr_Led_3 {g : aG} (s : Sys g) : g.2.2.1 0 3 = some 11 := s.2.2.2.2.2.2.2.2.2.2.2.2.2.2.2.2.2.1
theorem sr_Led_5 {g : aG} (s : Sys g) : g.2.2.1 0 5 = some 21 := s.2.2.2.2.2.2.2.2.2.2.2.2.2.2.2.2.2.2.1
theorem sr_Led_6 {g : aG} (s : Sys g) : g.2.2.1 0 6 = some 29 := s.2.2.2.2.2.2.2.2.2.2.2.2.2.2.2.2.2.2.2.1
theorem sr_Led_8 {g : aG} (s : Sys g) : g.2.2.1 0 8 = some 35 := s.2.2.2.2.2.2.2.2.2.2.2.2.2.2.2.2.2.2.2.2.1
theorem sr_Led_9 {g : aG} (s : Sys g) : g.2.2.1 0 9 = some 37 := s.2.2.2.2.2.2.2.2.2.2.2.2.2.2.2.2.2.2.2.2.2
theorem sy_row {g : aG} (s : Sys g) {i : Int32} (h : vp_in i 40) : ShRow g (rwp i) := (sy_rows s _ (vp_lt h)).1
theorem sy_rowr {g : aG} (s : Sys g) {i : Int32} (h : vp_in i 40) : g.2.2.1 38 i.toNatClampNeg = some (rwp i) := (sy_rows s _ (vp_lt h)).2
def SyM (g : aG) : Prop := g.2.1 242 = (20, 61) ∧ g.2.2.1 242 8 = some 243 ∧ g.2.1 243 = (0, 400) ∧ g.2.2.1 242 9 = some 244 ∧ g.2.1 244 = (0, 400) ∧ g.2.2.1 242 10 = some 245 ∧ g.2.1 245 = (0, 8) ∧ g.2.2.1 242 11 = some 246 ∧ g.2.1 246 = (0, 16) ∧ g.2.2.1 242 22 = some 247 ∧ g.2.1 247 = (0, 8) ∧ g.2.2.1 242 23 = some 248 ∧ g.2.1 248 = (0, 16) ∧ g.2.2.1 242 24 = some 249 ∧ g.2.1 249 = (0, 4) ∧ g.2.2.1 242 25 = some 250 ∧ g.2.1 250 = (0, 4) ∧ g.2.2.1 242 26 = some 251 ∧ g.2.1 251 = (0, 4) ∧ g.2.2.1 242 27 = some 252 ∧ g.2.1 252 = (0, 4) ∧ g.2.2.1 242 28 = some 253 ∧ g.2.1 253 = (0, 4) ∧ g.2.2.1 242 29 = some 254 ∧ g.2.1 254 = (0, 4) ∧ g.2.2.1 242 30 = some 255 ∧ g.2.1 255 = (0, 4) ∧ g.2.2.1 242 31 = some 256 ∧ g.2.1 256 = (0, 4) ∧ g.2.2.1 242 32 = some 257 ∧ g.2.1 257 = (0, 4) ∧ g.2.2.1 242 34 = some 8451 ∧ g.2.1 8451 = (1, 8192) ∧ g.2.2.1 242 42 = some 8470 ∧ g.2.1 8470 = (0, 5) ∧ g.2.2.1 242 43 = some 8471 ∧ g.2.1 8471 = (0, 6912) ∧ g.2.2.1 242 44 = some 8472 ∧ g.2.1 8472 = (1, 6912) ∧ g.2.2.1 242 50 = some 8473 ∧ g.2.1 8473 = (1, 40) ∧ g.2.2.1 242 51 = some 8474 ∧ g.2.1 8474 = (1, 40) ∧ g.2.2.1 242 52 = some 8475 ∧ g.2.1 8475 = (0, 40) ∧ g.2.2.1 242 53 = some 8476 ∧ g.2.1 8476 = (0, 40) ∧ g.2.2.1 242 54 = some 8477 ∧ g.2.1 8477 = (0, 40) ∧ g.2.2.1 242 33 = some 258 ∧ g.2.1 258 = (3, 8192) ∧ (∀ j, j < 8192 → g.2.2.1 258 j = some (259 + j) ∧ g.2.1 (259 + j) = (0, 9)) ∧ g.2.2.1 242 38 = some 8452 ∧ g.2.1 8452 = (3, 3) ∧ (∀ j, j < 3 → g.2.2.1 8452 j = some (8453 + j) ∧ g.2.1 (8453 + j) = (0, 5)) ∧ g.2.2.1 242 39 = some 8456 ∧ g.2.1 8456 = (3, 5) ∧ (∀ j, j < 5 → g.2.2.1 8456 j = some (8457 + j) ∧ g.2.1 (8457 + j) = (0, 3)) ∧ g.2.2.1 242 40 = some 8462 ∧ g.2.1 8462 = (4, 3) ∧ (∀ j, j < 3 → g.2.2.1 8462 j = some (8463 + j) ∧ g.2.1 (8463 + j) = (1, 3)) ∧ g.2.2.1 242 41 = some 8466 ∧ g.2.1 8466 = (4, 3) ∧ (∀ j, j < 3 → g.2.2.1 8466 j = some (8467 + j) ∧ g.2.1 (8467 + j) = (1, 3)) ∧ g.2.2.1 242 55 = some 8478 ∧ g.2.1 8478 = (3, 40) ∧ (∀ j, j < 40 → g.2.2.1 8478 j = some (8479 + j) ∧ g.2.1 (8479 + j) = (0, 4)) ∧ g.2.2.1 242 56 = some 8519 ∧ g.2.1 8519 = (3, 40) ∧ (∀ j, j < 40 → g.2.2.1 8519 j = some (8520 + j) ∧ g.2.1 (8520 + j) = (0, 4)) ∧ g.2.2.1 242 57 = some 8560 ∧ g.2.1 8560 = (3, 40) ∧ (∀ j, j < 40 → g.2.2.1 8560 j = some (8561 + j) ∧ g.2.1 (8561 + j) = (0, 4)) ∧ g.2.2.1 242 58 = some 8601 ∧ g.2.1 8601 = (3, 40) ∧ (∀ j, j < 40 → g.2.2.1 8601 j = some (8602 + j) ∧ g.2.1 (8602 + j) = (0, 2)) ∧ g.2.2.1 242 59 = some 8642 ∧ g.2.1 8642 = (5, 8) ∧ (∀ j, j < 8 → g.2.2.1 8642 j = some (8643 + 3 * j) ∧ g.2.1 (8643 + 3 * j) = (3, 2)) ∧ (∀ j i, j < 8 → i < 2 → g.2.2.1 (8643 + 3 * j) i = some (8644 + 3 * j + i) ∧ g.2.1 (8644 + 3 * j + i) = (0, 4)) ∧ g.2.2.1 242 60 = some 8667 ∧ g.2.1 8667 = (5, 8) ∧ (∀ j, j < 8 → g.2.2.1 8667 j = some (8668 + 3 * j) ∧ g.2.1 (8668 + 3 * j) = (3, 2)) ∧ (∀ j i, j < 8 → i < 2 → g.2.2.1 (8668 + 3 * j) i = some (8669 + 3 * j + i) ∧ g.2.1 (8669 + 3 * j + i) = (0, 4))
theorem sk_Mod {g : aG} (s : SyM g) : g.2.1 242 = (20, 61) := s.1
theorem sr_Mod_8 {g : aG} (s : SyM g) : g.2.2.1 242 8 = some 243 := s.2.1
theorem sa_Mod_8 {g : aG} (s : SyM g) : g.2.1 243 = (0, 400) := s.2.2.1
theorem sr_Mod_9 {g : aG} (s : SyM g) : g.2.2.1 242 9 = some 244 := s.2.2.2.1
theorem sa_Mod_9 {g : aG} (s : SyM g) : g.2.1 244 = (0, 400) := s.2.2.2.2.1
theorem sr_Mod_10 {g : aG} (s : SyM g) : g.2.2.1 242 10 = some 245 := s.2.2.2.2.2.1
theorem sa_Mod_10 {g : aG} (s : SyM g) : g.2.1 245 = (0, 8) := s.2.2.2.2.2.2.1
theorem sr_Mod_11 {g : aG} (s : SyM g) : g.2.2.1 242 11 = some 246 := s.2.2.2.2.2.2.2.1
theorem sa_Mod_11 {g : aG} (s : SyM g) : g.2.1 246 = (0, 16) := s.2.2.2.2.2.2.2.2.1
theorem sr_Mod_22 {g : aG} (s : SyM g) : g.2.2.1 242 22 = some 247 := s.2.2.2.2.2.2.2.2.2.1
theorem sa_Mod_22 {g : aG} (s : SyM g) : g.2.1 247 = (0, 8) := s.2.2.2.2.2.2.2.2.2.2.1
theorem sr_Mod_23 {g : aG} (s : SyM g) : g.2.2.1 242 23 = some 248 := s.2.2.2.2.2.2.2.2.2.2.2.1
theorem sa_Mod_23 {g : aG} (s : SyM g) : g.2.1 248 = (0, 16) := s.2.2.2.2.2.2.2.2.2.2.2.2.1
theorem sr_Mod_24 {g : aG} (s : SyM g) : g.2.2.1 242 24 = some 249 := s.2.2.2.2.2.2.2.2.2.2.2.2.2.1
theorem sa_Mod_24 {g : aG} (s : SyM g) : g.2.1 249 = (0, 4) := s.2.2.2.2.2.2.2.2.2.2.2.2.2.2.1
theorem sr_Mod_25 {g : aG} (s : SyM g) : g.2.2.1 242 25 = some 250 := s.2.2.2.2.2.2.2.2.2.2.2.2.2.2.2.1
theorem sa_Mod_25 {g : aG} (s : SyM g) : g.2.1 250 = (0, 4) := s.2.2.2.2.2.2.2.2.2.2.2.2.2.2.2.2.1
theorem sr_Mod_26 {g : aG} (s : SyM g) : g.2.2.1 242 26 = some 251 := s.2.2.2.2.2.2.2.2.2.2.2.2.2.2.2.2.2.1
theorem sa_Mod_26 {g : aG} (s : SyM g) : g.2.1 251 = (0, 4) := s.2.2.2.2.2.2.2.2.2.2.2.2.2.2.2.2.2.2.1
theorem sr_Mod_27 {g : aG} (s : SyM g) : g.2.2.1 242 27 = some 252 := s.2.2.2.2.2.2.2.2.2.2.2.2.2.2.2.2.2.2.2.1
theorem sa_Mod_27 {g : aG} (s : SyM g) : g.2.1 252 = (0, 4) := s.2.2.2.2.2.2.2.2.2.2.2.2.2.2.2.2.2.2.2.2.1
theorem sr_Mod_28 {g : aG} (s : SyM g) : g.2.2.1 242 28 = some 253 := s.2.2.2.2.2.2.2.2.2.2.2.2.2.2.2.2.2.2.2.2.2.1
theorem sa_Mod_28 {g : aG} (s : SyM g) : g.2.1 253 = (0, 4) := s.2.2.2.2.2.2.2.2.2.2.2.2.2.2.2.2.2.2.2.2.2.2.1
theorem sr_Mod_29 {g : aG} (s : SyM g) : g.2.2.1 242 29 = some 254 := s.2.2.2.2.2.2.2.2.2.2.2.2.2.2.2.2.2.2.2.2.2.2.2.1
theorem sa_Mod_29 {g : aG} (s : SyM g) : g.2.1 254 = (0, 4) := s.2.2.2.2.2.2.2.2.2.2.2.2.2.2.2.2.2.2.2.2.2.2.2.2.1
theorem sr_Mod_30 {g : aG} (s : SyM g) : g.2.2.1 242 30 = some 255 := s.2.2.2.2.2.2.2.2.2.2.2.2.2.2.2.2.2.2.2.2.2.2.2.2.2.1
theorem sa_Mod_30 {g : aG} (s : SyM g) : g.2.1 255 = (0, 4) := s.2.2.2.2.2.2.2.2.2.2.2.2.2.2.2.2.2.2.2.2.2.2.2.2.2.2.1
theorem sr_Mod_31 {g : aG} (s : SyM g) : g.2.2.1 242 31 = some 256 := s.2.2.2.2.2.2.2.2.2.2.2.2.2.2.2.2.2.2.2.2.2.2.2.2.2.2.2.1
theorem sa_Mod_31 {g : aG} (s : SyM g) : g.2.1 256 = (0, 4) := s.2.2.2.2.2.2.2.2.2.2.2.2.2.2.2.2.2.2.2.2.2.2.2.2.2.2.2.2.1
theorem sr_Mod_32 {g : aG} (s : SyM g) : g.2.2.1 242 32 = some 257 := s.2.2.2.2.2.2.2.2.2.2.2.2.2.2.2.2.2.2.2.2.2.2.2.2.2.2.2.2.2.1
theorem sa_Mod_32 {g : aG} (s : SyM g) : g.2.1 257 = (0, 4) := s.2.2.2.2.2.2.2.2.2.2.2.2.2.2.2.2.2.2.2.2.2.2.2.2.2.2.2.2.2.2.1
theorem sr_Mod_34 {g : aG} (s : SyM g) : g.2.2.1 242 34 = some 8451 := s.2.2.2.2.2.2.2.2.2.2.2.2.2.2.2.2.2.2.2.2.2.2.2.2.2.2.2.2.2.2.2.1
theorem sa_Mod_34 {g : aG} (s : SyM g) : g.2.1 8451 = (1, 8192) := s.2.2.2.2.2.2.2.2.2.2.2.2.2.2.2.2.2.2.2.2.2.2.2.2.2.2.2.2.2.2.2.2.1
theorem sr_Mod_42 {g : aG} (s : SyM g) : g.2.2.1 242 42 = some 8470 := s.2.2.2.2.2.2.2.2.2.2.2.2.2.2.2.2.2.2.2.2.2.2.2.2.2.2.2.2.2.2.2.2.2.1
theorem sa_Mod_42 {g : aG} (s : SyM g) : g.2.1 8470 = (0, 5) := s.2.2.2.2.2.2.2.2.2.2.2.2.2.2.2.2.2.2.2.2.2.2.2.2.2.2.2.2.2.2.2.2.2.2.1
theorem sr_Mod_43 {g : aG} (s : SyM g) : g.2.2.1 242 43 = some 8471 := s.2.2.2.2.2.2.2.2.2.2.2.2.2.2.2.2.2.2.2.2.2.2.2.2.2.2.2.2.2.2.2.2.2.2.2.1
theorem sa_Mod_43 {g : aG} (s : SyM g) : g.2.1 8471 = (0, 6912) := s.2.2.2.2.2.2.2.2.2.2.2.2.2.2.2.2.2.2.2.2.2.2.2.2.2.2.2.2.2.2.2.2.2.2.2.2.1
theorem sr_Mod_44 {g : aG} (s : SyM g) : g.2.2.1 242 44 = some 8472 := s.2.2.2.2.2.2.2.2.2.2.2.2.2.2.2.2.2.2.2.2.2.2.2.2.2.2.2.2.2.2.2.2.2.2.2.2.2.1
theorem sa_Mod_44 {g : aG} (s : SyM g) : g.2.1 8472 = (1, 6912) := s.2.2.2.2.2.2.2.2.2.2.2.2.2.2.2.2.2.2.2.2.2.2.2.2.2.2.2.2.2.2.2.2.2.2.2.2.2.2.1
theorem sr_Mod_50 {g : aG} (s : SyM g) : g.2.2.1 242 50 = some 8473 := s.2.2.2.2.2.2.2.2.2.2.2.2.2.2.2.2.2.2.2.2.2.2.2.2.2.2.2.2.2.2.2.2.2.2.2.2.2.2.2.1
theorem sa_Mod_50 {g : aG} (s : SyM g) : g.2.1 8473 = (1, 40) := s.2.2.2.2.2.2.2.2.2.2.2.2.2.2.2.2.2.2.2.2.2.2.2.2.2.2.2.2.2.2.2.2.2.2.2.2.2.2.2.2.1
theorem sr_Mod_51 {g : aG} (s : SyM g) : g.2.2.1 242 51 = some 8474 := s.2.2.2.2.2.2.2.2.2.2.2.2.2.2.2.2.2.2.2.2.2.2.2.2.2.2.2.2.2.2.2.2.2.2.2.2.2.2.2.2.2.1
theorem sa_Mod_51 {g : aG} (s : SyM g) : g.2.1 8474 = (1, 40) := s.2.2.2.2.2.2.2.2.2.2.2.2.2.2.2.2.2.2.2.2.2.2.2.2.2.2.2.2.2.2.2.2.2.2.2.2.2.2.2.2.2.2.1
theorem sr_Mod_52 {g : aG} (s : SyM g) : g.2.2.1 242 52 = some 8475 := s.2.2.2.2.2.2.2.2.2.2.2.2.2.2.2.2.2.2.2.2.2.2.2.2.2.2.2.2.2.2.2.2.2.2.2.2.2.2.2.2.2.2.2.1
theorem sa_Mod_52 {g : aG} (s : SyM g) : g.2.1 8475 = (0, 40) := s.2.2.2.2.2.2.2.2.2.2.2.2.2.2.2.2.2.2.2.2.2.2.2.2.2.2.2.2.2.2.2.2.2.2.2.2.2.2.2.2.2.2.2.2.1
theorem sr_Mod_53 {g : aG} (s : SyM g) : g.2.2.1 242 53 = some 8476 := s.2.2.2.2.2.2.2.2.2.2.2.2.2.2.2.2.2.2.2.2.2.2.2.2.2.2.2.2.2.2.2.2.2.2.2.2.2.2.2.2.2.2.2.2.2.1
theorem sa_Mod_53 {g : aG} (s : SyM g) : g.2.1 8476 = (0, 40) := s.2.2.2.2.2.2.2.2.2.2.2.2.2.2.2.2.2.2.2.2.2.2.2.2.2.2.2.2.2.2.2.2.2.2.2.2.2.2.2.2.2.2.2.2.2.2.1
theorem sr_Mod_54 {g : aG} (s : SyM g) : g.2.2.1 242 54 = some 8477 := s.2.2.2.2.2.2.2.2.2.2.2.2.2.2.2.2.2.2.2.2.2.2.2.2.2.2.2.2.2.2.2.2.2.2.2.2.2.2.2.2.2.2.2.2.2.2.2.1
theorem sa_Mod_54 {g : aG} (s : SyM g) : g.2.1 8477 = (0, 40) := s.2.2.2.2.2.2.2.2.2.2.2.2.2.2.2.2.2.2.2.2.2.2.2.2.2.2.2.2.2.2.2.2.2.2.2.2.2.2.2.2.2.2.2.2.2.2.2.2.1
theorem sr_Mod_33 {g : aG} (s : SyM g) : g.2.2.1 242 33 = some 258 := s.2.2.2.2.2.2.2.2.2.2.2.2.2.2.2.2.2.2.2.2.2.2.2.2.2.2.2.2.2.2.2.2.2.2.2.2.2.2.2.2.2.2.2.2.2.2.2.2.2.1
theorem sa_Mod_33 {g : aG} (s : SyM g) : g.2.1 258 = (3, 8192) := s.2.2.2.2.2.2.2.2.2.2.2.2.2.2.2.2.2.2.2.2.2.2.2.2.2.2.2.2.2.2.2.2.2.2.2.2.2.2.2.2.2.2.2.2.2.2.2.2.2.2.1
theorem si_Mod_33 {g : aG} (s : SyM g) : (∀ j, j < 8192 → g.2.2.1 258 j = some (259 + j) ∧ g.2.1 (259 + j) = (0, 9)) := s.2.2.2.2.2.2.2.2.2.2.2.2.2.2.2.2.2.2.2.2.2.2.2.2.2.2.2.2.2.2.2.2.2.2.2.2.2.2.2.2.2.2.2.2.2.2.2.2.2.2.2.1
theorem sr_Mod_38 {g : aG} (s : SyM g) : g.2.2.1 242 38 = some 8452 := s.2.2.2.2.2.2.2.2.2.2.2.2.2.2.2.2.2.2.2.2.2.2.2.2.2.2.2.2.2.2.2.2.2.2.2.2.2.2.2.2.2.2.2.2.2.2.2.2.2.2.2.2.1
theorem sa_Mod_38 {g : aG} (s : SyM g) : g.2.1 8452 = (3, 3) := s.2.2.2.2.2.2.2.2.2.2.2.2.2.2.2.2.2.2.2.2.2.2.2.2.2.2.2.2.2.2.2.2.2.2.2.2.2.2.2.2.2.2.2.2.2.2.2.2.2.2.2.2.2.1
theorem si_Mod_38 {g : aG} (s : SyM g) : (∀ j, j < 3 → g.2.2.1 8452 j = some (8453 + j) ∧ g.2.1 (8453 + j) = (0, 5)) := s.2.2.2.2.2.2.2.2.2.2.2.2.2.2.2.2.2.2.2.2.2.2.2.2.2.2.2.2.2.2.2.2.2.2.2.2.2.2.2.2.2.2.2.2.2.2.2.2.2.2.2.2.2.2.1
theorem sr_Mod_39 {g : aG} (s : SyM g) : g.2.2.1 242 39 = some 8456 := s.2.2.2.2.2.2.2.2.2.2.2.2.2.2.2.2.2.2.2.2.2.2.2.2.2.2.2.2.2.2.2.2.2.2.2.2.2.2.2.2.2.2.2.2.2.2.2.2.2.2.2.2.2.2.2.1
theorem sa_Mod_39 {g : aG} (s : SyM g) : g.2.1 8456 = (3, 5) := s.2.2.2.2.2.2.2.2.2.2.2.2.2.2.2.2.2.2.2.2.2.2.2.2.2.2.2.2.2.2.2.2.2.2.2.2.2.2.2.2.2.2.2.2.2.2.2.2.2.2.2.2.2.2.2.2.1
theorem si_Mod_39 {g : aG} (s : SyM g) : (∀ j, j < 5 → g.2.2.1 8456 j = some (8457 + j) ∧ g.2.1 (8457 + j) = (0, 3)) := s.2.2.2.2.2.2.2.2.2.2.2.2.2.2.2.2.2.2.2.2.2.2.2.2.2.2.2.2.2.2.2.2.2.2.2.2.2.2.2.2.2.2.2.2.2.2.2.2.2.2.2.2.2.2.2.2.2.1
theorem sr_Mod_40 {g : aG} (s : SyM g) : g.2.2.1 242 40 = some 8462 := s.2.2.2.2.2.2.2.2.2.2.2.2.2.2.2.2.2.2.2.2.2.2.2.2.2.2.2.2.2.2.2.2.2.2.2.2.2.2.2.2.2.2.2.2.2.2.2.2.2.2.2.2.2.2.2.2.2.2.1
theorem sa_Mod_40 {g : aG} (s : SyM g) : g.2.1 8462 = (4, 3) := s.2.2.2.2.2.2.2.2.2.2.2.2.2.2.2.2.2.2.2.2.2.2.2.2.2.2.2.2.2.2.2.2.2.2.2.2.2.2.2.2.2.2.2.2.2.2.2.2.2.2.2.2.2.2.2.2.2.2.2.1
theorem si_Mod_40 {g : aG} (s : SyM g) : (∀ j, j < 3 → g.2.2.1 8462 j = some (8463 + j) ∧ g.2.1 (8463 + j) = (1, 3)) := s.2.2.2.2.2.2.2.2.2.2.2.2.2.2.2.2.2.2.2.2.2.2.2.2.2.2.2.2.2.2.2.2.2.2.2.2.2.2.2.2.2.2.2.2.2.2.2.2.2.2.2.2.2.2.2.2.2.2.2.2.1
theorem sr_Mod_41 {g : aG} (s : SyM g) : g.2.2.1 242 41 = some 8466 := s.2.2.2.2.2.2.2.2.2.2.2.2.2.2.2.2.2.2.2.2.2.2.2.2.2.2.2.2.2.2.2.2.2.2.2.2.2.2.2.2.2.2.2.2.2.2.2.2.2.2.2.2.2.2.2.2.2.2.2.2.2.1
theorem sa_Mod_41 {g : aG} (s : SyM g) : g.2.1 8466 = (4, 3) := s.2.2.2.2.2.2.2.2.2.2.2.2.2.2.2.2.2.2.2.2.2.2.2.2.2.2.2.2.2.2.2.2.2.2.2.2.2.2.2.2.2.2.2.2.2.2.2.2.2.2.2.2.2.2.2.2.2.2.2.2.2.2.1
theorem si_Mod_41 {g : aG} (s : SyM g) : (∀ j, j < 3 → g.2.2.1 8466 j = some (8467 + j) ∧ g.2.1 (8467 + j) = (1, 3)) := s.2.2.2.2.2.2.2.2.2.2.2.2.2.2.2.2.2.2.2.2.2.2.2.2.2.2.2.2.2.2.2.2.2.2.2.2.2.2.2.2.2.2.2.2.2.2.2.2.2.2.2.2.2.2.2.2.2.2.2.2.2.2.2.1
theorem sr_Mod_55 {g : aG} (s : SyM g) : g.2.2.1 242 55 = some 8478 := s.2.2.2.2.2.2.2.2.2.2.2.2.2.2.2.2.2.2.2.2.2.2.2.2.2.2.2.2.2.2.2.2.2.2.2.2.2.2.2.2.2.2.2.2.2.2.2.2.2.2.2.2.2.2.2.2.2.2.2.2.2.2.2.2.1
theorem sa_Mod_55 {g : aG} (s : SyM g) : g.2.1 8478 = (3, 40) := s.2.2.2.2.2.2.2.2.2.2.2.2.2.2.2.2.2.2.2.2.2.2.2.2.2.2.2.2.2.2.2.2.2.2.2.2.2.2.2.2.2.2.2.2.2.2.2.2.2.2.2.2.2.2.2.2.2.2.2.2.2.2.2.2.2.1
theorem si_Mod_55 {g : aG} (s : SyM g) : (∀ j, j < 40 → g.2.2.1 8478 j = some (8479 + j) ∧ g.2.1 (8479 + j) = (0, 4)) := s.2.2.2.2.2.2.2.2.2.2.2.2.2.2.2.2.2.2.2.2.2.2.2.2.2.2.2.2.2.2.2.2.2.2.2.2.2.2.2.2.2.2.2.2.2.2.2.2.2.2.2.2.2.2.2.2.2.2.2.2.2.2.2.2.2.2.1
theorem sr_Mod_56 {g : aG} (s : SyM g) : g.2.2.1 242 56 = some 8519 := s.2.2.2.2.2.2.2.2.2.2.2.2.2.2.2.2.2.2.2.2.2.2.2.2.2.2.2.2.2.2.2.2.2.2.2.2.2.2.2.2.2.2.2.2.2.2.2.2.2.2.2.2.2.2.2.2.2.2.2.2.2.2.2.2.2.2.2.1
theorem sa_Mod_56 {g : aG} (s : SyM g) : g.2.1 8519 = (3, 40) := s.2.2.2.2.2.2.2.2.2.2.2.2.2.2.2.2.2.2.2.2.2.2.2.2.2.2.2.2.2.2.2.2.2.2.2.2.2.2.2.2.2.2.2.2.2.2.2.2.2.2.2.2.2.2.2.2.2.2.2.2.2.2.2.2.2.2.2.2.1
theorem si_Mod_56 {g : aG} (s : SyM g) : (∀ j, j < 40 → g.2.2.1 8519 j = some (8520 + j) ∧ g.2.1 (8520 + j) = (0, 4)) := s.2.2.2.2.2.2.2.2.2.2.2.2.2.2.2.2.2.2.2.2.2.2.2.2.2.2.2.2.2.2.2.2.2.2.2.2.2.2.2.2.2.2.2.2.2.2.2.2.2.2.2.2.2.2.2.2.2.2.2.2.2.2.2.2.2.2.2.2.2.1
theorem sr_Mod_57 {g : aG} (s : SyM g) : g.2.2.1 242 57 = some 8560 := s.2.2.2.2.2.2.2.2.2.2.2.2.2.2.2.2.2.2.2.2.2.2.2.2.2.2.2.2.2.2.2.2.2.2.2.2.2.2.2.2.2.2.2.2.2.2.2.2.2.2.2.2.2.2.2.2.2.2.2.2.2.2.2.2.2.2.2.2.2.2.1
theorem sa_Mod_57 {g : aG} (s : SyM g) : g.2.1 8560 = (3, 40) := s.2.2.2.2.2.2.2.2.2.2.2.2.2.2.2.2.2.2.2.2.2.2.2.2.2.2.2.2.2.2.2.2.2.2.2.2.2.2.2.2.2.2.2.2.2.2.2.2.2.2.2.2.2.2.2.2.2.2.2.2.2.2.2.2.2.2.2.2.2.2.2.1
theorem si_Mod_57 {g : aG} (s : SyM g) : (∀ j, j < 40 → g.2.2.1 8560 j = some (8561 + j) ∧ g.2.1 (8561 + j) = (0, 4)) := s.2.2.2.2.2.2.2.2.2.2.2.2.2.2.2.2.2.2.2.2.2.2.2.2.2.2.2.2.2.2.2.2.2.2.2.2.2.2.2.2.2.2.2.2.2.2.2.2.2.2.2.2.2.2.2.2.2.2.2.2.2.2.2.2.2.2.2.2.2.2.2.2.1
theorem sr_Mod_58 {g : aG} (s : SyM g) : g.2.2.1 242 58 = some 8601 := s.2.2.2.2.2.2.2.2.2.2.2.2.2.2.2.2.2.2.2.2.2.2.2.2.2.2.2.2.2.2.2.2.2.2.2.2.2.2.2.2.2.2.2.2.2.2.2.2.2.2.2.2.2.2.2.2.2.2.2.2.2.2.2.2.2.2.2.2.2.2.2.2.2.1
theorem sa_Mod_58 {g : aG} (s : SyM g) : g.2.1 8601 = (3, 40) := s.2.2.2.2.2.2.2.2.2.2.2.2.2.2.2.2.2.2.2.2.2.2.2.2.2.2.2.2.2.2.2.2.2.2.2.2.2.2.2.2.2.2.2.2.2.2.2.2.2.2.2.2.2.2.2.2.2.2.2.2.2.2.2.2.2.2.2.2.2.2.2.2.2.2.1
theorem si_Mod_58 {g : aG} (s : SyM g) : (∀ j, j < 40 → g.2.2.1 8601 j = some (8602 + j) ∧ g.2.1 (8602 + j) = (0, 2)) := s.2.2.2.2.2.2.2.2.2.2.2.2.2.2.2.2.2.2.2.2.2.2.2.2.2.2.2.2.2.2.2.2.2.2.2.2.2.2.2.2.2.2.2.2.2.2.2.2.2.2.2.2.2.2.2.2.2.2.2.2.2.2.2.2.2.2.2.2.2.2.2.2.2.2.2.1
theorem sr_Mod_59 {g : aG} (s : SyM g) : g.2.2.1 242 59 = some 8642 := s.2.2.2.2.2.2.2.2.2.2.2.2.2.2.2.2.2.2.2.2.2.2.2.2.2.2.2.2.2.2.2.2.2.2.2.2.2.2.2.2.2.2.2.2.2.2.2.2.2.2.2.2.2.2.2.2.2.2.2.2.2.2.2.2.2.2.2.2.2.2.2.2.2.2.2.2.1
theorem sa_Mod_59 {g : aG} (s : SyM g) : g.2.1 8642 = (5, 8) := s.2.2.2.2.2.2.2.2.2.2.2.2.2.2.2.2.2.2.2.2.2.2.2.2.2.2.2.2.2.2.2.2.2.2.2.2.2.2.2.2.2.2.2.2.2.2.2.2.2.2.2.2.2.2.2.2.2.2.2.2.2.2.2.2.2.2.2.2.2.2.2.2.2.2.2.2.2.1
theorem si_Mod_59 {g : aG} (s : SyM g) : (∀ j, j < 8 → g.2.2.1 8642 j = some (8643 + 3 * j) ∧ g.2.1 (8643 + 3 * j) = (3, 2)) := s.2.2.2.2.2.2.2.2.2.2.2.2.2.2.2.2.2.2.2.2.2.2.2.2.2.2.2.2.2.2.2.2.2.2.2.2.2.2.2.2.2.2.2.2.2.2.2.2.2.2.2.2.2.2.2.2.2.2.2.2.2.2.2.2.2.2.2.2.2.2.2.2.2.2.2.2.2.2.1
theorem sj_Mod_59 {g : aG} (s : SyM g) : (∀ j i, j < 8 → i < 2 → g.2.2.1 (8643 + 3 * j) i = some (8644 + 3 * j + i) ∧ g.2.1 (8644 + 3 * j + i) = (0, 4)) := s.2.2.2.2.2.2.2.2.2.2.2.2.2.2.2.2.2.2.2.2.2.2.2.2.2.2.2.2.2.2.2.2.2.2.2.2.2.2.2.2.2.2.2.2.2.2.2.2.2.2.2.2.2.2.2.2.2.2.2.2.2.2.2.2.2.2.2.2.2.2.2.2.2.2.2.2.2.2.2.1
theorem sr_Mod_60 {g : aG} (s : SyM g) : g.2.2.1 242 60 = some 8667 := s.2.2.2.2.2.2.2.2.2.2.2.2.2.2.2.2.2.2.2.2.2.2.2.2.2.2.2.2.2.2.2.2.2.2.2.2.2.2.2.2.2.2.2.2.2.2.2.2.2.2.2.2.2.2.2.2.2.2.2.2.2.2.2.2.2.2.2.2.2.2.2.2.2.2.2.2.2.2.2.2.1
theorem sa_Mod_60 {g : aG} (s : SyM g) : g.2.1 8667 = (5, 8) := s.2.2.2.2.2.2.2.2.2.2.2.2.2.2.2.2.2.2.2.2.2.2.2.2.2.2.2.2.2.2.2.2.2.2.2.2.2.2.2.2.2.2.2.2.2.2.2.2.2.2.2.2.2.2.2.2.2.2.2.2.2.2.2.2.2.2.2.2.2.2.2.2.2.2.2.2.2.2.2.2.2.1
theorem si_Mod_60 {g : aG} (s : SyM g) : (∀ j, j < 8 → g.2.2.1 8667 j = some (8668 + 3 * j) ∧ g.2.1 (8668 + 3 * j) = (3, 2)) := s.2.2.2.2.2.2.2.2.2.2.2.2.2.2.2.2.2.2.2.2.2.2.2.2.2.2.2.2.2.2.2.2.2.2.2.2.2.2.2.2.2.2.2.2.2.2.2.2.2.2.2.2.2.2.2.2.2.2.2.2.2.2.2.2.2.2.2.2.2.2.2.2.2.2.2.2.2.2.2.2.2.2.1
theorem sj_Mod_60 {g : aG} (s : SyM g) : (∀ j i, j < 8 → i < 2 → g.2.2.1 (8668 + 3 * j) i = some (8669 + 3 * j + i) ∧ g.2.1 (8669 + 3 * j + i) = (0, 4)) := s.2.2.2.2.2.2.2.2.2.2.2.2.2.2.2.2.2.2.2.2.2.2.2.2.2.2.2.2.2.2.2.2.2.2.2.2.2.2.2.2.2.2.2.2.2.2.2.2.2.2.2.2.2.2.2.2.2.2.2.2.2.2.2.2.2.2.2.2.2.2.2.2.2.2.2.2.2.2.2.2.2.2.2
