/-! CONTRACTS with several ends: P says which answers and heaps come -/
def SpR (K : aK) (M : aMI) (d bc bs : Nat) (av : List Value) (h : aH) (P : Option Value → aH → Prop) : Prop := ∀ Q : aQ, (∀ v h', P v h' → Q (.inl v) h') → Run K M d bc bs av h Q
section
variable {K : aK} {M M' : aMI} {d bc bs pc bc' bs' : Nat} {L S av rest : List Value} {h h' : aH} {Q : aQ} {P : Option Value → aH → Prop}
theorem spr_of (ok : a_ok M) (hh : M.2.2.2.2.2 = []) (hl : av.length ≤ M.2.2.1) (hc : ∀ v ∈ av, v.category = 1) (g : ∀ Q : aQ, (∀ v h', P v h' → Q (.inl v) h') → G K M d bc bs 0 (a_L0 M av) [] h Q) : SpR K M d bc bs av h P := fun Q hq => run_of ok hh hl hc (g Q hq)
theorem SpR.imp {P' : Option Value → aH → Prop} (s : SpR K M d bc bs av h P) (f : ∀ v h', P v h' → P' v h') : SpR K M d bc bs av h P' := fun Q hq => s Q (fun v h' p => hq v h' (f v h' p))
theorem Sp.toR {v : Option Value} (s : Sp K M d bc bs av h v h') (p : P v h') : SpR K M d bc bs av h P := fun Q hq => s Q (hq v h' p)
theorem SpR.sp {v : Option Value} (s : SpR K M d bc bs av h P) (f : ∀ w h1, P w h1 → w = v ∧ h1 = h') : Sp K M d bc bs av h v h' := fun Q hq => s Q (fun w h1 p => by obtain ⟨rfl, rfl⟩ := f w h1 p; exact hq)
theorem g_csR {index : Nat} (hd : decode M.2.1 pc = .ok (.invokestatic index, 3)) {nn : Nat} (hl : a_ls M.1 index M' nn) (hlaw : M'.2.2.2.2.1.name ≠ "law") (sp : SpR K M' (d - 1) bc' bs' av h P) (hn : av.length = nn) (hS : S = av.reverse ++ rest) (hc : (rest.map fun v => v.category).sum ≤ 8) (hav : ∀ v ∈ av, v.category = 1) (h1 : 1 ≤ d) (hbc : bc' ≤ bc) (hbs : bs' ≤ bs)
    (k : ∀ v h', P v h' → G K M d (bc - bc') (bs - bs') (pc + 3) L (v.toList ++ rest) h' Q) : G K M d bc bs pc L S h Q := by
  subst hn
  obtain ⟨d, rfl⟩ : ∃ e, d = e + 1 := ⟨d - 1, by omega⟩
  exact g_invs hd hl hlaw hS hc hav hbc hbs (sp _ k)
theorem g_cvR {index a ci n : Nat} {T : u_T} {N : Nat} (hd : decode M.2.1 pc = .ok (.invokevirtual index, 3)) {nn : Nat} (hl : a_lv M.1 index M' nn) (hlaw : M'.2.2.2.2.1.name ≠ "law") (hcl : a_cl[ci]? = some (M'.2.2.2.2.1.cls, T, N)) (ha : h.1.2.1 a = (10 + ci, n)) (sp : SpR K M' (d - 1) bc' bs' (.ref a :: av) h P) (hn : av.length = nn) (hS : S = av.reverse ++ .ref a :: rest) (hc : (rest.map fun v => v.category).sum ≤ 8) (hav : ∀ v ∈ av, v.category = 1) (h1 : 1 ≤ d) (hbc : bc' ≤ bc) (hbs : bs' ≤ bs)
    (k : ∀ v h', P v h' → G K M d (bc - bc') (bs - bs') (pc + 3) L (v.toList ++ rest) h' Q) : G K M d bc bs pc L S h Q := by
  subst hn
  obtain ⟨d, rfl⟩ : ∃ e, d = e + 1 := ⟨d - 1, by omega⟩
  exact g_invv hd hl hlaw hS ha hcl hc hav hbc hbs (sp _ k)
theorem g_csn {v : Option Value} {index : Nat} {host : String} (hd : decode M.2.1 pc = .ok (.invokestatic index, 3)) (hn1 : Cond.methodLinkNest M.1 index M'.2.2.2.2.1 host ∈ a_N) (hst : Cond.static M'.2.2.2.2.1 ∈ a_w0) {nn : Nat} (hl : a_cm M' nn) (hlaw : M'.2.2.2.2.1.name ≠ "law") (sp : Sp K M' (d - 1) bc' bs' av h v h') (hn : av.length = nn) (hS : S = av.reverse ++ rest) (hc : (rest.map fun v => v.category).sum ≤ 8) (hav : ∀ v ∈ av, v.category = 1) (h1 : 1 ≤ d) (hbc : bc' ≤ bc) (hbs : bs' ≤ bs)
    (k : G K M d (bc - bc') (bs - bs') (pc + 3) L (v.toList ++ rest) h' Q) : G K M d bc bs pc L S h Q := by
  subst hn
  obtain ⟨d, rfl⟩ : ∃ e, d = e + 1 := ⟨d - 1, by omega⟩
  exact g_invsn hd hn1 hst hl hlaw hS hc hav hbc hbs (sp _ k)
theorem g_cin {index a : Nat} {host : String} (hd : decode M.2.1 pc = .ok (.invokespecial index, 3)) (hn1 : Cond.methodLinkNest M.1 index M'.2.2.2.2.1 host ∈ a_N) (hin : Cond.instanceMethod M'.2.2.2.2.1 ∈ a_w0) (l8 : M'.2.2.2.2.1.name = "<init>") (l9 : M'.2.2.2.1 = none) {nn : Nat} (hl : a_cm M' nn) (sp : Sp K M' (d - 1) bc' bs' (.ref a :: av) h none h') (hn : av.length = nn) (hS : S = av.reverse ++ .ref a :: rest) (hc : (rest.map fun v => v.category).sum ≤ 8) (hav : ∀ v ∈ av, v.category = 1) (h1 : 1 ≤ d) (hbc : bc' ≤ bc) (hbs : bs' ≤ bs)
    (k : G K M d (bc - bc') (bs - bs') (pc + 3) L rest h' Q) : G K M d bc bs pc L S h Q := by
  subst hn
  obtain ⟨d, rfl⟩ : ∃ e, d = e + 1 := ⟨d - 1, by omega⟩
  exact g_invin hd hn1 hin l8 l9 hl hS hc hav hbc hbs (sp _ k)
end
/-- what is there at other places is as it was -/
def Ag (S : Nat → Prop) (m m' : aM) : Prop := ∀ b, ¬ S b → m' b = m b
theorem Ag.rf {S : Nat → Prop} {m : aM} : Ag S m m := fun _ _ => rfl
theorem Ag.tr {S : Nat → Prop} {m m1 m2 : aM} (h : Ag S m m1) (h' : Ag S m1 m2) : Ag S m m2 := fun b hb => (h' b hb).trans (h b hb)
theorem Ag.mono {S S' : Nat → Prop} {m m1 : aM} (h : Ag S m m1) (f : ∀ b, S b → S' b) : Ag S' m m1 := fun b hb => h b (fun q => hb (f b q))
theorem Ag.st {S : Nat → Prop} {m m1 : aM} {a i : Nat} {x : Int32} (h : Ag S m m1) (ha : S a) : Ag S m (a_st m1 a i x) := fun b hb => by
  have hne : b ≠ a := fun e => hb (by rw [e]; exact ha)
  rw [a_st_ne hne]
  exact h b hb
theorem a_st_self {m : aM} {a i : Nat} {x : Int32} : a_st m a i x a i = x := by simp [a_st]
theorem a_st_no {m : aM} {a i b j : Nat} {x : Int32} (h : ¬ (b = a ∧ j = i)) : a_st m a i x b j = m b j := by simp [a_st, h]
-- numbers
theorem nIx (n : Nat) : nI n + Int32.ofInt 1 = nI (n + 1) := (nI_succ n).symm
theorem i_lt (x y : Int32) : x < y ↔ x.toInt < y.toInt := Int32.lt_iff_toInt_lt
theorem i_le (x y : Int32) : x ≤ y ↔ x.toInt ≤ y.toInt := Int32.le_iff_toInt_le
theorem i_eq (x y : Int32) : x = y ↔ x.toInt = y.toInt := Int32.toInt_inj.symm
theorem in_of {x : Int32} {n : Nat} (h0 : ¬ x < 0) (h1 : ¬ nI n ≤ x) (hn : n < 2 ^ 31) : vp_in x n := by
  rw [vp_in_iff]
  rw [i_lt] at h0
  rw [i_le, nI_toInt hn] at h1
  have : (0 : Int32).toInt = 0 := rfl
  omega
theorem q_int {Q : aQ} {h : aH} {x y : Int32} (e : x = y) (hq : Q (.inl (some (.int y))) h) : Q (.inl (some (.int x))) h := by subst e; exact hq
