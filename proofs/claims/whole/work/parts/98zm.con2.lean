/-! CONSTRUCTORS: the reader, the table, LedTables (made by wip/gen/co2.py) -/
theorem ShAsk.bl {g g1 : aG} {a z : Nat} (s : ShAsk g a) (x : Bl z g g1) (hb : a + 1 < z) : ShAsk g1 a := ⟨(x a (by omega)).1.trans s.1, ((x a (by omega)).2 _).trans s.2.1, (x (a + 1) (by omega)).1.trans s.2.2⟩
theorem ShAsk.pt {g g1 : aG} {a c k : Nat} {b : Option Nat} (s : ShAsk g a) (x : Pt1 c k b g g1) (h : a ≠ c) : ShAsk g1 a := ⟨(x.2.1 a).trans s.1, (x.2.2.1 a _ (fun q => h q.1)).trans s.2.1, (x.2.1 (a + 1)).trans s.2.2⟩
theorem ShLen.bl {g g1 : aG} {a z : Nat} (s : ShLen g a) (x : Bl z g g1) (hb : a + 8 < z) : ShLen g1 a := ⟨(x a (by omega)).1.trans s.1, ((x a (by omega)).2 _).trans s.2.1, (x (a + 1) (by omega)).1.trans s.2.2.1, ((x a (by omega)).2 _).trans s.2.2.2.1, (x (a + 2) (by omega)).1.trans s.2.2.2.2.1, ((x a (by omega)).2 _).trans s.2.2.2.2.2.1, (x (a + 3) (by omega)).1.trans s.2.2.2.2.2.2.1, ((x a (by omega)).2 _).trans s.2.2.2.2.2.2.2.1, (x (a + 4) (by omega)).1.trans s.2.2.2.2.2.2.2.2.1, ((x a (by omega)).2 _).trans s.2.2.2.2.2.2.2.2.2.1, (x (a + 5) (by omega)).1.trans s.2.2.2.2.2.2.2.2.2.2.1, ((x a (by omega)).2 _).trans s.2.2.2.2.2.2.2.2.2.2.2.1, (x (a + 6) (by omega)).1.trans s.2.2.2.2.2.2.2.2.2.2.2.2.1, ((x a (by omega)).2 _).trans s.2.2.2.2.2.2.2.2.2.2.2.2.2.1, (x (a + 7) (by omega)).1.trans s.2.2.2.2.2.2.2.2.2.2.2.2.2.2.1, ((x a (by omega)).2 _).trans s.2.2.2.2.2.2.2.2.2.2.2.2.2.2.2.1, (x (a + 8) (by omega)).1.trans s.2.2.2.2.2.2.2.2.2.2.2.2.2.2.2.2⟩
theorem ShLen.pt {g g1 : aG} {a c k : Nat} {b : Option Nat} (s : ShLen g a) (x : Pt1 c k b g g1) (h : a ≠ c) : ShLen g1 a := ⟨(x.2.1 a).trans s.1, (x.2.2.1 a _ (fun q => h q.1)).trans s.2.1, (x.2.1 (a + 1)).trans s.2.2.1, (x.2.2.1 a _ (fun q => h q.1)).trans s.2.2.2.1, (x.2.1 (a + 2)).trans s.2.2.2.2.1, (x.2.2.1 a _ (fun q => h q.1)).trans s.2.2.2.2.2.1, (x.2.1 (a + 3)).trans s.2.2.2.2.2.2.1, (x.2.2.1 a _ (fun q => h q.1)).trans s.2.2.2.2.2.2.2.1, (x.2.1 (a + 4)).trans s.2.2.2.2.2.2.2.2.1, (x.2.2.1 a _ (fun q => h q.1)).trans s.2.2.2.2.2.2.2.2.2.1, (x.2.1 (a + 5)).trans s.2.2.2.2.2.2.2.2.2.2.1, (x.2.2.1 a _ (fun q => h q.1)).trans s.2.2.2.2.2.2.2.2.2.2.2.1, (x.2.1 (a + 6)).trans s.2.2.2.2.2.2.2.2.2.2.2.2.1, (x.2.2.1 a _ (fun q => h q.1)).trans s.2.2.2.2.2.2.2.2.2.2.2.2.2.1, (x.2.1 (a + 7)).trans s.2.2.2.2.2.2.2.2.2.2.2.2.2.2.1, (x.2.2.1 a _ (fun q => h q.1)).trans s.2.2.2.2.2.2.2.2.2.2.2.2.2.2.2.1, (x.2.1 (a + 8)).trans s.2.2.2.2.2.2.2.2.2.2.2.2.2.2.2.2⟩
theorem ShBox.bl {g g1 : aG} {a z : Nat} (s : ShBox g a) (x : Bl z g g1) (hb : a + 7 < z) : ShBox g1 a := ⟨(x a (by omega)).1.trans s.1, ((x a (by omega)).2 _).trans s.2.1, (x (a + 1) (by omega)).1.trans s.2.2.1, ((x a (by omega)).2 _).trans s.2.2.2.1, (x (a + 2) (by omega)).1.trans s.2.2.2.2.1, ((x a (by omega)).2 _).trans s.2.2.2.2.2.1, (x (a + 3) (by omega)).1.trans s.2.2.2.2.2.2.1, ((x a (by omega)).2 _).trans s.2.2.2.2.2.2.2.1, (x (a + 4) (by omega)).1.trans s.2.2.2.2.2.2.2.2.1, ((x a (by omega)).2 _).trans s.2.2.2.2.2.2.2.2.2.1, (x (a + 5) (by omega)).1.trans s.2.2.2.2.2.2.2.2.2.2.1, ((x a (by omega)).2 _).trans s.2.2.2.2.2.2.2.2.2.2.2.1, (x (a + 6) (by omega)).1.trans s.2.2.2.2.2.2.2.2.2.2.2.2.1, ((x a (by omega)).2 _).trans s.2.2.2.2.2.2.2.2.2.2.2.2.2.1, (x (a + 7) (by omega)).1.trans s.2.2.2.2.2.2.2.2.2.2.2.2.2.2⟩
theorem ShBox.pt {g g1 : aG} {a c k : Nat} {b : Option Nat} (s : ShBox g a) (x : Pt1 c k b g g1) (h : a ≠ c) : ShBox g1 a := ⟨(x.2.1 a).trans s.1, (x.2.2.1 a _ (fun q => h q.1)).trans s.2.1, (x.2.1 (a + 1)).trans s.2.2.1, (x.2.2.1 a _ (fun q => h q.1)).trans s.2.2.2.1, (x.2.1 (a + 2)).trans s.2.2.2.2.1, (x.2.2.1 a _ (fun q => h q.1)).trans s.2.2.2.2.2.1, (x.2.1 (a + 3)).trans s.2.2.2.2.2.2.1, (x.2.2.1 a _ (fun q => h q.1)).trans s.2.2.2.2.2.2.2.1, (x.2.1 (a + 4)).trans s.2.2.2.2.2.2.2.2.1, (x.2.2.1 a _ (fun q => h q.1)).trans s.2.2.2.2.2.2.2.2.2.1, (x.2.1 (a + 5)).trans s.2.2.2.2.2.2.2.2.2.2.1, (x.2.2.1 a _ (fun q => h q.1)).trans s.2.2.2.2.2.2.2.2.2.2.2.1, (x.2.1 (a + 6)).trans s.2.2.2.2.2.2.2.2.2.2.2.2.1, (x.2.2.1 a _ (fun q => h q.1)).trans s.2.2.2.2.2.2.2.2.2.2.2.2.2.1, (x.2.1 (a + 7)).trans s.2.2.2.2.2.2.2.2.2.2.2.2.2.2⟩
theorem ShLik.bl {g g1 : aG} {a z : Nat} (s : ShLik g a) (x : Bl z g g1) (hb : a + 2 < z) : ShLik g1 a := ⟨(x a (by omega)).1.trans s.1, ((x a (by omega)).2 _).trans s.2.1, (x (a + 1) (by omega)).1.trans s.2.2.1, ((x a (by omega)).2 _).trans s.2.2.2.1, (x (a + 2) (by omega)).1.trans s.2.2.2.2⟩
theorem ShLik.pt {g g1 : aG} {a c k : Nat} {b : Option Nat} (s : ShLik g a) (x : Pt1 c k b g g1) (h : a ≠ c) : ShLik g1 a := ⟨(x.2.1 a).trans s.1, (x.2.2.1 a _ (fun q => h q.1)).trans s.2.1, (x.2.1 (a + 1)).trans s.2.2.1, (x.2.2.1 a _ (fun q => h q.1)).trans s.2.2.2.1, (x.2.1 (a + 2)).trans s.2.2.2.2⟩
theorem ShPla.bl {g g1 : aG} {a z : Nat} (s : ShPla g a) (x : Bl z g g1) (hb : a + 5 < z) : ShPla g1 a := ⟨(x a (by omega)).1.trans s.1, ((x a (by omega)).2 _).trans s.2.1, (x (a + 1) (by omega)).1.trans s.2.2.1, ((x a (by omega)).2 _).trans s.2.2.2.1, (x (a + 2) (by omega)).1.trans s.2.2.2.2.1, ((x a (by omega)).2 _).trans s.2.2.2.2.2.1, (x (a + 3) (by omega)).1.trans s.2.2.2.2.2.2.1, ((x a (by omega)).2 _).trans s.2.2.2.2.2.2.2.1, (x (a + 4) (by omega)).1.trans s.2.2.2.2.2.2.2.2.1, ((x a (by omega)).2 _).trans s.2.2.2.2.2.2.2.2.2.1, (x (a + 5) (by omega)).1.trans s.2.2.2.2.2.2.2.2.2.2⟩
theorem ShPla.pt {g g1 : aG} {a c k : Nat} {b : Option Nat} (s : ShPla g a) (x : Pt1 c k b g g1) (h : a ≠ c) : ShPla g1 a := ⟨(x.2.1 a).trans s.1, (x.2.2.1 a _ (fun q => h q.1)).trans s.2.1, (x.2.1 (a + 1)).trans s.2.2.1, (x.2.2.1 a _ (fun q => h q.1)).trans s.2.2.2.1, (x.2.1 (a + 2)).trans s.2.2.2.2.1, (x.2.2.1 a _ (fun q => h q.1)).trans s.2.2.2.2.2.1, (x.2.1 (a + 3)).trans s.2.2.2.2.2.2.1, (x.2.2.1 a _ (fun q => h q.1)).trans s.2.2.2.2.2.2.2.1, (x.2.1 (a + 4)).trans s.2.2.2.2.2.2.2.2.1, (x.2.2.1 a _ (fun q => h q.1)).trans s.2.2.2.2.2.2.2.2.2.1, (x.2.1 (a + 5)).trans s.2.2.2.2.2.2.2.2.2.2⟩
theorem ShWay.bl {g g1 : aG} {a z : Nat} (s : ShWay g a) (x : Bl z g g1) (hb : a + 6 < z) : ShWay g1 a := ⟨(x a (by omega)).1.trans s.1, ((x a (by omega)).2 _).trans s.2.1, (x (a + 1) (by omega)).1.trans s.2.2.1, ((x a (by omega)).2 _).trans s.2.2.2.1, (x (a + 2) (by omega)).1.trans s.2.2.2.2.1, ((x a (by omega)).2 _).trans s.2.2.2.2.2.1, (x (a + 3) (by omega)).1.trans s.2.2.2.2.2.2.1, ((x a (by omega)).2 _).trans s.2.2.2.2.2.2.2.1, (x (a + 4) (by omega)).1.trans s.2.2.2.2.2.2.2.2.1, ((x a (by omega)).2 _).trans s.2.2.2.2.2.2.2.2.2.1, (x (a + 5) (by omega)).1.trans s.2.2.2.2.2.2.2.2.2.2.1, ((x a (by omega)).2 _).trans s.2.2.2.2.2.2.2.2.2.2.2.1, (x (a + 6) (by omega)).1.trans s.2.2.2.2.2.2.2.2.2.2.2.2.1, ((x a (by omega)).2 _).trans s.2.2.2.2.2.2.2.2.2.2.2.2.2⟩
theorem ShWay.pt {g g1 : aG} {a c k : Nat} {b : Option Nat} (s : ShWay g a) (x : Pt1 c k b g g1) (h : a ≠ c) : ShWay g1 a := ⟨(x.2.1 a).trans s.1, (x.2.2.1 a _ (fun q => h q.1)).trans s.2.1, (x.2.1 (a + 1)).trans s.2.2.1, (x.2.2.1 a _ (fun q => h q.1)).trans s.2.2.2.1, (x.2.1 (a + 2)).trans s.2.2.2.2.1, (x.2.2.1 a _ (fun q => h q.1)).trans s.2.2.2.2.2.1, (x.2.1 (a + 3)).trans s.2.2.2.2.2.2.1, (x.2.2.1 a _ (fun q => h q.1)).trans s.2.2.2.2.2.2.2.1, (x.2.1 (a + 4)).trans s.2.2.2.2.2.2.2.2.1, (x.2.2.1 a _ (fun q => h q.1)).trans s.2.2.2.2.2.2.2.2.2.1, (x.2.1 (a + 5)).trans s.2.2.2.2.2.2.2.2.2.2.1, (x.2.2.1 a _ (fun q => h q.1)).trans s.2.2.2.2.2.2.2.2.2.2.2.1, (x.2.1 (a + 6)).trans s.2.2.2.2.2.2.2.2.2.2.2.2.1, (x.2.2.1 a _ (fun q => h q.1)).trans s.2.2.2.2.2.2.2.2.2.2.2.2.2⟩
theorem ShRow.bl {g g1 : aG} {a z : Nat} (s : ShRow g a) (x : Bl z g g1) (hb : a + 4 < z) : ShRow g1 a := ⟨(x a (by omega)).1.trans s.1, ((x a (by omega)).2 _).trans s.2.1, (x (a + 1) (by omega)).1.trans s.2.2.1, ((x a (by omega)).2 _).trans s.2.2.2.1, (x (a + 2) (by omega)).1.trans s.2.2.2.2.1, ((x a (by omega)).2 _).trans s.2.2.2.2.2.1, (x (a + 3) (by omega)).1.trans s.2.2.2.2.2.2.1, ((x a (by omega)).2 _).trans s.2.2.2.2.2.2.2.1, (x (a + 4) (by omega)).1.trans s.2.2.2.2.2.2.2.2⟩
theorem ShRow.pt {g g1 : aG} {a c k : Nat} {b : Option Nat} (s : ShRow g a) (x : Pt1 c k b g g1) (h : a ≠ c) : ShRow g1 a := ⟨(x.2.1 a).trans s.1, (x.2.2.1 a _ (fun q => h q.1)).trans s.2.1, (x.2.1 (a + 1)).trans s.2.2.1, (x.2.2.1 a _ (fun q => h q.1)).trans s.2.2.2.1, (x.2.1 (a + 2)).trans s.2.2.2.2.1, (x.2.2.1 a _ (fun q => h q.1)).trans s.2.2.2.2.2.1, (x.2.1 (a + 3)).trans s.2.2.2.2.2.2.1, (x.2.2.1 a _ (fun q => h q.1)).trans s.2.2.2.2.2.2.2.1, (x.2.1 (a + 4)).trans s.2.2.2.2.2.2.2.2⟩
theorem ShTab.bl {g g1 : aG} {a z : Nat} (s : ShTab g a) (x : Bl z g g1) (hb : a + 4 < z) : ShTab g1 a := ⟨(x a (by omega)).1.trans s.1, ((x a (by omega)).2 _).trans s.2.1, (x (a + 1) (by omega)).1.trans s.2.2.1, ((x a (by omega)).2 _).trans s.2.2.2.1, (x (a + 2) (by omega)).1.trans s.2.2.2.2.1, ((x a (by omega)).2 _).trans s.2.2.2.2.2.1, (x (a + 3) (by omega)).1.trans s.2.2.2.2.2.2.1, ((x a (by omega)).2 _).trans s.2.2.2.2.2.2.2.1, (x (a + 4) (by omega)).1.trans s.2.2.2.2.2.2.2.2⟩
theorem ShTab.pt {g g1 : aG} {a c k : Nat} {b : Option Nat} (s : ShTab g a) (x : Pt1 c k b g g1) (h : a ≠ c) : ShTab g1 a := ⟨(x.2.1 a).trans s.1, (x.2.2.1 a _ (fun q => h q.1)).trans s.2.1, (x.2.1 (a + 1)).trans s.2.2.1, (x.2.2.1 a _ (fun q => h q.1)).trans s.2.2.2.1, (x.2.1 (a + 2)).trans s.2.2.2.2.1, (x.2.2.1 a _ (fun q => h q.1)).trans s.2.2.2.2.2.1, (x.2.1 (a + 3)).trans s.2.2.2.2.2.2.1, (x.2.2.1 a _ (fun q => h q.1)).trans s.2.2.2.2.2.2.2.1, (x.2.1 (a + 4)).trans s.2.2.2.2.2.2.2.2⟩
section
variable {K : aK} {M M' : aMI} {d bc bs pc bc' bs' : Nat} {L S av rest : List Value} {g : aG} {m m' : aM} {Q : aQ} {R : aG → Prop}
theorem g_ciG {index a : Nat} (hd : decode M.2.1 pc = .ok (.invokespecial index, 3)) {nn : Nat} (hl : a_li M.1 index M' nn) (sp : SpR K M' (d - 1) bc' bs' (.ref a :: av) (g, m) (fun v h' => ∃ g', v = none ∧ h' = (g', m') ∧ R g')) (hn : av.length = nn) (hS : S = av.reverse ++ .ref a :: rest) (hc : (rest.map fun v => v.category).sum ≤ 8) (hav : ∀ v ∈ av, v.category = 1) (h1 : 1 ≤ d) (hbc : bc' ≤ bc) (hbs : bs' ≤ bs)
    (k : ∀ g', R g' → G K M d (bc - bc') (bs - bs') (pc + 3) L rest (g', m') Q) : G K M d bc bs pc L S (g, m) Q := by
  subst hn
  obtain ⟨d, rfl⟩ : ∃ e, d = e + 1 := ⟨d - 1, by omega⟩
  refine g_invi hd hl hS hc hav hbc hbs (sp _ (fun v h' p => ?_))
  obtain ⟨g', rfl, rfl, r⟩ := p
  exact k g' r
theorem g_cinG {index a : Nat} {host : String} (hd : decode M.2.1 pc = .ok (.invokespecial index, 3)) (hn1 : Cond.methodLinkNest M.1 index M'.2.2.2.2.1 host ∈ a_N) (hin : Cond.instanceMethod M'.2.2.2.2.1 ∈ a_w0) (l8 : M'.2.2.2.2.1.name = "<init>") (l9 : M'.2.2.2.1 = none) {nn : Nat} (hl : a_cm M' nn) (sp : SpR K M' (d - 1) bc' bs' (.ref a :: av) (g, m) (fun v h' => ∃ g', v = none ∧ h' = (g', m') ∧ R g')) (hn : av.length = nn) (hS : S = av.reverse ++ .ref a :: rest) (hc : (rest.map fun v => v.category).sum ≤ 8) (hav : ∀ v ∈ av, v.category = 1) (h1 : 1 ≤ d) (hbc : bc' ≤ bc) (hbs : bs' ≤ bs)
    (k : ∀ g', R g' → G K M d (bc - bc') (bs - bs') (pc + 3) L rest (g', m') Q) : G K M d bc bs pc L S (g, m) Q := by
  subst hn
  obtain ⟨d, rfl⟩ : ∃ e, d = e + 1 := ⟨d - 1, by omega⟩
  refine g_invin hd hn1 hin l8 l9 hl hS hc hav hbc hbs (sp _ (fun v h' p => ?_))
  obtain ⟨g', rfl, rfl, r⟩ := p
  exact k g' r
theorem co_nq {z index N : Nat} {n : Int32} (hz : g.1 = z) (hd : decode M.2.1 pc = .ok (.anewarray index, 3)) (hl : Cond.classLink M.1 index R_Row ∈ a_w0) (hn : ¬ n < 0) (hN : n.toNatClampNeg = N) (hB : N ≤ 60000000) (hc : 1 ≤ bc) (hs : N ≤ bs) (k' : ∀ g1 : aG, g1.1 = z + 1 → Bl z g g1 → g1.2.1 z = (6, N) → (∀ k, g1.2.2.1 z k = none) → G K M d (bc - 1) (bs - N) (pc + 3) L (.ref z :: S) (g1, a_zr m z) Q) : G K M d bc bs pc L (.int n :: S) (g, m) Q := by
  subst hz
  refine g_newq hd hl hn hN hB hc hs ?_
  exact k' (h_n (g, m) (6, N)).1 rfl (fun b hb => ⟨by simp [h_n, Nat.ne_of_lt hb], fun k => by simp [h_n, Nat.ne_of_lt hb]⟩) (by simp [h_n]) (fun k => by simp [h_n])
theorem co_aa {a n b nb j : Nat} {i : Int32} (hd : decode M.2.1 pc = .ok (.aastore, 1)) (ha : g.2.1 a = (6, n)) (hb : g.2.1 b = (16, nb)) (hi : vp_in i n) (hj : i.toNatClampNeg = j) (k' : ∀ g1 : aG, Pt1 a j (some b) g g1 → G K M d bc bs (pc + 1) L S (g1, m) Q) : G K M d bc bs pc L (.ref b :: .int i :: .ref a :: S) (g, m) Q := by
  subst hj
  refine g_aast hd ha hb hi ?_
  exact k' (h_r (g, m) a i.toNatClampNeg (some b)).1 ⟨rfl, fun c => rfl, fun c j hc => by simp [a_sr, hc], by simp [a_sr]⟩
end
theorem Bl.ptb {z a k : Nat} {b : Option Nat} {g g1 g2 : aG} (h : Bl z g g1) (p : Pt1 a k b g1 g2) (l : z ≤ a) : Bl z g g2 := h.pt p l
theorem s_Rea_initG {K : aK} {d bc bs : Nat} {g : aG} (a0 : Nat) (hk : g.2.1 a0 = (10 + 5, 8)) (b1 b2 : Nat) (m : aM) (hd : 1 ≤ d) : SpR K M_Rea_init d bc bs [.ref a0, .ref b1, .ref b2] (g, m) (fun v h' => ∃ g', v = none ∧ h' = (g', m) ∧ (g'.1 = g.1 ∧ (∀ c, g'.2.1 c = g.2.1 c) ∧ (∀ c j, c ≠ a0 → g'.2.2.1 c j = g.2.2.1 c j) ∧ g'.2.2.1 a0 0 = some b1 ∧ g'.2.2.1 a0 5 = some b2)) := by
  refine spr_of ok_Rea_init rfl (Nat.le_of_ble_eq_true rfl) (by simp [Value.category]) (fun Q hq => ?_)
  refine g_aload_n k_Rea_init_0 rfl rfl ?_
  refine g_ob k_Rea_init_1 ob_Rea_3 (Nat.le_of_ble_eq_true rfl) (by omega) ?_
  refine g_aload_n k_Rea_init_4 rfl rfl ?_
  refine g_aload_n k_Rea_init_5 rfl rfl ?_
  refine co_pr k_Rea_init_6 fl_Rea_9 rfl ⟨R_Rea, F_Rea, 8, rfl, Or.inr ⟨rfl, rfl, rfl⟩⟩ hk (by decide) (fun g1 x => ?_)
  refine g_aload_n k_Rea_init_9 rfl rfl ?_
  refine g_aload_n k_Rea_init_10 rfl rfl ?_
  refine co_pr k_Rea_init_11 fl_Rea_15 rfl ⟨R_Rea, F_Rea, 8, rfl, Or.inr ⟨rfl, rfl, rfl⟩⟩ ((x.2.1 _).trans hk) (by decide) (fun g2 y => ?_)
  refine g_vret k_Rea_init_14 rfl ?_
  exact hq none (g2, m) ⟨g2, rfl, rfl, y.1.trans x.1, fun c => (y.2.1 c).trans (x.2.1 c), fun c j h => (y.2.2.1 c j (fun q => h q.1)).trans (x.2.2.1 c j (fun q => h q.1)), (y.2.2.1 _ _ (fun q => absurd q.2 (by decide))).trans x.2.2.2, y.2.2.2⟩
def f_Tab_rows (a0 : Nat) : Nat → Nat → aM → Option (Int32 × aM)
  | 0, _, m => some (0, m)
  | n + 1, k, m => o_let (a_zr m (a0 + 5 + 5 * k)) fun m1 => o_b2 (f_Row_init (a0 + 5 + 5 * k) m1) fun _ m2 => f_Tab_rows a0 n (k + 1) m2
def TbR (a0 b1 b2 : Nat) (g0 g : aG) (k : Nat) : Prop := g.1 = a0 + 5 + 5 * k ∧ Bl a0 g0 g ∧ ShTab g a0 ∧ g.2.2.1 a0 0 = some b1 ∧ g.2.2.1 a0 1 = some b2 ∧ ∀ j, j < k → ShRow g (a0 + 5 + 5 * j) ∧ g.2.2.1 (a0 + 1) j = some (a0 + 5 + 5 * j)
theorem t_Tab_rows {K : aK} {d a0 b1 b2 : Nat} {g0 : aG} {m' : aM} {w0 : Int32} {Q : aQ} (hd : 2 ≤ d) (hq : ∀ g', TbR a0 b1 b2 g0 g' 40 → Q (.inl none) (g', a_st m' a0 10 10)) : ∀ (n k bc bs : Nat) (g : aG) (m : aM), k + n = 40 → TbR a0 b1 b2 g0 g k → f_Tab_rows a0 n k m = some (w0, m') → 5 * n ≤ bc → 22 * n ≤ bs → G K M_Tab_init d bc bs 46 [.ref a0, .ref b1, .ref b2, .int (nI k)] [] (g, m) Q
  | 0, k, bc, bs, g, m, hk, h, e, hc, hs => by
    obtain rfl : k = 40 := by omega
    refine g_iload_n k_Tab_init_46 rfl rfl ?_
    refine g_bipush (v := 40) k_Tab_init_47 rfl ?_
    refine g_icmp_ge (tgt := 71) k_Tab_init_49 (by decide) (fun c => ?_) (fun c => absurd (show (40 : Int32) ≤ nI 40 by decide) c)
    refine g_aload_n k_Tab_init_71 rfl rfl ?_
    refine g_bipush (v := 10) k_Tab_init_72 rfl ?_
    refine p_puti k_Tab_init_74 fl_Tab_36 rfl ⟨R_Tab, F_Tab, 11, rfl, Or.inl rfl⟩ (sk_Tab h.2.2.1) (by decide) ?_
    refine g_vret k_Tab_init_77 rfl ?_
    have em : m = m' := by
      have := Option.some.inj e
      exact congrArg Prod.snd this
    rw [em]
    exact hq g h
  | n + 1, k, bc, bs, g, m, hk, ⟨hz, hB, sT, r0, r1, rw⟩, e, hc, hs => by
    obtain ⟨m1, u1, e⟩ := o_let_ex e
    obtain ⟨y, m2, e2, e⟩ := o_b2_ex e
    have k40 : k < 40 := by omega
    refine g_iload_n k_Tab_init_46 rfl rfl ?_
    refine g_bipush (v := 40) k_Tab_init_47 rfl ?_
    refine g_icmp_ge (tgt := 71) k_Tab_init_49 (by decide) (fun c => absurd c (show ¬ (40 : Int32) ≤ nI k from nI_ge (b := 40) k40 (by decide))) (fun c => ?_)
    refine g_aload_n k_Tab_init_52 rfl rfl ?_
    refine p_getr k_Tab_init_53 fl_Tab_11 rfl (sk_Tab sT) (by decide) (sr_Tab_2 sT) ?_
    refine g_iload_n k_Tab_init_56 rfl rfl ?_
    refine co_no hz k_Tab_init_57 nl_Tab_9 (by decide +kernel) (by omega) (by omega) (fun g1 z1 x1 h1 n1 => ?_)
    refine G.hm u1 ?_
    refine g_dup k_Tab_init_60 rfl ?_
    refine g_ciG (bc' := 4) (bs' := 14) k_Tab_init_61 li_Tab_35 (s_Row_init (a0 + 5 + 5 * k) z1 h1 m1 e2 (by omega) (by omega) (by omega)) rfl rfl (Nat.le_of_ble_eq_true rfl) (by simp [Value.category]) (by omega) (by omega) (by omega) (fun g2 r2 => ?_)
    obtain ⟨z2, x2, sR⟩ := r2
    have b2' : Bl a0 g0 g2 := (hB.tr x1 (by omega)).tr x2 (by omega)
    have sT2 := (sT.bl x1 (by omega)).bl x2 (by omega)
    refine co_aa (j := k) k_Tab_init_64 (sa_Tab_2 sT2) (sk_Row sR) (inb_in (inb_nI k40 (by decide))) (nI_clamp (by omega)) (fun g3 x3 => ?_)
    refine g_iinc (v := nI (k + 1)) k_Tab_init_65 rfl (nIx k) (by decide) ?_
    refine g_goto (tgt := 46) k_Tab_init_68 (by decide) ?_
    refine t_Tab_rows hd hq n (k + 1) _ _ g3 m2 (by omega) ⟨by rw [x3.1, z2]; omega, b2'.pt x3 (by omega), sT2.pt x3 (by omega), (x3.2.2.1 _ _ (by omega)).trans (((x2 _ (by omega)).2 _).trans (((x1 _ (by omega)).2 _).trans r0)), (x3.2.2.1 _ _ (by omega)).trans (((x2 _ (by omega)).2 _).trans (((x1 _ (by omega)).2 _).trans r1)), fun j hj => ?_⟩ e (by omega) (by omega)
    by_cases q : j = k
    · rw [q]
      exact ⟨sR.pt x3 (by omega), x3.2.2.2⟩
    · exact ⟨(((rw j (by omega)).1.bl x1 (by omega)).bl x2 (by omega)).pt x3 (by omega), (x3.2.2.1 _ _ (by omega)).trans (((x2 _ (by omega)).2 _).trans (((x1 _ (by omega)).2 _).trans (rw j (by omega)).2))⟩
def f_Tab_init (a0 : Nat) (m : aM) : Option (Int32 × aM) :=
  o_let (a_zr m (a0 + 1)) fun m1 =>
  o_let (a_zr m1 (a0 + 2)) fun m2 =>
  o_let (a_zr m2 (a0 + 3)) fun m3 =>
  o_let (a_zr m3 (a0 + 4)) fun m4 =>
  o_b2 (f_Tab_rows a0 40 0 m4) fun _ m' =>
  some (0, a_st m' a0 10 10)
theorem s_Tab_init {K : aK} {d bc bs : Nat} {g : aG} (a0 : Nat) (hz : g.1 = a0 + 1) (hk : g.2.1 a0 = (10 + 7, 11)) (b1 b2 : Nat) (m : aM) {m' : aM} {w0 : Int32} (e : f_Tab_init a0 m = some (w0, m')) (hd : 2 ≤ d) (hc : 204 ≤ bc) (hs : 932 ≤ bs) : SpR K M_Tab_init d bc bs [.ref a0, .ref b1, .ref b2] (g, m) (fun v h' => ∃ g', v = none ∧ h' = (g', m') ∧ TbR a0 b1 b2 g g' 40) := by
  refine spr_of ok_Tab_init rfl (Nat.le_of_ble_eq_true rfl) (by simp [Value.category]) (fun Q hq => ?_)
  unfold f_Tab_init at e
  have hB : Bl a0 g g := Bl.rf
  refine g_aload_n k_Tab_init_0 rfl rfl ?_
  refine g_ob k_Tab_init_1 ob_Tab_3 (Nat.le_of_ble_eq_true rfl) (by omega) ?_
  refine g_aload_n k_Tab_init_4 rfl rfl ?_
  refine g_bipush (v := 40) k_Tab_init_5 rfl ?_
  refine co_nq (N := 40) hz k_Tab_init_7 qr_Tab (by decide) (by decide) (by decide) (by omega) (by omega) (fun g hz x hA hN => ?_)
  have hk := (x _ (by omega)).1.trans hk
  have hB := hB.tr x (by omega)
  have ka1 := hA
  obtain ⟨m1, u_m1, e⟩ := o_let_ex e
  refine G.hm u_m1 ?_
  refine co_pr k_Tab_init_10 fl_Tab_11 rfl ⟨R_Tab, F_Tab, 11, rfl, Or.inr ⟨rfl, rfl, rfl⟩⟩ hk (by decide) (fun g x => ?_)
  have hk := (x.2.1 _).trans hk
  have ka1 := (x.2.1 _).trans ka1
  have hB := hB.pt x (by omega)
  have hz := x.1.trans hz
  have r2 := x.2.2.2
  refine g_aload_n k_Tab_init_13 rfl rfl ?_
  refine g_iconst (v := 4) k_Tab_init_14 rfl ?_
  refine co_na (t := 0) (N := 4) hz k_Tab_init_15 rfl (by decide) ac_int (by decide) (by decide) (by decide) (by omega) (by omega) (fun g hz x hA hN => ?_)
  have hk := (x _ (by omega)).1.trans hk
  have ka1 := (x _ (by omega)).1.trans ka1
  have r2 := ((x _ (by omega)).2 _).trans r2
  have hB := hB.tr x (by omega)
  have ka2 := hA
  obtain ⟨m2, u_m2, e⟩ := o_let_ex e
  refine G.hm u_m2 ?_
  refine co_pr k_Tab_init_17 fl_Tab_17 rfl ⟨R_Tab, F_Tab, 11, rfl, Or.inr ⟨rfl, rfl, rfl⟩⟩ hk (by decide) (fun g x => ?_)
  have hk := (x.2.1 _).trans hk
  have ka1 := (x.2.1 _).trans ka1
  have r2 := (x.2.2.1 _ _ (by omega)).trans r2
  have ka2 := (x.2.1 _).trans ka2
  have hB := hB.pt x (by omega)
  have hz := x.1.trans hz
  have r3 := x.2.2.2
  refine g_aload_n k_Tab_init_20 rfl rfl ?_
  refine g_iconst (v := 4) k_Tab_init_21 rfl ?_
  refine co_na (t := 0) (N := 4) hz k_Tab_init_22 rfl (by decide) ac_int (by decide) (by decide) (by decide) (by omega) (by omega) (fun g hz x hA hN => ?_)
  have hk := (x _ (by omega)).1.trans hk
  have ka1 := (x _ (by omega)).1.trans ka1
  have r2 := ((x _ (by omega)).2 _).trans r2
  have ka2 := (x _ (by omega)).1.trans ka2
  have r3 := ((x _ (by omega)).2 _).trans r3
  have hB := hB.tr x (by omega)
  have ka3 := hA
  obtain ⟨m3, u_m3, e⟩ := o_let_ex e
  refine G.hm u_m3 ?_
  refine co_pr k_Tab_init_24 fl_Tab_21 rfl ⟨R_Tab, F_Tab, 11, rfl, Or.inr ⟨rfl, rfl, rfl⟩⟩ hk (by decide) (fun g x => ?_)
  have hk := (x.2.1 _).trans hk
  have ka1 := (x.2.1 _).trans ka1
  have r2 := (x.2.2.1 _ _ (by omega)).trans r2
  have ka2 := (x.2.1 _).trans ka2
  have r3 := (x.2.2.1 _ _ (by omega)).trans r3
  have ka3 := (x.2.1 _).trans ka3
  have hB := hB.pt x (by omega)
  have hz := x.1.trans hz
  have r4 := x.2.2.2
  refine g_aload_n k_Tab_init_27 rfl rfl ?_
  refine g_iconst (v := 4) k_Tab_init_28 rfl ?_
  refine co_na (t := 0) (N := 4) hz k_Tab_init_29 rfl (by decide) ac_int (by decide) (by decide) (by decide) (by omega) (by omega) (fun g hz x hA hN => ?_)
  have hk := (x _ (by omega)).1.trans hk
  have ka1 := (x _ (by omega)).1.trans ka1
  have r2 := ((x _ (by omega)).2 _).trans r2
  have ka2 := (x _ (by omega)).1.trans ka2
  have r3 := ((x _ (by omega)).2 _).trans r3
  have ka3 := (x _ (by omega)).1.trans ka3
  have r4 := ((x _ (by omega)).2 _).trans r4
  have hB := hB.tr x (by omega)
  have ka4 := hA
  obtain ⟨m4, u_m4, e⟩ := o_let_ex e
  refine G.hm u_m4 ?_
  refine co_pr k_Tab_init_31 fl_Tab_24 rfl ⟨R_Tab, F_Tab, 11, rfl, Or.inr ⟨rfl, rfl, rfl⟩⟩ hk (by decide) (fun g x => ?_)
  have hk := (x.2.1 _).trans hk
  have ka1 := (x.2.1 _).trans ka1
  have r2 := (x.2.2.1 _ _ (by omega)).trans r2
  have ka2 := (x.2.1 _).trans ka2
  have r3 := (x.2.2.1 _ _ (by omega)).trans r3
  have ka3 := (x.2.1 _).trans ka3
  have r4 := (x.2.2.1 _ _ (by omega)).trans r4
  have ka4 := (x.2.1 _).trans ka4
  have hB := hB.pt x (by omega)
  have hz := x.1.trans hz
  have r5 := x.2.2.2
  refine g_aload_n k_Tab_init_34 rfl rfl ?_
  refine g_aload_n k_Tab_init_35 rfl rfl ?_
  refine co_pr k_Tab_init_36 fl_Tab_27 rfl ⟨R_Tab, F_Tab, 11, rfl, Or.inr ⟨rfl, rfl, rfl⟩⟩ hk (by decide) (fun g x => ?_)
  have hk := (x.2.1 _).trans hk
  have ka1 := (x.2.1 _).trans ka1
  have r2 := (x.2.2.1 _ _ (by omega)).trans r2
  have ka2 := (x.2.1 _).trans ka2
  have r3 := (x.2.2.1 _ _ (by omega)).trans r3
  have ka3 := (x.2.1 _).trans ka3
  have r4 := (x.2.2.1 _ _ (by omega)).trans r4
  have ka4 := (x.2.1 _).trans ka4
  have r5 := (x.2.2.1 _ _ (by omega)).trans r5
  have hB := hB.pt x (by omega)
  have hz := x.1.trans hz
  have r0 := x.2.2.2
  refine g_aload_n k_Tab_init_39 rfl rfl ?_
  refine g_aload_n k_Tab_init_40 rfl rfl ?_
  refine co_pr k_Tab_init_41 fl_Tab_31 rfl ⟨R_Tab, F_Tab, 11, rfl, Or.inr ⟨rfl, rfl, rfl⟩⟩ hk (by decide) (fun g x => ?_)
  have hk := (x.2.1 _).trans hk
  have ka1 := (x.2.1 _).trans ka1
  have r2 := (x.2.2.1 _ _ (by omega)).trans r2
  have ka2 := (x.2.1 _).trans ka2
  have r3 := (x.2.2.1 _ _ (by omega)).trans r3
  have ka3 := (x.2.1 _).trans ka3
  have r4 := (x.2.2.1 _ _ (by omega)).trans r4
  have ka4 := (x.2.1 _).trans ka4
  have r5 := (x.2.2.1 _ _ (by omega)).trans r5
  have r0 := (x.2.2.1 _ _ (by omega)).trans r0
  have hB := hB.pt x (by omega)
  have hz := x.1.trans hz
  have r1 := x.2.2.2
  have s0 : ShTab _ a0 := ⟨hk, r2, ka1, r3, ka2, r4, ka3, r5, ka4⟩
  obtain ⟨y, m7, e7, e⟩ := o_b2_ex e
  refine g_iconst (v := 0) k_Tab_init_44 rfl ?_
  refine g_istore_n k_Tab_init_45 rfl (by decide) ?_
  refine t_Tab_rows (m' := m7) hd (fun g' h => ?_) 40 0 _ _ _ _ (by omega) ⟨by omega, hB, s0, r0, r1, fun j hj => by omega⟩ e7 (by omega) (by omega)
  have em : a_st m7 a0 10 10 = m' := congrArg Prod.snd (Option.some.inj e)
  rw [em]
  exact hq none (g', m') ⟨g', rfl, rfl, h⟩
