/-! RULES 4: calls -/
/-- E, thrown at pc over the heap h, is dealt with -/
def GX (K : aK) (M : aMI) (d bc bs pc : Nat) (L : List Value) (h : aH) (E : String) (Q : aQ) : Prop :=
  ∀ (p : Program) (e : Env) (s : State) (m : MethodId) (args : Array Value) (below : List Frame) (meth : Method) (c : Code) (ρ0 : Nat → Nat) (z0 mc ms : Nat), a_cx K M p s m args meth c →
  ∀ (ρ : Nat → Nat) (H : Heap) (locs : List Loc) (cells slots : Nat) (ls : Array Slot), a_R K ρ h H → (∀ a, a < z0 → ρ a = ρ0 a) → z0 ≤ h.1.1 → (∀ v ∈ L, a_sl h.1.1 v) →
    lv_has ls M.2.2.1 (a_pl K ρ 0 L) → va_S (fun q => K.2.2.1 ≤ q) s.heap H locs → cells + bc ≤ mc → slots + bs ≤ ms →
  ∀ (q : Addr) (ce : Cell) (rest : List Value), H[q]? = some ce → ce.vm = .none → s.vm.findClass E = some ce.cls →
    vx_W p K.2.2.2.2.2.2 e (a_rm d mc ms) s m args below meth c H locs cells slots (vx_MQ below (a_Qc K ρ0 z0 Q) (a_XC K ρ0 z0 Q) args s mc ms (fun q => K.2.2.1 ≤ q)) (F0 m pc ls rest) q
theorem tableOf_nil : tableOf [] = [] := rfl
theorem gx_out {K : aK} {M : aMI} {d bc bs pc : Nat} {L : List Value} {h : aH} {E : String} {Q : aQ} (hh : M.2.2.2.2.2 = []) (q : Q (.inr E) h) : GX K M d bc bs pc L h E Q := by
  intro p e s m args below meth c ρ0 z0 mc ms C ρ H locs cells slots ls h1 h2 h3 h4 h6 h7 h8 h9 a ce rest c1 c2 c3
  have htab := C.2.2.2.2.2.2.2.2.1
  rw [hh, tableOf_nil] at htab
  exact vx_out (fun x hx => by rw [htab] at hx; cases hx) C.2.2.2.2.2.2.1 c1 c2 c3 (fun t ht _ => ⟨ρ, h, by rw [ht]; exact h1, h2, h3, h7.F ht, q⟩) h7.2.2 (by omega) (by omega)
def a_nx (K : aK) (M : aMI) (d bc bs pc : Nat) (L rest : List Value) (Q : aQ) : aQ := fun o h1 => match o with
  | .inl v => G K M d bc bs (pc + 3) L (v.toList ++ rest) h1 Q
  | .inr E => GX K M d bc bs pc L h1 E Q
theorem a_after {K : aK} {M : aMI} {d bc bs pc bc' bs' : Nat} {L rest st : List Value} {h : aH} {Q : aQ} {p : Program} {e : Env} {s : State} {m : MethodId} {args arr : Array Value} {below : List Frame} {meth : Method} {c : Code} {ρ0 : Nat → Nat} {z0 mc ms : Nat} (C : a_cx K M p s m args meth c)
    {ρ : Nat → Nat} {H : Heap} {locs : List Loc} {cells slots : Nat} {ls : Array Slot} (h2 : ∀ a, a < z0 → ρ a = ρ0 a) (h3 : z0 ≤ h.1.1) (h4 : ∀ v ∈ L, a_sl h.1.1 v) (h5 : ∀ v ∈ rest, a_sc h.1.1 v)
    (h6 : lv_has ls M.2.2.1 (a_pl K ρ 0 L)) (h7 : va_S (fun q => K.2.2.1 ≤ q) s.heap H locs) (h8 : cells + bc ≤ mc) (h9 : slots + bs ≤ ms) (hbc : bc' ≤ bc) (hbs : bs' ≤ bs)
    (hr : vx_Run p K.2.2.2.2.2.2 e (a_rm d mc ms) s m args below meth c H locs cells slots bc' bs' (F0 m pc ls st) (rest.map (a_tr K ρ)) (a_Qc K ρ h.1.1 (a_nx K M d (bc - bc') (bs - bs') pc L rest Q) arr) (a_XC K ρ h.1.1 (a_nx K M d (bc - bc') (bs - bs') pc L rest Q)) (fun q => K.2.2.1 ≤ q)) :
    W p K.2.2.2.2.2.2 e (a_rm d mc ms) s m args below meth c H locs cells slots (vx_MQ below (a_Qc K ρ0 z0 Q) (a_XC K ρ0 z0 Q) args s mc ms (fun q => K.2.2.1 ≤ q)) (F0 m pc ls st) := by
  intro T hT X
  rcases hr T hT X with ⟨v, st₀, t, T', Lc, h0, X', hL, e1, e2, ⟨v', ρ', h', q1, q2, q3, q4, q5, q6, q7⟩, go⟩ | ⟨q, st₀, t, T', Lc, E, ce, h0, X', hL, e1, e2, ⟨ρ', h', q2, q3, q4, q6, q7⟩, hce, hcv, hcl, go⟩
  · obtain ⟨-, -, k3⟩ := vx_keep h0 e1 h7 (fun q _ z => z) (fun q z => z) hL q6
    have hv : v = v'.map (a_tr K ρ') := by injection q1
    subst hv
    have q7' : G K M d (bc - bc') (bs - bs') (pc + 3) L (v'.toList ++ rest) h' Q := q7
    have := q7' p e s m args below meth c ρ0 z0 mc ms C ρ' T'.heap (locs ++ Lc) (cells + bc') (slots + bs') ls (by rw [e1]; exact q2) (fun a ha => by rw [q3 a (by omega)]; exact h2 a ha) (by omega) (fun v hv => a_sl_mono q4 (h4 v hv)) (fun v hv => by
      rcases List.mem_append.mp hv with hv | hv
      · exact q5 v (by cases v' with | none => cases hv | some x => simp at hv; rw [hv])
      · exact a_sc_mono q4 (h5 v hv)) (a_lvK q3 h4 h6) k3 (by omega) (by omega)
    obtain ⟨t2, a1, b1⟩ := this T' rfl X'
    refine ⟨t2, go t2 ?_, b1⟩
    have ef : (v'.toList ++ rest).map (a_tr K ρ') = (v'.map (a_tr K ρ')).toList ++ rest.map (a_tr K ρ) := by
      rw [List.map_append, a_map_agree q3 h5]
      cases v' <;> rfl
    rw [ef] at a1
    exact a1
  · obtain ⟨-, -, k3⟩ := vx_keep h0 e1 h7 (fun q _ z => z) (fun q z => z) hL q6
    have q7' : GX K M d (bc - bc') (bs - bs') pc L h' E Q := q7
    have := q7' p e s m args below meth c ρ0 z0 mc ms C ρ' T'.heap (locs ++ Lc) (cells + bc') (slots + bs') ls (by rw [e1]; exact q2) (fun a ha => by rw [q3 a (by omega)]; exact h2 a ha) (by omega) (fun v hv => a_sl_mono q4 (h4 v hv)) (a_lvK q3 h4 h6) k3 (by omega) (by omega) q ce (rest.map (a_tr K ρ)) (by rw [e1]; exact hce) hcv hcl
    obtain ⟨t2, a1, b1⟩ := this T' rfl X'
    exact ⟨t2, go.trans a1, b1⟩
/-- a callee's words: static; its own -/
def a_cm (M' : aMI) (n : Nat) : Prop := a_cw M' ∈ a_w0 ∧ M'.2.2.2.2.2 = [] ∧ Cond.initialized M'.2.2.2.2.1.cls ∈ a_w0 ∧ M'.2.2.1 ≤ 40 ∧ (M'.2.2.2.2.1.cls ≠ "java/lang/invoke/MethodHandle" ∧ M'.2.2.2.2.1.cls ≠ "java/lang/invoke/VarHandle" ∧ (parseMethodDescriptor M'.2.2.2.2.1.desc).map (fun d => d.parameters.length) = some n)
def a_ls (own : String) (index : Nat) (M' : aMI) (n : Nat) : Prop := Cond.methodLink own index M'.2.2.2.2.1 ∈ a_w0 ∧ Cond.static M'.2.2.2.2.1 ∈ a_w0 ∧ a_cm M' n
def a_lv (own : String) (index : Nat) (M' : aMI) (n : Nat) : Prop := Cond.methodLink own index M'.2.2.2.2.1 ∈ a_w0 ∧ Cond.instanceMethod M'.2.2.2.2.1 ∈ a_w0 ∧ Cond.selects M'.2.2.2.2.1.cls M'.2.2.2.2.1 M'.2.2.2.2.1 ∈ a_w0 ∧ a_cm M' n
def a_li (own : String) (index : Nat) (M' : aMI) (n : Nat) : Prop := Cond.methodLink own index M'.2.2.2.2.1 ∈ a_w0 ∧ Cond.instanceMethod M'.2.2.2.2.1 ∈ a_w0 ∧ M'.2.2.2.2.1.name = "<init>" ∧ M'.2.2.2.1 = none ∧ a_cm M' n
theorem a_cw_of {M : aMI} (hh : M.2.2.2.2.2 = []) : a_cw M = .code M.2.2.2.2.1 M.2.1 M.2.2.1 M.2.2.2.1 := by unfold a_cw; rw [hh]
theorem a_good {M' : aMI} (hm : a_cw M' ∈ a_w0) : GoodIn a_w0 (a_cw M' :: a_w0) := fun w hw => (List.mem_cons.mp hw).elim (fun e => e ▸ a_w0_good _ hm) (fun h => a_w0_good w h)
theorem a_sl_of {z : Nat} {v : Value} (h : a_sc z v) (hc : v.category = 1) : a_sl z v := by cases v <;> first | trivial | exact h | simp [Value.category] at hc
theorem a_blind {K : aK} {M : aMI} {av : List Value} {ρ : Nat → Nat} {h : aH} : FrameBlind (a_Pc K M av ρ h) := by
  intro a U g mk q
  obtain ⟨q1, q2, q3, q4, q5⟩ := q
  exact ⟨q1, a_VF.moved (s := U) (U := U.calling g mk a) (State.WarmedH.refl U) q2 (Nat.le_refl _) (fun _ _ _ => rfl), q3, q4, q5⟩
theorem a_preS {K : aK} {M M' : aMI} {p : Program} {s : State} {m : MethodId} {args : Array Value} {meth : Method} {c : Code} (C : a_cx K M p s m args meth c) {ρ : Nat → Nat} {h : aH} {H : Heap} {locs : List Loc} (h1 : a_R K ρ h H) (h7 : va_S (fun q => K.2.2.1 ≤ q) s.heap H locs) {av : List Value} (hav : ∀ v ∈ av, a_sl h.1.1 v) (hn : M'.2.2.2.2.1.name ≠ "law") : ∀ U : State, U.heap = H → s.WarmedH U.vm → a_Pc K M' av ρ h (av.map (a_tr K ρ)).toArray U :=
  fun U hU hW => ⟨rfl, by rw [hU]; exact a_VF.moved hW C.2.2.2.2.2.2.2.2.2.1 h7.1 (fun a ha hb => h7.2.1 a ha hb), by rw [hU]; exact h1, hav, hn⟩
section
variable {K : aK} {M M' : aMI} {d bc bs pc bc' bs' : Nat} {L S av rest : List Value} {h : aH} {Q : aQ}
theorem g_invs {index : Nat} (hd : decode M.2.1 pc = .ok (.invokestatic index, 3)) (hl : a_ls M.1 index M' av.length) (hlaw : M'.2.2.2.2.1.name ≠ "law") (hS : S = av.reverse ++ rest) (hc : (rest.map fun v => v.category).sum ≤ 8) (hav : ∀ v ∈ av, v.category = 1) (hbc : bc' ≤ bc) (hbs : bs' ≤ bs)
    (k : Run K M' d bc' bs' av h (a_nx K M (d + 1) (bc - bc') (bs - bs') pc L rest Q)) : G K M (d + 1) bc bs pc L S h Q := by
  intro p e s m args below meth c ρ0 z0 mc ms C ρ H locs cells slots ls h1 h2 h3 h4 h5 h6 h7 h8 h9
  obtain ⟨l1, l2, l3, l4, l5, l6, l7⟩ := hl
  subst hS
  have ht := C.2.2.2.2.2.1
  have hcat : ((rest.map (a_tr K ρ)).map fun v => v.category).sum ≤ 8 := by
    rw [List.map_map, show ((fun v => v.category) ∘ a_tr K ρ) = fun v : Value => v.category from funext fun v => a_tr_cat K ρ v]; exact hc
  refine a_after C h2 h3 h4 (fun v hv => h5 v (List.mem_append_right _ hv)) h6 h7 h8 h9 hbc hbs (arr := (av.map (a_tr K ρ)).toArray) ?_
  exact vx_runS (bytes := M'.2.1) (maxL := M'.2.2.1) (ret := M'.2.2.2.1) (n := av.length) ⟨C.1, C.2.1, C.2.2.1, C.2.2.2.1, ht⟩ (k ρ) ⟨callB_of (ws' := a_w0) av.length ht (a_good l3) (by rw [a_cw_of l4]) rfl rfl (ht _ l5) (ht _ l1) l7 ⟨Nat.le_refl _, by show 8 + (M'.2.2.1 + 11) + 64 * d ≤ 64 * (d + 1); omega⟩, ht _ l2⟩ ⟨a_blind, a_preS C h1 h7 (fun v hv => a_sl_of (h5 v (List.mem_append_left _ (List.mem_reverse.mpr hv))) (hav v hv)) hlaw⟩ rfl (by rw [List.length_map]) (h6.1) (by
    show (av.reverse ++ rest).map (a_tr K ρ) = _
    rw [List.map_append, List.map_reverse]) (lv_room hcat) hd ⟨show cells + bc' ≤ mc by omega, show slots + bs' ≤ ms by omega⟩
theorem g_invv {index a ci n : Nat} {T : u_T} {N : Nat} (hd : decode M.2.1 pc = .ok (.invokevirtual index, 3)) (hl : a_lv M.1 index M' av.length) (hlaw : M'.2.2.2.2.1.name ≠ "law") (hS : S = av.reverse ++ .ref a :: rest) (ha : h.1.2.1 a = (10 + ci, n)) (hcl : a_cl[ci]? = some (M'.2.2.2.2.1.cls, T, N)) (hc : (rest.map fun v => v.category).sum ≤ 8) (hav : ∀ v ∈ av, v.category = 1) (hbc : bc' ≤ bc) (hbs : bs' ≤ bs)
    (k : Run K M' d bc' bs' (.ref a :: av) h (a_nx K M (d + 1) (bc - bc') (bs - bs') pc L rest Q)) : G K M (d + 1) bc bs pc L S h Q := by
  intro p e s m args below meth c ρ0 z0 mc ms C ρ H locs cells slots ls h1 h2 h3 h4 h5 h6 h7 h8 h9
  obtain ⟨l1, l2, l8, l3, l4, l5, l6, l7⟩ := hl
  subst hS
  have ht := C.2.2.2.2.2.1
  have ha' : a < h.1.1 := h5 (.ref a) (List.mem_append_right _ List.mem_cons_self)
  have hcat : ((rest.map (a_tr K ρ)).map fun v => v.category).sum ≤ 8 := by
    rw [List.map_map, show ((fun v => v.category) ∘ a_tr K ρ) = fun v : Value => v.category from funext fun v => a_tr_cat K ρ v]; exact hc
  refine a_after C h2 h3 h4 (fun v hv => h5 v (List.mem_append_right _ (List.mem_cons_of_mem _ hv))) h6 h7 h8 h9 hbc hbs (arr := ((.ref (ρ a) : Value) :: av.map (a_tr K ρ)).toArray) ?_
  have hrecv := va_recv C.2.2.2.2.2.2.2.2.2.1.1 h1.1 (ci := ci) (q0 := a) hcl (by rw [a_ws_get ha', a_ce_o ha])
  exact vx_runV (C := M'.2.2.2.2.1.cls) (b := ρ a) (As := av.map (a_tr K ρ)) (bytes := M'.2.1) (maxL := M'.2.2.1) (ret := M'.2.2.2.1) (n := av.length) ⟨C.1, C.2.1, C.2.2.1, C.2.2.2.1, ht⟩ (k ρ) (cwV (ws' := a_w0) av.length ht (fun w hw => by
      unfold wsV at hw
      rcases List.mem_append.mp hw with hw | hw
      · rcases List.mem_cons.mp hw with rfl | hw
        · exact a_w0_good _ l1
        · rcases List.mem_cons.mp hw with rfl | hw
          · exact a_w0_good _ l2
          · rcases List.mem_cons.mp hw with rfl | hw
            · exact a_w0_good _ l8
            · rcases List.mem_cons.mp hw with rfl | hw
              · exact a_w0_good _ l5
              · cases hw
      · exact a_good l3 w hw) (by rw [a_cw_of l4]) rfl rfl ⟨rfl, l7⟩ ⟨Nat.le_refl _, by show 8 + (M'.2.2.1 + 11) + 64 * d ≤ 64 * (d + 1); omega⟩) ⟨a_blind, hrecv, a_preS (av := .ref a :: av) C h1 h7 (fun v hv => by
        rcases List.mem_cons.mp hv with rfl | hv
        · exact ha'
        · exact a_sl_of (h5 v (List.mem_append_left _ (List.mem_reverse.mpr hv))) (hav v hv)) hlaw⟩ rfl (by rw [List.length_map]) (h6.1) (by
    show (av.reverse ++ .ref a :: rest).map (a_tr K ρ) = _
    rw [List.map_append, List.map_reverse]; rfl) (lv_room hcat) hd ⟨show cells + bc' ≤ mc by omega, show slots + bs' ≤ ms by omega⟩
theorem met_of_vx {l : Launch} {y : MethodName} {ws : List Cond} {rm : Room} {Pc : Array Value → State → Prop} {Qc : Array Value → State → Outcome → State → Prop} {XC : String → State → State → Prop} {mc ms : Nat} {free : Addr → Prop} (hx : ∀ E st t, ¬ XC E st t) (h : vx_Met l y ws rm Pc Qc XC mc ms free) : Met l y ws rm Pc Qc mc ms free := by
  intro p e ha hc hk s m args below hf happ hp hK
  obtain ⟨t, o, st, r1, r2, r3⟩ := h p e ha hc hk s m args below hf happ hp hK
  refine ⟨t, o, st, r1, r2, ?_⟩
  rcases r3 with r | ⟨q, -, E, ce, L', r, -⟩
  · exact r
  · exact (hx _ _ _ r).elim
theorem vx_of_va {p : Program} {l : Launch} {e : Env} {R : Room} {s : State} {m : MethodId} {args : Array Value} {below : List Frame} {meth : Method} {c : Code} {H : Heap} {locs : List Loc} {cells slots mc ms : Nat} {g : JFrame} {rest : List Value} {Qa : State → Outcome → State → Prop} {XC : String → State → State → Prop} {free : Addr → Prop} (h : va_Run p l e R s m args below meth c H locs cells slots mc ms g rest Qa free) : vx_Run p l e R s m args below meth c H locs cells slots mc ms g rest Qa XC free :=
  fun T hT X => Or.inl (h T hT X)
/-- a contract whose method never throws -/
def a_nt (Q : aQ) : aQ := fun o h => match o with
  | .inl v => Q (.inl v) h
  | .inr _ => False
theorem g_invi {index a : Nat} (hd : decode M.2.1 pc = .ok (.invokespecial index, 3)) (hl : a_li M.1 index M' av.length) (hS : S = av.reverse ++ .ref a :: rest) (hc : (rest.map fun v => v.category).sum ≤ 8) (hav : ∀ v ∈ av, v.category = 1) (hbc : bc' ≤ bc) (hbs : bs' ≤ bs)
    (k : Run K M' d bc' bs' (.ref a :: av) h (a_nt (a_nx K M (d + 1) (bc - bc') (bs - bs') pc L rest Q))) : G K M (d + 1) bc bs pc L S h Q := by
  intro p e s m args below meth c ρ0 z0 mc ms C ρ H locs cells slots ls h1 h2 h3 h4 h5 h6 h7 h8 h9
  obtain ⟨l1, l2, l8, l9, l3, l4, l5, l6, l7⟩ := hl
  subst hS
  have ht := C.2.2.2.2.2.1
  have ha' : a < h.1.1 := h5 (.ref a) (List.mem_append_right _ List.mem_cons_self)
  have hcat : ((rest.map (a_tr K ρ)).map fun v => v.category).sum ≤ 8 := by
    rw [List.map_map, show ((fun v => v.category) ∘ a_tr K ρ) = fun v : Value => v.category from funext fun v => a_tr_cat K ρ v]; exact hc
  refine a_after C h2 h3 h4 (fun v hv => h5 v (List.mem_append_right _ (List.mem_cons_of_mem _ hv))) h6 h7 h8 h9 hbc hbs (arr := ((.ref (ρ a) : Value) :: av.map (a_tr K ρ)).toArray) (vx_of_va ?_)
  have hm := met_of_vx (fun E st t q => by obtain ⟨_, _, _, _, _, _, q⟩ := q; exact q) (k ρ)
  have hq : ∀ st o t, a_Qc K ρ h.1.1 (a_nt (a_nx K M (d + 1) (bc - bc') (bs - bs') pc L rest Q)) ((.ref (ρ a) : Value) :: av.map (a_tr K ρ)).toArray st o t → a_Qc K ρ h.1.1 (a_nx K M (d + 1) (bc - bc') (bs - bs') pc L rest Q) ((.ref (ρ a) : Value) :: av.map (a_tr K ρ)).toArray st o t := fun st o t q => q
  exact va_runI (b := ρ a) (As := av.map (a_tr K ρ)) (bytes := M'.2.1) (maxL := M'.2.2.1) (n := av.length) ⟨C.1, C.2.1, C.2.2.1, C.2.2.2.1, ht⟩ hm ⟨callB_of (ws' := a_w0) av.length ht (a_good l3) (by rw [a_cw_of l4, l9]) rfl rfl (ht _ l5) (ht _ l1) l7 ⟨Nat.le_refl _, by show 8 + (M'.2.2.1 + 11) + 64 * d ≤ 64 * (d + 1); omega⟩, l8, ht _ l2⟩ ⟨a_blind, a_preS (av := .ref a :: av) C h1 h7 (fun v hv => by
        rcases List.mem_cons.mp hv with rfl | hv
        · exact ha'
        · exact a_sl_of (h5 v (List.mem_append_left _ (List.mem_reverse.mpr hv))) (hav v hv)) (by rw [l8]; decide)⟩ rfl (by rw [List.length_map]) (h6.1) (by
    show (av.reverse ++ .ref a :: rest).map (a_tr K ρ) = _
    rw [List.map_append, List.map_reverse]; rfl) (lv_room hcat) hd ⟨show cells + bc' ≤ mc by omega, show slots + bs' ≤ ms by omega⟩
/-- the nest's private ones -/
theorem g_invsn {index : Nat} {host : String} (hd : decode M.2.1 pc = .ok (.invokestatic index, 3)) (hn1 : Cond.methodLinkNest M.1 index M'.2.2.2.2.1 host ∈ a_N) (hst : Cond.static M'.2.2.2.2.1 ∈ a_w0) (hl : a_cm M' av.length) (hlaw : M'.2.2.2.2.1.name ≠ "law") (hS : S = av.reverse ++ rest) (hc : (rest.map fun v => v.category).sum ≤ 8) (hav : ∀ v ∈ av, v.category = 1) (hbc : bc' ≤ bc) (hbs : bs' ≤ bs)
    (k : Run K M' d bc' bs' av h (a_nt (a_nx K M (d + 1) (bc - bc') (bs - bs') pc L rest Q))) : G K M (d + 1) bc bs pc L S h Q := by
  intro p e s m args below meth c ρ0 z0 mc ms C ρ H locs cells slots ls h1 h2 h3 h4 h5 h6 h7 h8 h9
  obtain ⟨l3, l4, l5, l6, l7⟩ := hl
  subst hS
  have ht := C.2.2.2.2.2.1
  have hcat : ((rest.map (a_tr K ρ)).map fun v => v.category).sum ≤ 8 := by
    rw [List.map_map, show ((fun v => v.category) ∘ a_tr K ρ) = fun v : Value => v.category from funext fun v => a_tr_cat K ρ v]; exact hc
  refine a_after C h2 h3 h4 (fun v hv => h5 v (List.mem_append_right _ hv)) h6 h7 h8 h9 hbc hbs (arr := (av.map (a_tr K ρ)).toArray) (vx_of_va ?_)
  have hm := met_of_vx (fun E st t q => by obtain ⟨_, _, _, _, _, _, q⟩ := q; exact q) (k ρ)
  exact va_runSN (host := host) (As := av.map (a_tr K ρ)) (bytes := M'.2.1) (maxL := M'.2.2.1) (ret := M'.2.2.2.1) (n := av.length) ⟨C.1, C.2.1, C.2.2.1, C.2.2.2.1, ht⟩ hm ⟨va_cnB (ws' := a_w0) av.length ht (a_good l3) (by rw [a_cw_of l4]) rfl rfl (C.2.2.2.2.2.2.2.2.2.1.2.2.2.2.2.2.1 _ hn1) (ht _ l5) l7 ⟨Nat.le_refl _, by show 8 + (M'.2.2.1 + 11) + 64 * d ≤ 64 * (d + 1); omega⟩, ht _ hst, trivial⟩ ⟨a_blind, a_preS C h1 h7 (fun v hv => a_sl_of (h5 v (List.mem_append_left _ (List.mem_reverse.mpr hv))) (hav v hv)) hlaw⟩ rfl (by rw [List.length_map]) (h6.1) (by
    show (av.reverse ++ rest).map (a_tr K ρ) = _
    rw [List.map_append, List.map_reverse]) (lv_room hcat) hd ⟨show cells + bc' ≤ mc by omega, show slots + bs' ≤ ms by omega⟩
theorem g_invin {index a : Nat} {host : String} (hd : decode M.2.1 pc = .ok (.invokespecial index, 3)) (hn1 : Cond.methodLinkNest M.1 index M'.2.2.2.2.1 host ∈ a_N) (hin : Cond.instanceMethod M'.2.2.2.2.1 ∈ a_w0) (l8 : M'.2.2.2.2.1.name = "<init>") (l9 : M'.2.2.2.1 = none) (hl : a_cm M' av.length) (hS : S = av.reverse ++ .ref a :: rest) (hc : (rest.map fun v => v.category).sum ≤ 8) (hav : ∀ v ∈ av, v.category = 1) (hbc : bc' ≤ bc) (hbs : bs' ≤ bs)
    (k : Run K M' d bc' bs' (.ref a :: av) h (a_nt (a_nx K M (d + 1) (bc - bc') (bs - bs') pc L rest Q))) : G K M (d + 1) bc bs pc L S h Q := by
  intro p e s m args below meth c ρ0 z0 mc ms C ρ H locs cells slots ls h1 h2 h3 h4 h5 h6 h7 h8 h9
  obtain ⟨l3, l4, l5, l6, l7⟩ := hl
  subst hS
  have ht := C.2.2.2.2.2.1
  have ha' : a < h.1.1 := h5 (.ref a) (List.mem_append_right _ List.mem_cons_self)
  have hcat : ((rest.map (a_tr K ρ)).map fun v => v.category).sum ≤ 8 := by
    rw [List.map_map, show ((fun v => v.category) ∘ a_tr K ρ) = fun v : Value => v.category from funext fun v => a_tr_cat K ρ v]; exact hc
  refine a_after C h2 h3 h4 (fun v hv => h5 v (List.mem_append_right _ (List.mem_cons_of_mem _ hv))) h6 h7 h8 h9 hbc hbs (arr := ((.ref (ρ a) : Value) :: av.map (a_tr K ρ)).toArray) (vx_of_va ?_)
  have hm := met_of_vx (fun E st t q => by obtain ⟨_, _, _, _, _, _, q⟩ := q; exact q) (k ρ)
  exact va_runIN (host := host) (b := ρ a) (As := av.map (a_tr K ρ)) (bytes := M'.2.1) (maxL := M'.2.2.1) (n := av.length) ⟨C.1, C.2.1, C.2.2.1, C.2.2.2.1, ht⟩ hm ⟨va_cnB (ws' := a_w0) av.length ht (a_good l3) (by rw [a_cw_of l4, l9]) rfl rfl (C.2.2.2.2.2.2.2.2.2.1.2.2.2.2.2.2.1 _ hn1) (ht _ l5) l7 ⟨Nat.le_refl _, by show 8 + (M'.2.2.1 + 11) + 64 * d ≤ 64 * (d + 1); omega⟩, l8, ht _ hin⟩ ⟨a_blind, a_preS (av := .ref a :: av) C h1 h7 (fun v hv => by
        rcases List.mem_cons.mp hv with rfl | hv
        · exact ha'
        · exact a_sl_of (h5 v (List.mem_append_left _ (List.mem_reverse.mpr hv))) (hav v hv)) (by rw [l8]; decide)⟩ rfl (by rw [List.length_map]) (h6.1) (by
    show (av.reverse ++ .ref a :: rest).map (a_tr K ρ) = _
    rw [List.map_append, List.map_reverse]; rfl) (lv_room hcat) hd ⟨show cells + bc' ≤ mc by omega, show slots + bs' ≤ ms by omega⟩
end
