/-! RULES 6: catching; static calls of methods with a table; the array of Rows -/
section
variable {K : aK} {M M' : aMI} {d bc bs pc bc' bs' : Nat} {L S av rest : List Value} {h : aH} {Q : aQ}
/-- the handler: astore; a constant; ireturn -/
theorem gx_catch {E : String} {x : ExceptionTableEntry} {pre suf : List ExceptionTableEntry} {i : Nat} {nn : Int} {v : Int32} {pa pb : Nat} (hE : E ∈ a_E) (ht : tableOf M.2.2.2.2.2 = pre ++ x :: suf) (hpre : ∀ z ∈ pre, covers z pc = false ∨ (z.catchType ≠ 0 ∧ ∃ nm : String, nm ∈ a_E ∧ E ≠ nm ∧ Cond.classLink M.1 z.catchType nm ∈ a_w0)) (hx : covers x pc = true) (h0 : x.catchType ≠ 0) (hl : Cond.classLink M.1 x.catchType E ∈ a_w0) (hc : Cond.castable E E ∈ a_N)
    (hs : (decode M.2.1 x.handlerPc = .ok (.astore i, 2) ∧ pa = x.handlerPc + 2) ∨ (∃ j : Fin 4, decode M.2.1 x.handlerPc = .ok (.astore_n j, 1) ∧ (j : Nat) = i ∧ pa = x.handlerPc + 1)) (hi : i < M.2.2.1) (hk : decode M.2.1 pa = .ok (.iconst nn, 1)) (hv : Int32.ofInt nn = v) (hb : pb = pa + 1) (hr : decode M.2.1 pb = .ok (.ireturn, 1)) (hrt : M.2.2.2.1 = some .int) (q : Q (.inl (some (.int v))) h) : GX K M d bc bs pc L h E Q := by
  subst hb
  intro p e s m args below meth c ρ0 z0 mc ms C ρ H locs cells slots ls h1 h2 h3 h4 h6 h7 h8 h9 a ce rest c1 c2 c3
  have hts := C.2.2.2.2.2.1
  have hV := C.2.2.2.2.2.2.2.2.2.1
  have hNc := hV.2.2.2.2.2.2.2.2.2.2.2.2.2.2.2.2
  have htab := C.2.2.2.2.2.2.2.2.1
  rw [ht] at htab
  refine vx_catch C.2.2.2.1 pre x suf htab (fun z hz => (hpre z hz).imp id (fun ⟨z0, nm, n1, n2, n3⟩ => ⟨z0, nm, hts _ n3, hNc E hE nm n1 n2⟩)) hx h0 (hts _ hl) (va_Nw.use rfl (hV.2.2.2.2.2.2.1 _ hc)) c1 c2 c3 ?_
  have fin : ∀ ls', W p K.2.2.2.2.2.2 e (a_rm d mc ms) s m args below meth c H locs cells slots (vx_MQ below (a_Qc K ρ0 z0 Q) (a_XC K ρ0 z0 Q) args s mc ms (fun q => K.2.2.1 ≤ q)) (F0 m pa ls' []) := fun ls' => by
    refine lv_iconst C.1 C.2.1 hk hv ?_
    refine vx_ret (W.widen (k := mc) (n := ms) (by omega) (by omega) ?_)
    exact W.iret (v := v) C.1 C.2.1 (C.2.2.2.2.1.trans hrt) (fun t ht _ => ⟨some (.int v), ρ, h, rfl, by rw [ht]; exact h1, h2, h3, fun x hx => by cases hx; trivial, h7.F ht, q⟩) h7.2.2 hr C.2.2.2.2.2.2.1
  rcases hs with ⟨hs, rfl⟩ | ⟨j, hs, hj, rfl⟩
  · exact lv_astore (lv' := _) C.1 C.2.1 hs h6 hi rfl (fun ls' _ => fin ls')
  · exact lv_astore_n (lv' := _) C.1 C.2.1 hs hj h6 hi rfl (fun ls' _ => fin ls')
/-- a static call of a method that has a table, and never throws -/
def a_lh (own : String) (index : Nat) (M' : aMI) (n : Nat) : Prop := Cond.methodLink own index M'.2.2.2.2.1 ∈ a_w0 ∧ Cond.static M'.2.2.2.2.1 ∈ a_w0 ∧ a_cw M' ∈ a_w0 ∧ M'.2.2.2.2.2 ≠ [] ∧ Cond.initialized M'.2.2.2.2.1.cls ∈ a_w0 ∧ M'.2.2.1 ≤ 40 ∧ (M'.2.2.2.2.1.cls ≠ "java/lang/invoke/MethodHandle" ∧ M'.2.2.2.2.1.cls ≠ "java/lang/invoke/VarHandle" ∧ (parseMethodDescriptor M'.2.2.2.2.1.desc).map (fun d => d.parameters.length) = some n)
theorem a_cwH {M : aMI} (hh : M.2.2.2.2.2 ≠ []) : a_cw M = .codeWith M.2.2.2.2.1 M.2.1 M.2.2.1 M.2.2.2.1 M.2.2.2.2.2 := by
  unfold a_cw
  split
  · rename_i q; exact absurd q hh
  · rfl
theorem g_invsh {index : Nat} (hd : decode M.2.1 pc = .ok (.invokestatic index, 3)) (hl : a_lh M.1 index M' av.length) (hlaw : M'.2.2.2.2.1.name ≠ "law") (hS : S = av.reverse ++ rest) (hc : (rest.map fun v => v.category).sum ≤ 8) (hav : ∀ v ∈ av, v.category = 1) (hbc : bc' ≤ bc) (hbs : bs' ≤ bs)
    (k : Run K M' d bc' bs' av h (a_nt (a_nx K M (d + 1) (bc - bc') (bs - bs') pc L rest Q))) : G K M (d + 1) bc bs pc L S h Q := by
  intro p e s m args below meth c ρ0 z0 mc ms C ρ H locs cells slots ls h1 h2 h3 h4 h5 h6 h7 h8 h9
  obtain ⟨l1, l2, l3, l4, l5, l6, l7⟩ := hl
  subst hS
  have ht := C.2.2.2.2.2.1
  have hcat : ((rest.map (a_tr K ρ)).map fun v => v.category).sum ≤ 8 := by rw [a_catS]; exact hc
  refine a_after C h2 h3 h4 (fun v hv => h5 v (List.mem_append_right _ hv)) h6 h7 h8 h9 hbc hbs (arr := (av.map (a_tr K ρ)).toArray) (vx_of_va ?_)
  have hm := met_of_vx (fun E st t q => by obtain ⟨_, _, _, _, _, _, q⟩ := q; exact q) (k ρ)
  exact vx_runSW (As := av.map (a_tr K ρ)) (bytes := M'.2.1) (maxL := M'.2.2.1) (ret := M'.2.2.2.1) (hh := M'.2.2.2.2.2) (n := av.length) ⟨C.1, C.2.1, C.2.2.1, C.2.2.2.1, ht⟩ hm (vx_cwSW (ws' := a_w0) av.length ht (fun w hw => by
      unfold va_wsS at hw
      rcases List.mem_append.mp hw with hw | hw
      · rcases List.mem_cons.mp hw with rfl | hw
        · exact a_w0_good _ l1
        · rcases List.mem_cons.mp hw with rfl | hw
          · exact a_w0_good _ l2
          · rcases List.mem_cons.mp hw with rfl | hw
            · exact a_w0_good _ l5
            · cases hw
      · exact a_good l3 w hw) (by rw [a_cwH l4]) rfl rfl l7 ⟨Nat.le_refl _, by show 8 + (M'.2.2.1 + 11) + 64 * d ≤ 64 * (d + 1); omega⟩) ⟨a_blind, a_preS C h1 h7 (fun v hv => a_sl_of (h5 v (List.mem_append_left _ (List.mem_reverse.mpr hv))) (hav v hv)) hlaw⟩ rfl (by rw [List.length_map]) (h6.1) (by
    show (av.reverse ++ rest).map (a_tr K ρ) = _
    rw [List.map_append, List.map_reverse]) (lv_room hcat) hd ⟨show cells + bc' ≤ mc by omega, show slots + bs' ≤ ms by omega⟩
/-- new Row[n] -/
theorem g_newq {index N : Nat} {n : Int32} (hd : decode M.2.1 pc = .ok (.anewarray index, 3)) (hl : Cond.classLink M.1 index R_Row ∈ a_w0) (hn : ¬ n < 0) (hN : n.toNatClampNeg = N) (hb : N ≤ 60000000) (hc : 1 ≤ bc) (hs : N ≤ bs) (k' : G K M d (bc - 1) (bs - N) (pc + 3) L (.ref h.1.1 :: S) (h_n h (6, N)) Q) : G K M d bc bs pc L (.int n :: S) h Q := by
  intro p e s m args below meth c ρ0 z0 mc ms C ρ H locs cells slots ls h1 h2 h3 h4 h5 h6 h7 h8 h9
  have hV := C.2.2.2.2.2.2.2.2.2.1
  have hK := hV.1
  have hce : ∀ ρ', a_ce K ρ' (h_n h (6, N)) h.1.1 = .inl (K.2.1 6, N, .inr (.inr (.inr (.inr (fun _ => none))))) := fun ρ' => by
    rw [a_ce_r (h := h_n h (6, N)) (t := 6) (n := N) (by simp [h_n]) (by decide) (by decide)]; simp [h_n]
  refine va_newq (D := K.1) (cl := a_cl) (tys := a_tys K) (ws := a_ws K ρ h) (C := R_Row) C.1 C.2.1 C.2.2.2.1 (C.2.2.2.2.2.1 _ hl) hV.2.2.2.2.2.2.2.1 hK h1.1 h1.2.1 h7 (fun q hq => Nat.le_trans hV.2.1 hq) hn hN (by omega) (show cells + 1 ≤ mc by omega) (show slots + N ≤ ms by omega) hd (fun q cA H1 qK q1 q2 q3 => ?_)
  have hid : cA = K.2.1 6 := by
    obtain ⟨_, _, _, _, _, e1⟩ : va_RA s cA (.object R_Row) := (qK.2 7 (cA, .object R_Row) (by simp [a_tys])).2
    obtain ⟨_, _, _, _, _, e2⟩ : va_RA s (K.2.1 6) (.object R_Row) := (hK.2 6 _ (a_tys_get (by decide))).2
    exact Option.some.inj (e1.symm.trans e2)
  subst hid
  obtain ⟨ρ', r1, r2, r3⟩ := a_R_new (k := (6, N)) h1 q1 q2 hce
  have hz : (h_n h (6, N)).1.1 = h.1.1 + 1 := rfl
  have := k' p e s m args below meth c ρ0 z0 mc ms C ρ' H1 locs (cells + 1) (slots + N) ls r1 (fun a ha => by rw [r2 a (by omega)]; exact h2 a ha) (by rw [hz]; omega) (fun v hv => a_sl_mono (by rw [hz]; omega) (h4 v hv)) (sc_co (show h.1.1 < _ by rw [hz]; omega) (fun v hv => a_sc_mono (by rw [hz]; omega) (sc_tl h5 v hv))) (a_lvK r2 h4 h6) q3 (by omega) (by omega)
  rw [List.map_cons, show a_tr K ρ' (.ref h.1.1) = .ref q by simp [a_tr, r3], a_map_agree r2 (sc_tl h5)] at this
  exact this
end
