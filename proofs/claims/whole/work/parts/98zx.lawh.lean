/-! THE LAW'S HELPERS (made by wip/gen/lawh.py): from a contract of the class's method; t: the reference's code of the throw -/
def gO (f : Int32 → Int64) (g : aG) (r : oX) : aG := match r with
  | .inl y => (g.1, g.2.1, g.2.2.1, a_sj g.2.2.2 8692 0 (f y))
  | .inr _ => g
def zL (y : Int32) : Int64 := if y = 0 then 0 else 1
theorem in01 : vp_in (0 : Int32) 1 := (vp_in_iff ..).mpr (by decide)

theorem s_Law_lens {K : aK} {d bc bs : Nat} {g : aG} {m m' : aM} {x1 : Int32} {r : oX} {w t : Int32} {R : aG → Prop} (k0 : g.2.1 0 = (19, 10)) (C : SpG K M_Led_lens d bc bs [.ref 0, .int x1] (g, m) (o_out r) m' R) (ho : ∀ g', R g' → g'.2.1 8692 = (2, 1)) (hco : Co [IAE, ISE] r w t) : SpR K M_Law_lens (d + 1) bc bs [.ref 0, .int x1, .ref 8692] (g, m) (fun v h' => ∃ g', R g' ∧ v = some (.int t) ∧ h' = (gO Int32.toInt64 g' r, m')) := by
  intro Q hq
  refine run_ofH ok_Law_lens (by decide) (Nat.le_of_ble_eq_true rfl) (by simp [Value.category]) ?_
  refine g_aload_n k_Law_lens_0 rfl rfl ?_
  refine g_iconst (v := 0) k_Law_lens_1 rfl ?_
  refine g_aload_n k_Law_lens_2 rfl rfl ?_
  refine g_iload_n k_Law_lens_3 rfl rfl ?_
  refine g_invv (bc' := bc) (bs' := bs) k_Law_lens_4 lv_Law_7 (by decide +kernel) (av := [.int x1]) (rest := [.int 0, .ref 8692]) rfl k0 (T := F_Led) (N := 10) (ci := 9) rfl (by simp [Value.category]) (by simp [Value.category]) (Nat.le_refl _) (Nat.le_refl _) (C _ (fun g' hR => ?_))
  cases r with
  | inl y =>
    obtain ⟨rfl, -⟩ := hco
    have ho := ho g' hR
    show G K M_Law_lens _ _ _ (4 + 3) _ [.int y, .int 0, .ref 8692] (g', m') Q
    refine g_i2l k_Law_lens_7 ?_
    refine g_last k_Law_lens_8 ho in01 ?_
    refine g_goto (tgt := 18) k_Law_lens_9 (by decide) ?_
    refine g_iconst (v := 0) k_Law_lens_18 rfl ?_
    refine g_iret k_Law_lens_19 rfl ?_
    exact hq _ _ ⟨g', hR, rfl, rfl⟩
  | inr E =>
    obtain ⟨i, hi, rfl⟩ := hco
    show GX K M_Law_lens _ _ _ 4 _ (g', m') E Q
    match i, hi with
    | 0, hi =>
      obtain rfl : IAE = E := Option.some.inj hi
      exact gx_catch (x := ⟨0, 9, 12, 13⟩) (pre := []) (suf := [⟨0, 9, 15, 15⟩]) (i := 3) (pa := 13) (pb := 14) (v := 1) (by simp [a_E]) rfl (fun _ h => absurd h List.not_mem_nil) (by decide) (by decide) cx_Law_13 ca_IllegalArgumentException (Or.inr ⟨3, k_Law_lens_12, rfl, rfl⟩) (by decide) k_Law_lens_13 rfl rfl k_Law_lens_14 rfl (hq _ _ ⟨g', hR, rfl, rfl⟩)
    | 1, hi =>
      obtain rfl : ISE = E := Option.some.inj hi
      exact gx_catch (x := ⟨0, 9, 15, 15⟩) (pre := [⟨0, 9, 12, 13⟩]) (suf := []) (i := 3) (pa := 16) (pb := 17) (v := 2) (by simp [a_E]) rfl (List.forall_mem_cons.mpr ⟨Or.inr ⟨by decide, IAE, by simp [a_E], by decide, cx_Law_13⟩, fun _ h => absurd h List.not_mem_nil⟩) (by decide) (by decide) cx_Law_15 ca_IllegalStateException (Or.inr ⟨3, k_Law_lens_15, rfl, rfl⟩) (by decide) k_Law_lens_16 rfl rfl k_Law_lens_17 rfl (hq _ _ ⟨g', hR, rfl, rfl⟩)
    | i + 2, hi => simp at hi
theorem s_Law_see {K : aK} {d bc bs : Nat} {g : aG} {m m' : aM} {x1 x2 x3 x4 x5 : Int32} {r : oX} {w t : Int32} {R : aG → Prop} (k0 : g.2.1 0 = (19, 10)) (C : SpG K M_Led_see d bc bs [.ref 0, .int x1, .int x2, .int x3, .int x4, .int x5] (g, m) (o_out r) m' R) (ho : ∀ g', R g' → g'.2.1 8692 = (2, 1)) (hco : Co [IAE] r w t) : SpR K M_Law_see (d + 1) bc bs [.ref 0, .int x1, .int x2, .int x3, .int x4, .int x5, .ref 8692] (g, m) (fun v h' => ∃ g', R g' ∧ v = some (.int t) ∧ h' = (gO Int32.toInt64 g' r, m')) := by
  intro Q hq
  refine run_ofH ok_Law_see (by decide) (Nat.le_of_ble_eq_true rfl) (by simp [Value.category]) ?_
  refine g_aload k_Law_see_0 rfl ?_
  refine g_iconst (v := 0) k_Law_see_2 rfl ?_
  refine g_aload_n k_Law_see_3 rfl rfl ?_
  refine g_iload_n k_Law_see_4 rfl rfl ?_
  refine g_iload_n k_Law_see_5 rfl rfl ?_
  refine g_iload_n k_Law_see_6 rfl rfl ?_
  refine g_iload k_Law_see_7 rfl ?_
  refine g_iload k_Law_see_9 rfl ?_
  refine g_invv (bc' := bc) (bs' := bs) k_Law_see_11 lv_Law_17 (by decide +kernel) (av := [.int x1, .int x2, .int x3, .int x4, .int x5]) (rest := [.int 0, .ref 8692]) rfl k0 (T := F_Led) (N := 10) (ci := 9) rfl (by simp [Value.category]) (by simp [Value.category]) (Nat.le_refl _) (Nat.le_refl _) (C _ (fun g' hR => ?_))
  cases r with
  | inl y =>
    obtain ⟨rfl, -⟩ := hco
    have ho := ho g' hR
    show G K M_Law_see _ _ _ (11 + 3) _ [.int y, .int 0, .ref 8692] (g', m') Q
    refine g_i2l k_Law_see_14 ?_
    refine g_last k_Law_see_15 ho in01 ?_
    refine g_goto (tgt := 23) k_Law_see_16 (by decide) ?_
    refine g_iconst (v := 0) k_Law_see_23 rfl ?_
    refine g_iret k_Law_see_24 rfl ?_
    exact hq _ _ ⟨g', hR, rfl, rfl⟩
  | inr E =>
    obtain ⟨i, hi, rfl⟩ := hco
    show GX K M_Law_see _ _ _ 11 _ (g', m') E Q
    match i, hi with
    | 0, hi =>
      obtain rfl : IAE = E := Option.some.inj hi
      exact gx_catch (x := ⟨0, 16, 19, 13⟩) (pre := []) (suf := []) (i := 7) (pa := 21) (pb := 22) (v := 1) (by simp [a_E]) rfl (fun _ h => absurd h List.not_mem_nil) (by decide) (by decide) cx_Law_13 ca_IllegalArgumentException (Or.inl ⟨k_Law_see_19, rfl⟩) (by decide) k_Law_see_21 rfl rfl k_Law_see_22 rfl (hq _ _ ⟨g', hR, rfl, rfl⟩)
    | i + 1, hi => simp at hi
theorem s_Law_put {K : aK} {d bc bs : Nat} {g : aG} {m m' : aM} {x1 x2 x3 x4 x5 x6 : Int32} {r : oX} {w t : Int32} {R : aG → Prop} (k0 : g.2.1 0 = (19, 10)) (C : SpG K M_Led_put d bc bs [.ref 0, .int x1, .int x2, .int x3, .int x4, .int x5, .int x6] (g, m) (o_out r) m' R) (ho : ∀ g', R g' → g'.2.1 8692 = (2, 1)) (hco : Co [IAE] r w t) : SpR K M_Law_put (d + 1) bc bs [.ref 0, .int x1, .int x2, .int x3, .int x4, .int x5, .int x6, .ref 8692] (g, m) (fun v h' => ∃ g', R g' ∧ v = some (.int t) ∧ h' = (gO Int32.toInt64 g' r, m')) := by
  intro Q hq
  refine run_ofH ok_Law_put (by decide) (Nat.le_of_ble_eq_true rfl) (by simp [Value.category]) ?_
  refine g_aload k_Law_put_0 rfl ?_
  refine g_iconst (v := 0) k_Law_put_2 rfl ?_
  refine g_aload_n k_Law_put_3 rfl rfl ?_
  refine g_iload_n k_Law_put_4 rfl rfl ?_
  refine g_iload_n k_Law_put_5 rfl rfl ?_
  refine g_iload_n k_Law_put_6 rfl rfl ?_
  refine g_iload k_Law_put_7 rfl ?_
  refine g_iload k_Law_put_9 rfl ?_
  refine g_iload k_Law_put_11 rfl ?_
  refine g_invv (bc' := bc) (bs' := bs) k_Law_put_13 lv_Law_21 (by decide +kernel) (av := [.int x1, .int x2, .int x3, .int x4, .int x5, .int x6]) (rest := [.int 0, .ref 8692]) rfl k0 (T := F_Led) (N := 10) (ci := 9) rfl (by simp [Value.category]) (by simp [Value.category]) (Nat.le_refl _) (Nat.le_refl _) (C _ (fun g' hR => ?_))
  cases r with
  | inl y =>
    obtain ⟨rfl, -⟩ := hco
    have ho := ho g' hR
    show G K M_Law_put _ _ _ (13 + 3) _ [.int y, .int 0, .ref 8692] (g', m') Q
    refine g_i2l k_Law_put_16 ?_
    refine g_last k_Law_put_17 ho in01 ?_
    refine g_goto (tgt := 25) k_Law_put_18 (by decide) ?_
    refine g_iconst (v := 0) k_Law_put_25 rfl ?_
    refine g_iret k_Law_put_26 rfl ?_
    exact hq _ _ ⟨g', hR, rfl, rfl⟩
  | inr E =>
    obtain ⟨i, hi, rfl⟩ := hco
    show GX K M_Law_put _ _ _ 13 _ (g', m') E Q
    match i, hi with
    | 0, hi =>
      obtain rfl : IAE = E := Option.some.inj hi
      exact gx_catch (x := ⟨0, 18, 21, 13⟩) (pre := []) (suf := []) (i := 8) (pa := 23) (pb := 24) (v := 1) (by simp [a_E]) rfl (fun _ h => absurd h List.not_mem_nil) (by decide) (by decide) cx_Law_13 ca_IllegalArgumentException (Or.inl ⟨k_Law_put_21, rfl⟩) (by decide) k_Law_put_23 rfl rfl k_Law_put_24 rfl (hq _ _ ⟨g', hR, rfl, rfl⟩)
    | i + 1, hi => simp at hi
theorem s_Law_box {K : aK} {d bc bs : Nat} {g : aG} {m m' : aM} {x1 x2 x3 : Int32} {r : oX} {w t : Int32} {R : aG → Prop} (k0 : g.2.1 0 = (19, 10)) (C : SpG K M_Led_box d bc bs [.ref 0, .int x1, .int x2, .int x3] (g, m) (o_outv r) m' R) (hco : Co [IAE] r w t) : SpR K M_Law_box (d + 1) bc bs [.ref 0, .int x1, .int x2, .int x3] (g, m) (fun v h' => ∃ g', R g' ∧ v = some (.int t) ∧ h' = (g', m')) := by
  intro Q hq
  refine run_ofH ok_Law_box (by decide) (Nat.le_of_ble_eq_true rfl) (by simp [Value.category]) ?_
  refine g_aload_n k_Law_box_0 rfl rfl ?_
  refine g_iload_n k_Law_box_1 rfl rfl ?_
  refine g_iload_n k_Law_box_2 rfl rfl ?_
  refine g_iload_n k_Law_box_3 rfl rfl ?_
  refine g_invv (bc' := bc) (bs' := bs) k_Law_box_4 lv_Law_25 (by decide +kernel) (av := [.int x1, .int x2, .int x3]) (rest := []) rfl k0 (T := F_Led) (N := 10) (ci := 9) rfl (by simp [Value.category]) (by simp [Value.category]) (Nat.le_refl _) (Nat.le_refl _) (C _ (fun g' hR => ?_))
  cases r with
  | inl y =>
    obtain ⟨rfl, -⟩ := hco
    show G K M_Law_box _ _ _ (4 + 3) _ [] (g', m') Q
    refine g_goto (tgt := 14) k_Law_box_7 (by decide) ?_
    refine g_iconst (v := 0) k_Law_box_14 rfl ?_
    refine g_iret k_Law_box_15 rfl ?_
    exact hq _ _ ⟨g', hR, rfl, rfl⟩
  | inr E =>
    obtain ⟨i, hi, rfl⟩ := hco
    show GX K M_Law_box _ _ _ 4 _ (g', m') E Q
    match i, hi with
    | 0, hi =>
      obtain rfl : IAE = E := Option.some.inj hi
      exact gx_catch (x := ⟨0, 7, 10, 13⟩) (pre := []) (suf := []) (i := 4) (pa := 12) (pb := 13) (v := 1) (by simp [a_E]) rfl (fun _ h => absurd h List.not_mem_nil) (by decide) (by decide) cx_Law_13 ca_IllegalArgumentException (Or.inl ⟨k_Law_box_10, rfl⟩) (by decide) k_Law_box_12 rfl rfl k_Law_box_13 rfl (hq _ _ ⟨g', hR, rfl, rfl⟩)
    | i + 1, hi => simp at hi
theorem s_Law_agree {K : aK} {d bc bs : Nat} {g : aG} {m m' : aM} {x1 x2 : Int32} {r : oX} {w t : Int32} {R : aG → Prop} (k0 : g.2.1 0 = (19, 10)) (C : SpG K M_Led_agree d bc bs [.ref 0, .int x1, .int x2] (g, m) (o_out r) m' R) (ho : ∀ g', R g' → g'.2.1 8692 = (2, 1)) (hco : Co [IAE] r w t) : SpR K M_Law_agree (d + 1) bc bs [.ref 0, .int x1, .int x2, .ref 8692] (g, m) (fun v h' => ∃ g', R g' ∧ v = some (.int t) ∧ h' = (gO Int32.toInt64 g' r, m')) := by
  intro Q hq
  refine run_ofH ok_Law_agree (by decide) (Nat.le_of_ble_eq_true rfl) (by simp [Value.category]) ?_
  refine g_aload_n k_Law_agree_0 rfl rfl ?_
  refine g_iconst (v := 0) k_Law_agree_1 rfl ?_
  refine g_aload_n k_Law_agree_2 rfl rfl ?_
  refine g_iload_n k_Law_agree_3 rfl rfl ?_
  refine g_iload_n k_Law_agree_4 rfl rfl ?_
  refine g_invv (bc' := bc) (bs' := bs) k_Law_agree_5 lv_Law_29 (by decide +kernel) (av := [.int x1, .int x2]) (rest := [.int 0, .ref 8692]) rfl k0 (T := F_Led) (N := 10) (ci := 9) rfl (by simp [Value.category]) (by simp [Value.category]) (Nat.le_refl _) (Nat.le_refl _) (C _ (fun g' hR => ?_))
  cases r with
  | inl y =>
    obtain ⟨rfl, -⟩ := hco
    have ho := ho g' hR
    show G K M_Law_agree _ _ _ (5 + 3) _ [.int y, .int 0, .ref 8692] (g', m') Q
    refine g_i2l k_Law_agree_8 ?_
    refine g_last k_Law_agree_9 ho in01 ?_
    refine g_goto (tgt := 17) k_Law_agree_10 (by decide) ?_
    refine g_iconst (v := 0) k_Law_agree_17 rfl ?_
    refine g_iret k_Law_agree_18 rfl ?_
    exact hq _ _ ⟨g', hR, rfl, rfl⟩
  | inr E =>
    obtain ⟨i, hi, rfl⟩ := hco
    show GX K M_Law_agree _ _ _ 5 _ (g', m') E Q
    match i, hi with
    | 0, hi =>
      obtain rfl : IAE = E := Option.some.inj hi
      exact gx_catch (x := ⟨0, 10, 13, 13⟩) (pre := []) (suf := []) (i := 4) (pa := 15) (pb := 16) (v := 1) (by simp [a_E]) rfl (fun _ h => absurd h List.not_mem_nil) (by decide) (by decide) cx_Law_13 ca_IllegalArgumentException (Or.inl ⟨k_Law_agree_13, rfl⟩) (by decide) k_Law_agree_15 rfl rfl k_Law_agree_16 rfl (hq _ _ ⟨g', hR, rfl, rfl⟩)
    | i + 1, hi => simp at hi
theorem s_Law_unlike {K : aK} {d bc bs : Nat} {g : aG} {m m' : aM} {x1 : Int32} {r : oX} {w t : Int32} {R : aG → Prop} (k0 : g.2.1 0 = (19, 10)) (C : SpG K M_Led_unlike d bc bs [.ref 0, .int x1] (g, m) (o_out r) m' R) (ho : ∀ g', R g' → g'.2.1 8692 = (2, 1)) (hco : Co [IAE] r w t) : SpR K M_Law_unlike (d + 1) bc bs [.ref 0, .int x1, .ref 8692] (g, m) (fun v h' => ∃ g', R g' ∧ v = some (.int t) ∧ h' = (gO Int32.toInt64 g' r, m')) := by
  intro Q hq
  refine run_ofH ok_Law_unlike (by decide) (Nat.le_of_ble_eq_true rfl) (by simp [Value.category]) ?_
  refine g_aload_n k_Law_unlike_0 rfl rfl ?_
  refine g_iconst (v := 0) k_Law_unlike_1 rfl ?_
  refine g_aload_n k_Law_unlike_2 rfl rfl ?_
  refine g_iload_n k_Law_unlike_3 rfl rfl ?_
  refine g_invv (bc' := bc) (bs' := bs) k_Law_unlike_4 lv_Law_33 (by decide +kernel) (av := [.int x1]) (rest := [.int 0, .ref 8692]) rfl k0 (T := F_Led) (N := 10) (ci := 9) rfl (by simp [Value.category]) (by simp [Value.category]) (Nat.le_refl _) (Nat.le_refl _) (C _ (fun g' hR => ?_))
  cases r with
  | inl y =>
    obtain ⟨rfl, -⟩ := hco
    have ho := ho g' hR
    show G K M_Law_unlike _ _ _ (4 + 3) _ [.int y, .int 0, .ref 8692] (g', m') Q
    refine g_i2l k_Law_unlike_7 ?_
    refine g_last k_Law_unlike_8 ho in01 ?_
    refine g_goto (tgt := 15) k_Law_unlike_9 (by decide) ?_
    refine g_iconst (v := 0) k_Law_unlike_15 rfl ?_
    refine g_iret k_Law_unlike_16 rfl ?_
    exact hq _ _ ⟨g', hR, rfl, rfl⟩
  | inr E =>
    obtain ⟨i, hi, rfl⟩ := hco
    show GX K M_Law_unlike _ _ _ 4 _ (g', m') E Q
    match i, hi with
    | 0, hi =>
      obtain rfl : IAE = E := Option.some.inj hi
      exact gx_catch (x := ⟨0, 9, 12, 13⟩) (pre := []) (suf := []) (i := 3) (pa := 13) (pb := 14) (v := 1) (by simp [a_E]) rfl (fun _ h => absurd h List.not_mem_nil) (by decide) (by decide) cx_Law_13 ca_IllegalArgumentException (Or.inr ⟨3, k_Law_unlike_12, rfl, rfl⟩) (by decide) k_Law_unlike_13 rfl rfl k_Law_unlike_14 rfl (hq _ _ ⟨g', hR, rfl, rfl⟩)
    | i + 1, hi => simp at hi
theorem s_Law_hold {K : aK} {d bc bs : Nat} {g : aG} {m m' : aM} {x1 x2 x3 : Int32} {r : oX} {w t : Int32} {R : aG → Prop} (k0 : g.2.1 0 = (19, 10)) (C : SpG K M_Led_hold d bc bs [.ref 0, .int x1, .int x2, .int x3] (g, m) (o_out r) m' R) (ho : ∀ g', R g' → g'.2.1 8692 = (2, 1)) (hco : Co [NSE, IAE] r w t) : SpR K M_Law_hold (d + 1) bc bs [.ref 0, .int x1, .int x2, .int x3, .ref 8692] (g, m) (fun v h' => ∃ g', R g' ∧ v = some (.int t) ∧ h' = (gO Int32.toInt64 g' r, m')) := by
  intro Q hq
  refine run_ofH ok_Law_hold (by decide) (Nat.le_of_ble_eq_true rfl) (by simp [Value.category]) ?_
  refine g_aload k_Law_hold_0 rfl ?_
  refine g_iconst (v := 0) k_Law_hold_2 rfl ?_
  refine g_aload_n k_Law_hold_3 rfl rfl ?_
  refine g_iload_n k_Law_hold_4 rfl rfl ?_
  refine g_iload_n k_Law_hold_5 rfl rfl ?_
  refine g_iload_n k_Law_hold_6 rfl rfl ?_
  refine g_invv (bc' := bc) (bs' := bs) k_Law_hold_7 lv_Law_36 (by decide +kernel) (av := [.int x1, .int x2, .int x3]) (rest := [.int 0, .ref 8692]) rfl k0 (T := F_Led) (N := 10) (ci := 9) rfl (by simp [Value.category]) (by simp [Value.category]) (Nat.le_refl _) (Nat.le_refl _) (C _ (fun g' hR => ?_))
  cases r with
  | inl y =>
    obtain ⟨rfl, -⟩ := hco
    have ho := ho g' hR
    show G K M_Law_hold _ _ _ (7 + 3) _ [.int y, .int 0, .ref 8692] (g', m') Q
    refine g_i2l k_Law_hold_10 ?_
    refine g_last k_Law_hold_11 ho in01 ?_
    refine g_goto (tgt := 23) k_Law_hold_12 (by decide) ?_
    refine g_iconst (v := 0) k_Law_hold_23 rfl ?_
    refine g_iret k_Law_hold_24 rfl ?_
    exact hq _ _ ⟨g', hR, rfl, rfl⟩
  | inr E =>
    obtain ⟨i, hi, rfl⟩ := hco
    show GX K M_Law_hold _ _ _ 7 _ (g', m') E Q
    match i, hi with
    | 0, hi =>
      obtain rfl : NSE = E := Option.some.inj hi
      exact gx_catch (x := ⟨0, 12, 15, 40⟩) (pre := []) (suf := [⟨0, 12, 19, 13⟩]) (i := 5) (pa := 17) (pb := 18) (v := 1) (by simp [a_E]) rfl (fun _ h => absurd h List.not_mem_nil) (by decide) (by decide) cx_Law_40 ca_NoSuchElementException (Or.inl ⟨k_Law_hold_15, rfl⟩) (by decide) k_Law_hold_17 rfl rfl k_Law_hold_18 rfl (hq _ _ ⟨g', hR, rfl, rfl⟩)
    | 1, hi =>
      obtain rfl : IAE = E := Option.some.inj hi
      exact gx_catch (x := ⟨0, 12, 19, 13⟩) (pre := [⟨0, 12, 15, 40⟩]) (suf := []) (i := 5) (pa := 21) (pb := 22) (v := 2) (by simp [a_E]) rfl (List.forall_mem_cons.mpr ⟨Or.inr ⟨by decide, NSE, by simp [a_E], by decide, cx_Law_40⟩, fun _ h => absurd h List.not_mem_nil⟩) (by decide) (by decide) cx_Law_13 ca_IllegalArgumentException (Or.inl ⟨k_Law_hold_19, rfl⟩) (by decide) k_Law_hold_21 rfl rfl k_Law_hold_22 rfl (hq _ _ ⟨g', hR, rfl, rfl⟩)
    | i + 2, hi => simp at hi
theorem s_Law_order {K : aK} {d bc bs : Nat} {g : aG} {m m' : aM} {x1 x2 x3 : Int32} {r : oX} {w t : Int32} {R : aG → Prop} (k0 : g.2.1 0 = (19, 10)) (C : SpG K M_Led_order d bc bs [.ref 0, .int x1, .int x2, .int x3] (g, m) (o_out r) m' R) (ho : ∀ g', R g' → g'.2.1 8692 = (2, 1)) (hco : Co [NSE, IAE] r w t) : SpR K M_Law_order (d + 1) bc bs [.ref 0, .int x1, .int x2, .int x3, .ref 8692] (g, m) (fun v h' => ∃ g', R g' ∧ v = some (.int t) ∧ h' = (gO Int32.toInt64 g' r, m')) := by
  intro Q hq
  refine run_ofH ok_Law_order (by decide) (Nat.le_of_ble_eq_true rfl) (by simp [Value.category]) ?_
  refine g_aload k_Law_order_0 rfl ?_
  refine g_iconst (v := 0) k_Law_order_2 rfl ?_
  refine g_aload_n k_Law_order_3 rfl rfl ?_
  refine g_iload_n k_Law_order_4 rfl rfl ?_
  refine g_iload_n k_Law_order_5 rfl rfl ?_
  refine g_iload_n k_Law_order_6 rfl rfl ?_
  refine g_invv (bc' := bc) (bs' := bs) k_Law_order_7 lv_Law_42 (by decide +kernel) (av := [.int x1, .int x2, .int x3]) (rest := [.int 0, .ref 8692]) rfl k0 (T := F_Led) (N := 10) (ci := 9) rfl (by simp [Value.category]) (by simp [Value.category]) (Nat.le_refl _) (Nat.le_refl _) (C _ (fun g' hR => ?_))
  cases r with
  | inl y =>
    obtain ⟨rfl, -⟩ := hco
    have ho := ho g' hR
    show G K M_Law_order _ _ _ (7 + 3) _ [.int y, .int 0, .ref 8692] (g', m') Q
    refine g_i2l k_Law_order_10 ?_
    refine g_last k_Law_order_11 ho in01 ?_
    refine g_goto (tgt := 23) k_Law_order_12 (by decide) ?_
    refine g_iconst (v := 0) k_Law_order_23 rfl ?_
    refine g_iret k_Law_order_24 rfl ?_
    exact hq _ _ ⟨g', hR, rfl, rfl⟩
  | inr E =>
    obtain ⟨i, hi, rfl⟩ := hco
    show GX K M_Law_order _ _ _ 7 _ (g', m') E Q
    match i, hi with
    | 0, hi =>
      obtain rfl : NSE = E := Option.some.inj hi
      exact gx_catch (x := ⟨0, 12, 15, 40⟩) (pre := []) (suf := [⟨0, 12, 19, 13⟩]) (i := 5) (pa := 17) (pb := 18) (v := 1) (by simp [a_E]) rfl (fun _ h => absurd h List.not_mem_nil) (by decide) (by decide) cx_Law_40 ca_NoSuchElementException (Or.inl ⟨k_Law_order_15, rfl⟩) (by decide) k_Law_order_17 rfl rfl k_Law_order_18 rfl (hq _ _ ⟨g', hR, rfl, rfl⟩)
    | 1, hi =>
      obtain rfl : IAE = E := Option.some.inj hi
      exact gx_catch (x := ⟨0, 12, 19, 13⟩) (pre := [⟨0, 12, 15, 40⟩]) (suf := []) (i := 5) (pa := 21) (pb := 22) (v := 2) (by simp [a_E]) rfl (List.forall_mem_cons.mpr ⟨Or.inr ⟨by decide, NSE, by simp [a_E], by decide, cx_Law_40⟩, fun _ h => absurd h List.not_mem_nil⟩) (by decide) (by decide) cx_Law_13 ca_IllegalArgumentException (Or.inl ⟨k_Law_order_19, rfl⟩) (by decide) k_Law_order_21 rfl rfl k_Law_order_22 rfl (hq _ _ ⟨g', hR, rfl, rfl⟩)
    | i + 2, hi => simp at hi
theorem s_Law_need {K : aK} {d bc bs : Nat} {g : aG} {m m' : aM} {x1 x2 x3 : Int32} {r : oX} {w t : Int32} {R : aG → Prop} (k0 : g.2.1 0 = (19, 10)) (C : SpG K M_Led_need d bc bs [.ref 0, .int x1, .int x2, .int x3] (g, m) (o_out r) m' R) (ho : ∀ g', R g' → g'.2.1 8692 = (2, 1)) (hco : Co [IOB, NSE, IAE] r w t) : SpR K M_Law_need (d + 1) bc bs [.ref 0, .int x1, .int x2, .int x3, .ref 8692] (g, m) (fun v h' => ∃ g', R g' ∧ v = some (.int t) ∧ h' = (gO Int32.toInt64 g' r, m')) := by
  intro Q hq
  refine run_ofH ok_Law_need (by decide) (Nat.le_of_ble_eq_true rfl) (by simp [Value.category]) ?_
  refine g_aload k_Law_need_0 rfl ?_
  refine g_iconst (v := 0) k_Law_need_2 rfl ?_
  refine g_aload_n k_Law_need_3 rfl rfl ?_
  refine g_iload_n k_Law_need_4 rfl rfl ?_
  refine g_iload_n k_Law_need_5 rfl rfl ?_
  refine g_iload_n k_Law_need_6 rfl rfl ?_
  refine g_invv (bc' := bc) (bs' := bs) k_Law_need_7 lv_Law_46 (by decide +kernel) (av := [.int x1, .int x2, .int x3]) (rest := [.int 0, .ref 8692]) rfl k0 (T := F_Led) (N := 10) (ci := 9) rfl (by simp [Value.category]) (by simp [Value.category]) (Nat.le_refl _) (Nat.le_refl _) (C _ (fun g' hR => ?_))
  cases r with
  | inl y =>
    obtain ⟨rfl, -⟩ := hco
    have ho := ho g' hR
    show G K M_Law_need _ _ _ (7 + 3) _ [.int y, .int 0, .ref 8692] (g', m') Q
    refine g_i2l k_Law_need_10 ?_
    refine g_last k_Law_need_11 ho in01 ?_
    refine g_goto (tgt := 27) k_Law_need_12 (by decide) ?_
    refine g_iconst (v := 0) k_Law_need_27 rfl ?_
    refine g_iret k_Law_need_28 rfl ?_
    exact hq _ _ ⟨g', hR, rfl, rfl⟩
  | inr E =>
    obtain ⟨i, hi, rfl⟩ := hco
    show GX K M_Law_need _ _ _ 7 _ (g', m') E Q
    match i, hi with
    | 0, hi =>
      obtain rfl : IOB = E := Option.some.inj hi
      exact gx_catch (x := ⟨0, 12, 15, 49⟩) (pre := []) (suf := [⟨0, 12, 19, 40⟩, ⟨0, 12, 23, 13⟩]) (i := 5) (pa := 17) (pb := 18) (v := 1) (by simp [a_E]) rfl (fun _ h => absurd h List.not_mem_nil) (by decide) (by decide) cx_Law_49 ca_IndexOutOfBoundsException (Or.inl ⟨k_Law_need_15, rfl⟩) (by decide) k_Law_need_17 rfl rfl k_Law_need_18 rfl (hq _ _ ⟨g', hR, rfl, rfl⟩)
    | 1, hi =>
      obtain rfl : NSE = E := Option.some.inj hi
      exact gx_catch (x := ⟨0, 12, 19, 40⟩) (pre := [⟨0, 12, 15, 49⟩]) (suf := [⟨0, 12, 23, 13⟩]) (i := 5) (pa := 21) (pb := 22) (v := 2) (by simp [a_E]) rfl (List.forall_mem_cons.mpr ⟨Or.inr ⟨by decide, IOB, by simp [a_E], by decide, cx_Law_49⟩, fun _ h => absurd h List.not_mem_nil⟩) (by decide) (by decide) cx_Law_40 ca_NoSuchElementException (Or.inl ⟨k_Law_need_19, rfl⟩) (by decide) k_Law_need_21 rfl rfl k_Law_need_22 rfl (hq _ _ ⟨g', hR, rfl, rfl⟩)
    | 2, hi =>
      obtain rfl : IAE = E := Option.some.inj hi
      exact gx_catch (x := ⟨0, 12, 23, 13⟩) (pre := [⟨0, 12, 15, 49⟩, ⟨0, 12, 19, 40⟩]) (suf := []) (i := 5) (pa := 25) (pb := 26) (v := 3) (by simp [a_E]) rfl (List.forall_mem_cons.mpr ⟨Or.inr ⟨by decide, IOB, by simp [a_E], by decide, cx_Law_49⟩, List.forall_mem_cons.mpr ⟨Or.inr ⟨by decide, NSE, by simp [a_E], by decide, cx_Law_40⟩, fun _ h => absurd h List.not_mem_nil⟩⟩) (by decide) (by decide) cx_Law_13 ca_IllegalArgumentException (Or.inl ⟨k_Law_need_23, rfl⟩) (by decide) k_Law_need_25 rfl rfl k_Law_need_26 rfl (hq _ _ ⟨g', hR, rfl, rfl⟩)
    | i + 3, hi => simp at hi
theorem s_Law_price {K : aK} {d bc bs : Nat} {g : aG} {m m' : aM} {x1 x2 : Int32} {r : oX} {w t : Int32} {R : aG → Prop} (k0 : g.2.1 0 = (19, 10)) (C : SpG K M_Led_price d bc bs [.ref 0, .int x1, .int x2] (g, m) (o_out r) m' R) (ho : ∀ g', R g' → g'.2.1 8692 = (2, 1)) (hco : Co [IOB, IAE] r w t) : SpR K M_Law_price (d + 1) bc bs [.ref 0, .int x1, .int x2, .ref 8692] (g, m) (fun v h' => ∃ g', R g' ∧ v = some (.int t) ∧ h' = (gO Int32.toInt64 g' r, m')) := by
  intro Q hq
  refine run_ofH ok_Law_price (by decide) (Nat.le_of_ble_eq_true rfl) (by simp [Value.category]) ?_
  refine g_aload_n k_Law_price_0 rfl rfl ?_
  refine g_iconst (v := 0) k_Law_price_1 rfl ?_
  refine g_aload_n k_Law_price_2 rfl rfl ?_
  refine g_iload_n k_Law_price_3 rfl rfl ?_
  refine g_iload_n k_Law_price_4 rfl rfl ?_
  refine g_invv (bc' := bc) (bs' := bs) k_Law_price_5 lv_Law_51 (by decide +kernel) (av := [.int x1, .int x2]) (rest := [.int 0, .ref 8692]) rfl k0 (T := F_Led) (N := 10) (ci := 9) rfl (by simp [Value.category]) (by simp [Value.category]) (Nat.le_refl _) (Nat.le_refl _) (C _ (fun g' hR => ?_))
  cases r with
  | inl y =>
    obtain ⟨rfl, -⟩ := hco
    have ho := ho g' hR
    show G K M_Law_price _ _ _ (5 + 3) _ [.int y, .int 0, .ref 8692] (g', m') Q
    refine g_i2l k_Law_price_8 ?_
    refine g_last k_Law_price_9 ho in01 ?_
    refine g_goto (tgt := 21) k_Law_price_10 (by decide) ?_
    refine g_iconst (v := 0) k_Law_price_21 rfl ?_
    refine g_iret k_Law_price_22 rfl ?_
    exact hq _ _ ⟨g', hR, rfl, rfl⟩
  | inr E =>
    obtain ⟨i, hi, rfl⟩ := hco
    show GX K M_Law_price _ _ _ 5 _ (g', m') E Q
    match i, hi with
    | 0, hi =>
      obtain rfl : IOB = E := Option.some.inj hi
      exact gx_catch (x := ⟨0, 10, 13, 49⟩) (pre := []) (suf := [⟨0, 10, 17, 13⟩]) (i := 4) (pa := 15) (pb := 16) (v := 1) (by simp [a_E]) rfl (fun _ h => absurd h List.not_mem_nil) (by decide) (by decide) cx_Law_49 ca_IndexOutOfBoundsException (Or.inl ⟨k_Law_price_13, rfl⟩) (by decide) k_Law_price_15 rfl rfl k_Law_price_16 rfl (hq _ _ ⟨g', hR, rfl, rfl⟩)
    | 1, hi =>
      obtain rfl : IAE = E := Option.some.inj hi
      exact gx_catch (x := ⟨0, 10, 17, 13⟩) (pre := [⟨0, 10, 13, 49⟩]) (suf := []) (i := 4) (pa := 19) (pb := 20) (v := 2) (by simp [a_E]) rfl (List.forall_mem_cons.mpr ⟨Or.inr ⟨by decide, IOB, by simp [a_E], by decide, cx_Law_49⟩, fun _ h => absurd h List.not_mem_nil⟩) (by decide) (by decide) cx_Law_13 ca_IllegalArgumentException (Or.inl ⟨k_Law_price_17, rfl⟩) (by decide) k_Law_price_19 rfl rfl k_Law_price_20 rfl (hq _ _ ⟨g', hR, rfl, rfl⟩)
    | i + 2, hi => simp at hi
theorem s_Law_stands {K : aK} {d bc bs : Nat} {g : aG} {m m' : aM} {x1 x2 : Int32} {r : oX} {w t : Int32} {R : aG → Prop} (k0 : g.2.1 0 = (19, 10)) (C : SpG K M_Led_stands d bc bs [.ref 0, .int x1, .int x2] (g, m) (o_out r) m' R) (ho : ∀ g', R g' → g'.2.1 8692 = (2, 1)) (hco : Co [IAE] r w t) : SpR K M_Law_stands (d + 1) bc bs [.ref 0, .int x1, .int x2, .ref 8692] (g, m) (fun v h' => ∃ g', R g' ∧ v = some (.int t) ∧ h' = (gO zL g' r, m')) := by
  intro Q hq
  refine run_ofH ok_Law_stands (by decide) (Nat.le_of_ble_eq_true rfl) (by simp [Value.category]) ?_
  refine g_aload_n k_Law_stands_0 rfl rfl ?_
  refine g_iconst (v := 0) k_Law_stands_1 rfl ?_
  refine g_aload_n k_Law_stands_2 rfl rfl ?_
  refine g_iload_n k_Law_stands_3 rfl rfl ?_
  refine g_iload_n k_Law_stands_4 rfl rfl ?_
  refine g_invv (bc' := bc) (bs' := bs) k_Law_stands_5 lv_Law_54 (by decide +kernel) (av := [.int x1, .int x2]) (rest := [.int 0, .ref 8692]) rfl k0 (T := F_Led) (N := 10) (ci := 9) rfl (by simp [Value.category]) (by simp [Value.category]) (Nat.le_refl _) (Nat.le_refl _) (C _ (fun g' hR => ?_))
  cases r with
  | inl y =>
    obtain ⟨rfl, -⟩ := hco
    have ho := ho g' hR
    show G K M_Law_stands _ _ _ (5 + 3) _ [.int y, .int 0, .ref 8692] (g', m') Q
    refine g_if_eq (tgt := 15) k_Law_stands_8 (by decide) (fun c => ?_) (fun c => ?_)
    · refine g_lconst (v := 0) k_Law_stands_15 rfl ?_
      refine g_last k_Law_stands_16 ho in01 ?_
      refine g_goto (tgt := 24) k_Law_stands_17 (by decide) ?_
      refine g_iconst (v := 0) k_Law_stands_24 rfl ?_
      refine g_iret k_Law_stands_25 rfl ?_
      exact hq _ _ ⟨g', hR, rfl, by simp only [gO, zL, c, ite_true]; rfl⟩
    · refine g_lconst (v := 1) k_Law_stands_11 rfl ?_
      refine g_goto (tgt := 16) k_Law_stands_12 (by decide) ?_
      refine g_last k_Law_stands_16 ho in01 ?_
      refine g_goto (tgt := 24) k_Law_stands_17 (by decide) ?_
      refine g_iconst (v := 0) k_Law_stands_24 rfl ?_
      refine g_iret k_Law_stands_25 rfl ?_
      exact hq _ _ ⟨g', hR, rfl, by simp only [gO, zL, c, ite_false]; rfl⟩
  | inr E =>
    obtain ⟨i, hi, rfl⟩ := hco
    show GX K M_Law_stands _ _ _ 5 _ (g', m') E Q
    match i, hi with
    | 0, hi =>
      obtain rfl : IAE = E := Option.some.inj hi
      exact gx_catch (x := ⟨0, 17, 20, 13⟩) (pre := []) (suf := []) (i := 4) (pa := 22) (pb := 23) (v := 1) (by simp [a_E]) rfl (fun _ h => absurd h List.not_mem_nil) (by decide) (by decide) cx_Law_13 ca_IllegalArgumentException (Or.inl ⟨k_Law_stands_20, rfl⟩) (by decide) k_Law_stands_22 rfl rfl k_Law_stands_23 rfl (hq _ _ ⟨g', hR, rfl, rfl⟩)
    | i + 1, hi => simp at hi
theorem s_Law_way {K : aK} {d bc bs : Nat} {g : aG} {m m' : aM} {x1 x2 x3 : Int32} {r : oX} {w t : Int32} {R : aG → Prop} (k0 : g.2.1 0 = (19, 10)) (C : SpG K M_Led_way d bc bs [.ref 0, .int x1, .int x2, .int x3] (g, m) (o_out r) m' R) (ho : ∀ g', R g' → g'.2.1 8692 = (2, 1)) (hco : Co [IAE] r w t) : SpR K M_Law_way (d + 1) bc bs [.ref 0, .int x1, .int x2, .int x3, .ref 8692] (g, m) (fun v h' => ∃ g', R g' ∧ v = some (.int t) ∧ h' = (gO Int32.toInt64 g' r, m')) := by
  intro Q hq
  refine run_ofH ok_Law_way (by decide) (Nat.le_of_ble_eq_true rfl) (by simp [Value.category]) ?_
  refine g_aload k_Law_way_0 rfl ?_
  refine g_iconst (v := 0) k_Law_way_2 rfl ?_
  refine g_aload_n k_Law_way_3 rfl rfl ?_
  refine g_iload_n k_Law_way_4 rfl rfl ?_
  refine g_iload_n k_Law_way_5 rfl rfl ?_
  refine g_iload_n k_Law_way_6 rfl rfl ?_
  refine g_invv (bc' := bc) (bs' := bs) k_Law_way_7 lv_Law_58 (by decide +kernel) (av := [.int x1, .int x2, .int x3]) (rest := [.int 0, .ref 8692]) rfl k0 (T := F_Led) (N := 10) (ci := 9) rfl (by simp [Value.category]) (by simp [Value.category]) (Nat.le_refl _) (Nat.le_refl _) (C _ (fun g' hR => ?_))
  cases r with
  | inl y =>
    obtain ⟨rfl, -⟩ := hco
    have ho := ho g' hR
    show G K M_Law_way _ _ _ (7 + 3) _ [.int y, .int 0, .ref 8692] (g', m') Q
    refine g_i2l k_Law_way_10 ?_
    refine g_last k_Law_way_11 ho in01 ?_
    refine g_goto (tgt := 19) k_Law_way_12 (by decide) ?_
    refine g_iconst (v := 0) k_Law_way_19 rfl ?_
    refine g_iret k_Law_way_20 rfl ?_
    exact hq _ _ ⟨g', hR, rfl, rfl⟩
  | inr E =>
    obtain ⟨i, hi, rfl⟩ := hco
    show GX K M_Law_way _ _ _ 7 _ (g', m') E Q
    match i, hi with
    | 0, hi =>
      obtain rfl : IAE = E := Option.some.inj hi
      exact gx_catch (x := ⟨0, 12, 15, 13⟩) (pre := []) (suf := []) (i := 5) (pa := 17) (pb := 18) (v := 1) (by simp [a_E]) rfl (fun _ h => absurd h List.not_mem_nil) (by decide) (by decide) cx_Law_13 ca_IllegalArgumentException (Or.inl ⟨k_Law_way_15, rfl⟩) (by decide) k_Law_way_17 rfl rfl k_Law_way_18 rfl (hq _ _ ⟨g', hR, rfl, rfl⟩)
    | i + 1, hi => simp at hi
theorem s_Law_fewest {K : aK} {d bc bs : Nat} {g : aG} {m m' : aM} {x1 x2 : Int32} {r : oX} {w t : Int32} {R : aG → Prop} (k0 : g.2.1 0 = (19, 10)) (C : SpG K M_Led_fewest d bc bs [.ref 0, .int x1, .int x2] (g, m) (o_out r) m' R) (ho : ∀ g', R g' → g'.2.1 8692 = (2, 1)) (hco : Co [IAE] r w t) : SpR K M_Law_fewest (d + 1) bc bs [.ref 0, .int x1, .int x2, .ref 8692] (g, m) (fun v h' => ∃ g', R g' ∧ v = some (.int t) ∧ h' = (gO Int32.toInt64 g' r, m')) := by
  intro Q hq
  refine run_ofH ok_Law_fewest (by decide) (Nat.le_of_ble_eq_true rfl) (by simp [Value.category]) ?_
  refine g_aload_n k_Law_fewest_0 rfl rfl ?_
  refine g_iconst (v := 0) k_Law_fewest_1 rfl ?_
  refine g_aload_n k_Law_fewest_2 rfl rfl ?_
  refine g_iload_n k_Law_fewest_3 rfl rfl ?_
  refine g_iload_n k_Law_fewest_4 rfl rfl ?_
  refine g_invv (bc' := bc) (bs' := bs) k_Law_fewest_5 lv_Law_61 (by decide +kernel) (av := [.int x1, .int x2]) (rest := [.int 0, .ref 8692]) rfl k0 (T := F_Led) (N := 10) (ci := 9) rfl (by simp [Value.category]) (by simp [Value.category]) (Nat.le_refl _) (Nat.le_refl _) (C _ (fun g' hR => ?_))
  cases r with
  | inl y =>
    obtain ⟨rfl, -⟩ := hco
    have ho := ho g' hR
    show G K M_Law_fewest _ _ _ (5 + 3) _ [.int y, .int 0, .ref 8692] (g', m') Q
    refine g_i2l k_Law_fewest_8 ?_
    refine g_last k_Law_fewest_9 ho in01 ?_
    refine g_goto (tgt := 17) k_Law_fewest_10 (by decide) ?_
    refine g_iconst (v := 0) k_Law_fewest_17 rfl ?_
    refine g_iret k_Law_fewest_18 rfl ?_
    exact hq _ _ ⟨g', hR, rfl, rfl⟩
  | inr E =>
    obtain ⟨i, hi, rfl⟩ := hco
    show GX K M_Law_fewest _ _ _ 5 _ (g', m') E Q
    match i, hi with
    | 0, hi =>
      obtain rfl : IAE = E := Option.some.inj hi
      exact gx_catch (x := ⟨0, 10, 13, 13⟩) (pre := []) (suf := []) (i := 4) (pa := 15) (pb := 16) (v := 1) (by simp [a_E]) rfl (fun _ h => absurd h List.not_mem_nil) (by decide) (by decide) cx_Law_13 ca_IllegalArgumentException (Or.inl ⟨k_Law_fewest_13, rfl⟩) (by decide) k_Law_fewest_15 rfl rfl k_Law_fewest_16 rfl (hq _ _ ⟨g', hR, rfl, rfl⟩)
    | i + 1, hi => simp at hi
theorem s_Law_isBack {K : aK} {d bc bs : Nat} {g : aG} {m m' : aM} {x1 x2 : Int32} {r : oX} {w t : Int32} {R : aG → Prop} (k0 : g.2.1 0 = (19, 10)) (C : SpG K M_Led_isBack d bc bs [.ref 0, .int x1, .int x2] (g, m) (o_out r) m' R) (ho : ∀ g', R g' → g'.2.1 8692 = (2, 1)) (hco : Co [IAE] r w t) : SpR K M_Law_isBack (d + 1) bc bs [.ref 0, .int x1, .int x2, .ref 8692] (g, m) (fun v h' => ∃ g', R g' ∧ v = some (.int t) ∧ h' = (gO zL g' r, m')) := by
  intro Q hq
  refine run_ofH ok_Law_isBack (by decide) (Nat.le_of_ble_eq_true rfl) (by simp [Value.category]) ?_
  refine g_aload_n k_Law_isBack_0 rfl rfl ?_
  refine g_iconst (v := 0) k_Law_isBack_1 rfl ?_
  refine g_aload_n k_Law_isBack_2 rfl rfl ?_
  refine g_iload_n k_Law_isBack_3 rfl rfl ?_
  refine g_iload_n k_Law_isBack_4 rfl rfl ?_
  refine g_invv (bc' := bc) (bs' := bs) k_Law_isBack_5 lv_Law_64 (by decide +kernel) (av := [.int x1, .int x2]) (rest := [.int 0, .ref 8692]) rfl k0 (T := F_Led) (N := 10) (ci := 9) rfl (by simp [Value.category]) (by simp [Value.category]) (Nat.le_refl _) (Nat.le_refl _) (C _ (fun g' hR => ?_))
  cases r with
  | inl y =>
    obtain ⟨rfl, -⟩ := hco
    have ho := ho g' hR
    show G K M_Law_isBack _ _ _ (5 + 3) _ [.int y, .int 0, .ref 8692] (g', m') Q
    refine g_if_eq (tgt := 15) k_Law_isBack_8 (by decide) (fun c => ?_) (fun c => ?_)
    · refine g_lconst (v := 0) k_Law_isBack_15 rfl ?_
      refine g_last k_Law_isBack_16 ho in01 ?_
      refine g_goto (tgt := 24) k_Law_isBack_17 (by decide) ?_
      refine g_iconst (v := 0) k_Law_isBack_24 rfl ?_
      refine g_iret k_Law_isBack_25 rfl ?_
      exact hq _ _ ⟨g', hR, rfl, by simp only [gO, zL, c, ite_true]; rfl⟩
    · refine g_lconst (v := 1) k_Law_isBack_11 rfl ?_
      refine g_goto (tgt := 16) k_Law_isBack_12 (by decide) ?_
      refine g_last k_Law_isBack_16 ho in01 ?_
      refine g_goto (tgt := 24) k_Law_isBack_17 (by decide) ?_
      refine g_iconst (v := 0) k_Law_isBack_24 rfl ?_
      refine g_iret k_Law_isBack_25 rfl ?_
      exact hq _ _ ⟨g', hR, rfl, by simp only [gO, zL, c, ite_false]; rfl⟩
  | inr E =>
    obtain ⟨i, hi, rfl⟩ := hco
    show GX K M_Law_isBack _ _ _ 5 _ (g', m') E Q
    match i, hi with
    | 0, hi =>
      obtain rfl : IAE = E := Option.some.inj hi
      exact gx_catch (x := ⟨0, 17, 20, 13⟩) (pre := []) (suf := []) (i := 4) (pa := 22) (pb := 23) (v := 1) (by simp [a_E]) rfl (fun _ h => absurd h List.not_mem_nil) (by decide) (by decide) cx_Law_13 ca_IllegalArgumentException (Or.inl ⟨k_Law_isBack_20, rfl⟩) (by decide) k_Law_isBack_22 rfl rfl k_Law_isBack_23 rfl (hq _ _ ⟨g', hR, rfl, rfl⟩)
    | i + 1, hi => simp at hi
theorem s_Law_last {K : aK} {d bc bs : Nat} {g : aG} {m m' : aM} {x1 x2 : Int32} {r : oX} {w t : Int32} {R : aG → Prop} (k0 : g.2.1 0 = (19, 10)) (C : SpG K M_Led_last d bc bs [.ref 0, .int x1, .int x2] (g, m) (o_out r) m' R) (ho : ∀ g', R g' → g'.2.1 8692 = (2, 1)) (hco : Co [IAE] r w t) : SpR K M_Law_last (d + 1) bc bs [.ref 0, .int x1, .int x2, .ref 8692] (g, m) (fun v h' => ∃ g', R g' ∧ v = some (.int t) ∧ h' = (gO Int32.toInt64 g' r, m')) := by
  intro Q hq
  refine run_ofH ok_Law_last (by decide) (Nat.le_of_ble_eq_true rfl) (by simp [Value.category]) ?_
  refine g_aload_n k_Law_last_0 rfl rfl ?_
  refine g_iconst (v := 0) k_Law_last_1 rfl ?_
  refine g_aload_n k_Law_last_2 rfl rfl ?_
  refine g_iload_n k_Law_last_3 rfl rfl ?_
  refine g_iload_n k_Law_last_4 rfl rfl ?_
  refine g_invv (bc' := bc) (bs' := bs) k_Law_last_5 lv_Law_67 (by decide +kernel) (av := [.int x1, .int x2]) (rest := [.int 0, .ref 8692]) rfl k0 (T := F_Led) (N := 10) (ci := 9) rfl (by simp [Value.category]) (by simp [Value.category]) (Nat.le_refl _) (Nat.le_refl _) (C _ (fun g' hR => ?_))
  cases r with
  | inl y =>
    obtain ⟨rfl, -⟩ := hco
    have ho := ho g' hR
    show G K M_Law_last _ _ _ (5 + 3) _ [.int y, .int 0, .ref 8692] (g', m') Q
    refine g_i2l k_Law_last_8 ?_
    refine g_last k_Law_last_9 ho in01 ?_
    refine g_goto (tgt := 17) k_Law_last_10 (by decide) ?_
    refine g_iconst (v := 0) k_Law_last_17 rfl ?_
    refine g_iret k_Law_last_18 rfl ?_
    exact hq _ _ ⟨g', hR, rfl, rfl⟩
  | inr E =>
    obtain ⟨i, hi, rfl⟩ := hco
    show GX K M_Law_last _ _ _ 5 _ (g', m') E Q
    match i, hi with
    | 0, hi =>
      obtain rfl : IAE = E := Option.some.inj hi
      exact gx_catch (x := ⟨0, 10, 13, 13⟩) (pre := []) (suf := []) (i := 4) (pa := 15) (pb := 16) (v := 1) (by simp [a_E]) rfl (fun _ h => absurd h List.not_mem_nil) (by decide) (by decide) cx_Law_13 ca_IllegalArgumentException (Or.inl ⟨k_Law_last_13, rfl⟩) (by decide) k_Law_last_15 rfl rfl k_Law_last_16 rfl (hq _ _ ⟨g', hR, rfl, rfl⟩)
    | i + 1, hi => simp at hi
theorem s_Law_insert {K : aK} {d bc bs : Nat} {g : aG} {m m' : aM} {x1 : Int32} {r : oX} {w t : Int32} {R : aG → Prop} (k0 : g.2.1 0 = (19, 10)) (C : SpG K M_Led_insert d bc bs [.ref 0, .int x1] (g, m) (o_out r) m' R) (ho : ∀ g', R g' → g'.2.1 8692 = (2, 1)) (hco : Co [IOB] r w t) : SpR K M_Law_insert (d + 1) bc bs [.ref 0, .int x1, .ref 8692] (g, m) (fun v h' => ∃ g', R g' ∧ v = some (.int t) ∧ h' = (gO Int32.toInt64 g' r, m')) := by
  intro Q hq
  refine run_ofH ok_Law_insert (by decide) (Nat.le_of_ble_eq_true rfl) (by simp [Value.category]) ?_
  refine g_aload_n k_Law_insert_0 rfl rfl ?_
  refine g_iconst (v := 0) k_Law_insert_1 rfl ?_
  refine g_aload_n k_Law_insert_2 rfl rfl ?_
  refine g_iload_n k_Law_insert_3 rfl rfl ?_
  refine g_invv (bc' := bc) (bs' := bs) k_Law_insert_4 lv_Law_70 (by decide +kernel) (av := [.int x1]) (rest := [.int 0, .ref 8692]) rfl k0 (T := F_Led) (N := 10) (ci := 9) rfl (by simp [Value.category]) (by simp [Value.category]) (Nat.le_refl _) (Nat.le_refl _) (C _ (fun g' hR => ?_))
  cases r with
  | inl y =>
    obtain ⟨rfl, -⟩ := hco
    have ho := ho g' hR
    show G K M_Law_insert _ _ _ (4 + 3) _ [.int y, .int 0, .ref 8692] (g', m') Q
    refine g_i2l k_Law_insert_7 ?_
    refine g_last k_Law_insert_8 ho in01 ?_
    refine g_goto (tgt := 15) k_Law_insert_9 (by decide) ?_
    refine g_iconst (v := 0) k_Law_insert_15 rfl ?_
    refine g_iret k_Law_insert_16 rfl ?_
    exact hq _ _ ⟨g', hR, rfl, rfl⟩
  | inr E =>
    obtain ⟨i, hi, rfl⟩ := hco
    show GX K M_Law_insert _ _ _ 4 _ (g', m') E Q
    match i, hi with
    | 0, hi =>
      obtain rfl : IOB = E := Option.some.inj hi
      exact gx_catch (x := ⟨0, 9, 12, 49⟩) (pre := []) (suf := []) (i := 3) (pa := 13) (pb := 14) (v := 1) (by simp [a_E]) rfl (fun _ h => absurd h List.not_mem_nil) (by decide) (by decide) cx_Law_49 ca_IndexOutOfBoundsException (Or.inr ⟨3, k_Law_insert_12, rfl, rfl⟩) (by decide) k_Law_insert_13 rfl rfl k_Law_insert_14 rfl (hq _ _ ⟨g', hR, rfl, rfl⟩)
    | i + 1, hi => simp at hi
theorem s_Law_delete {K : aK} {d bc bs : Nat} {g : aG} {m m' : aM} {x1 : Int32} {r : oX} {w t : Int32} {R : aG → Prop} (k0 : g.2.1 0 = (19, 10)) (C : SpG K M_Led_delete d bc bs [.ref 0, .int x1] (g, m) (o_out r) m' R) (ho : ∀ g', R g' → g'.2.1 8692 = (2, 1)) (hco : Co [IOB] r w t) : SpR K M_Law_delete (d + 1) bc bs [.ref 0, .int x1, .ref 8692] (g, m) (fun v h' => ∃ g', R g' ∧ v = some (.int t) ∧ h' = (gO zL g' r, m')) := by
  intro Q hq
  refine run_ofH ok_Law_delete (by decide) (Nat.le_of_ble_eq_true rfl) (by simp [Value.category]) ?_
  refine g_aload_n k_Law_delete_0 rfl rfl ?_
  refine g_iconst (v := 0) k_Law_delete_1 rfl ?_
  refine g_aload_n k_Law_delete_2 rfl rfl ?_
  refine g_iload_n k_Law_delete_3 rfl rfl ?_
  refine g_invv (bc' := bc) (bs' := bs) k_Law_delete_4 lv_Law_73 (by decide +kernel) (av := [.int x1]) (rest := [.int 0, .ref 8692]) rfl k0 (T := F_Led) (N := 10) (ci := 9) rfl (by simp [Value.category]) (by simp [Value.category]) (Nat.le_refl _) (Nat.le_refl _) (C _ (fun g' hR => ?_))
  cases r with
  | inl y =>
    obtain ⟨rfl, -⟩ := hco
    have ho := ho g' hR
    show G K M_Law_delete _ _ _ (4 + 3) _ [.int y, .int 0, .ref 8692] (g', m') Q
    refine g_if_eq (tgt := 14) k_Law_delete_7 (by decide) (fun c => ?_) (fun c => ?_)
    · refine g_lconst (v := 0) k_Law_delete_14 rfl ?_
      refine g_last k_Law_delete_15 ho in01 ?_
      refine g_goto (tgt := 22) k_Law_delete_16 (by decide) ?_
      refine g_iconst (v := 0) k_Law_delete_22 rfl ?_
      refine g_iret k_Law_delete_23 rfl ?_
      exact hq _ _ ⟨g', hR, rfl, by simp only [gO, zL, c, ite_true]; rfl⟩
    · refine g_lconst (v := 1) k_Law_delete_10 rfl ?_
      refine g_goto (tgt := 15) k_Law_delete_11 (by decide) ?_
      refine g_last k_Law_delete_15 ho in01 ?_
      refine g_goto (tgt := 22) k_Law_delete_16 (by decide) ?_
      refine g_iconst (v := 0) k_Law_delete_22 rfl ?_
      refine g_iret k_Law_delete_23 rfl ?_
      exact hq _ _ ⟨g', hR, rfl, by simp only [gO, zL, c, ite_false]; rfl⟩
  | inr E =>
    obtain ⟨i, hi, rfl⟩ := hco
    show GX K M_Law_delete _ _ _ 4 _ (g', m') E Q
    match i, hi with
    | 0, hi =>
      obtain rfl : IOB = E := Option.some.inj hi
      exact gx_catch (x := ⟨0, 16, 19, 49⟩) (pre := []) (suf := []) (i := 3) (pa := 20) (pb := 21) (v := 1) (by simp [a_E]) rfl (fun _ h => absurd h List.not_mem_nil) (by decide) (by decide) cx_Law_49 ca_IndexOutOfBoundsException (Or.inr ⟨3, k_Law_delete_19, rfl, rfl⟩) (by decide) k_Law_delete_20 rfl rfl k_Law_delete_21 rfl (hq _ _ ⟨g', hR, rfl, rfl⟩)
    | i + 1, hi => simp at hi
theorem s_Law_read {K : aK} {d bc bs : Nat} {g : aG} {m m' : aM} {x1 x2 x3 x4 : Int32} {r : oX} {w t : Int32} {R : aG → Prop} (k0 : g.2.1 0 = (19, 10)) (C : SpG K M_Led_read d bc bs [.ref 0, .int x1, .int x2, .int x3, .int x4] (g, m) (o_out r) m' R) (ho : ∀ g', R g' → g'.2.1 8692 = (2, 1)) (hco : Co [IOB, IAE, NSE] r w t) : SpR K M_Law_read (d + 1) bc bs [.ref 0, .int x1, .int x2, .int x3, .int x4, .ref 8692] (g, m) (fun v h' => ∃ g', R g' ∧ v = some (.int t) ∧ h' = (gO Int32.toInt64 g' r, m')) := by
  intro Q hq
  refine run_ofH ok_Law_read (by decide) (Nat.le_of_ble_eq_true rfl) (by simp [Value.category]) ?_
  refine g_aload k_Law_read_0 rfl ?_
  refine g_iconst (v := 0) k_Law_read_2 rfl ?_
  refine g_aload_n k_Law_read_3 rfl rfl ?_
  refine g_iload_n k_Law_read_4 rfl rfl ?_
  refine g_iload_n k_Law_read_5 rfl rfl ?_
  refine g_iload_n k_Law_read_6 rfl rfl ?_
  refine g_iload k_Law_read_7 rfl ?_
  refine g_invv (bc' := bc) (bs' := bs) k_Law_read_9 lv_Law_77 (by decide +kernel) (av := [.int x1, .int x2, .int x3, .int x4]) (rest := [.int 0, .ref 8692]) rfl k0 (T := F_Led) (N := 10) (ci := 9) rfl (by simp [Value.category]) (by simp [Value.category]) (Nat.le_refl _) (Nat.le_refl _) (C _ (fun g' hR => ?_))
  cases r with
  | inl y =>
    obtain ⟨rfl, -⟩ := hco
    have ho := ho g' hR
    show G K M_Law_read _ _ _ (9 + 3) _ [.int y, .int 0, .ref 8692] (g', m') Q
    refine g_i2l k_Law_read_12 ?_
    refine g_last k_Law_read_13 ho in01 ?_
    refine g_goto (tgt := 29) k_Law_read_14 (by decide) ?_
    refine g_iconst (v := 0) k_Law_read_29 rfl ?_
    refine g_iret k_Law_read_30 rfl ?_
    exact hq _ _ ⟨g', hR, rfl, rfl⟩
  | inr E =>
    obtain ⟨i, hi, rfl⟩ := hco
    show GX K M_Law_read _ _ _ 9 _ (g', m') E Q
    match i, hi with
    | 0, hi =>
      obtain rfl : IOB = E := Option.some.inj hi
      exact gx_catch (x := ⟨0, 14, 17, 49⟩) (pre := []) (suf := [⟨0, 14, 21, 13⟩, ⟨0, 14, 25, 40⟩]) (i := 6) (pa := 19) (pb := 20) (v := 1) (by simp [a_E]) rfl (fun _ h => absurd h List.not_mem_nil) (by decide) (by decide) cx_Law_49 ca_IndexOutOfBoundsException (Or.inl ⟨k_Law_read_17, rfl⟩) (by decide) k_Law_read_19 rfl rfl k_Law_read_20 rfl (hq _ _ ⟨g', hR, rfl, rfl⟩)
    | 1, hi =>
      obtain rfl : IAE = E := Option.some.inj hi
      exact gx_catch (x := ⟨0, 14, 21, 13⟩) (pre := [⟨0, 14, 17, 49⟩]) (suf := [⟨0, 14, 25, 40⟩]) (i := 6) (pa := 23) (pb := 24) (v := 2) (by simp [a_E]) rfl (List.forall_mem_cons.mpr ⟨Or.inr ⟨by decide, IOB, by simp [a_E], by decide, cx_Law_49⟩, fun _ h => absurd h List.not_mem_nil⟩) (by decide) (by decide) cx_Law_13 ca_IllegalArgumentException (Or.inl ⟨k_Law_read_21, rfl⟩) (by decide) k_Law_read_23 rfl rfl k_Law_read_24 rfl (hq _ _ ⟨g', hR, rfl, rfl⟩)
    | 2, hi =>
      obtain rfl : NSE = E := Option.some.inj hi
      exact gx_catch (x := ⟨0, 14, 25, 40⟩) (pre := [⟨0, 14, 17, 49⟩, ⟨0, 14, 21, 13⟩]) (suf := []) (i := 6) (pa := 27) (pb := 28) (v := 3) (by simp [a_E]) rfl (List.forall_mem_cons.mpr ⟨Or.inr ⟨by decide, IOB, by simp [a_E], by decide, cx_Law_49⟩, List.forall_mem_cons.mpr ⟨Or.inr ⟨by decide, IAE, by simp [a_E], by decide, cx_Law_13⟩, fun _ h => absurd h List.not_mem_nil⟩⟩) (by decide) (by decide) cx_Law_40 ca_NoSuchElementException (Or.inl ⟨k_Law_read_25, rfl⟩) (by decide) k_Law_read_27 rfl rfl k_Law_read_28 rfl (hq _ _ ⟨g', hR, rfl, rfl⟩)
    | i + 3, hi => simp at hi
theorem s_Law_write {K : aK} {d bc bs : Nat} {g : aG} {m m' : aM} {x1 x2 x3 x4 x5 : Int32} {r : oX} {w t : Int32} {R : aG → Prop} (k0 : g.2.1 0 = (19, 10)) (C : SpG K M_Led_write d bc bs [.ref 0, .int x1, .int x2, .int x3, .int x4, .int x5] (g, m) (o_out r) m' R) (ho : ∀ g', R g' → g'.2.1 8692 = (2, 1)) (hco : Co [IOB, IAE, NSE] r w t) : SpR K M_Law_write (d + 1) bc bs [.ref 0, .int x1, .int x2, .int x3, .int x4, .int x5, .ref 8692] (g, m) (fun v h' => ∃ g', R g' ∧ v = some (.int t) ∧ h' = (gO Int32.toInt64 g' r, m')) := by
  intro Q hq
  refine run_ofH ok_Law_write (by decide) (Nat.le_of_ble_eq_true rfl) (by simp [Value.category]) ?_
  refine g_aload k_Law_write_0 rfl ?_
  refine g_iconst (v := 0) k_Law_write_2 rfl ?_
  refine g_aload_n k_Law_write_3 rfl rfl ?_
  refine g_iload_n k_Law_write_4 rfl rfl ?_
  refine g_iload_n k_Law_write_5 rfl rfl ?_
  refine g_iload_n k_Law_write_6 rfl rfl ?_
  refine g_iload k_Law_write_7 rfl ?_
  refine g_iload k_Law_write_9 rfl ?_
  refine g_invv (bc' := bc) (bs' := bs) k_Law_write_11 lv_Law_81 (by decide +kernel) (av := [.int x1, .int x2, .int x3, .int x4, .int x5]) (rest := [.int 0, .ref 8692]) rfl k0 (T := F_Led) (N := 10) (ci := 9) rfl (by simp [Value.category]) (by simp [Value.category]) (Nat.le_refl _) (Nat.le_refl _) (C _ (fun g' hR => ?_))
  cases r with
  | inl y =>
    obtain ⟨rfl, -⟩ := hco
    have ho := ho g' hR
    show G K M_Law_write _ _ _ (11 + 3) _ [.int y, .int 0, .ref 8692] (g', m') Q
    refine g_i2l k_Law_write_14 ?_
    refine g_last k_Law_write_15 ho in01 ?_
    refine g_goto (tgt := 31) k_Law_write_16 (by decide) ?_
    refine g_iconst (v := 0) k_Law_write_31 rfl ?_
    refine g_iret k_Law_write_32 rfl ?_
    exact hq _ _ ⟨g', hR, rfl, rfl⟩
  | inr E =>
    obtain ⟨i, hi, rfl⟩ := hco
    show GX K M_Law_write _ _ _ 11 _ (g', m') E Q
    match i, hi with
    | 0, hi =>
      obtain rfl : IOB = E := Option.some.inj hi
      exact gx_catch (x := ⟨0, 16, 19, 49⟩) (pre := []) (suf := [⟨0, 16, 23, 13⟩, ⟨0, 16, 27, 40⟩]) (i := 7) (pa := 21) (pb := 22) (v := 1) (by simp [a_E]) rfl (fun _ h => absurd h List.not_mem_nil) (by decide) (by decide) cx_Law_49 ca_IndexOutOfBoundsException (Or.inl ⟨k_Law_write_19, rfl⟩) (by decide) k_Law_write_21 rfl rfl k_Law_write_22 rfl (hq _ _ ⟨g', hR, rfl, rfl⟩)
    | 1, hi =>
      obtain rfl : IAE = E := Option.some.inj hi
      exact gx_catch (x := ⟨0, 16, 23, 13⟩) (pre := [⟨0, 16, 19, 49⟩]) (suf := [⟨0, 16, 27, 40⟩]) (i := 7) (pa := 25) (pb := 26) (v := 2) (by simp [a_E]) rfl (List.forall_mem_cons.mpr ⟨Or.inr ⟨by decide, IOB, by simp [a_E], by decide, cx_Law_49⟩, fun _ h => absurd h List.not_mem_nil⟩) (by decide) (by decide) cx_Law_13 ca_IllegalArgumentException (Or.inl ⟨k_Law_write_23, rfl⟩) (by decide) k_Law_write_25 rfl rfl k_Law_write_26 rfl (hq _ _ ⟨g', hR, rfl, rfl⟩)
    | 2, hi =>
      obtain rfl : NSE = E := Option.some.inj hi
      exact gx_catch (x := ⟨0, 16, 27, 40⟩) (pre := [⟨0, 16, 19, 49⟩, ⟨0, 16, 23, 13⟩]) (suf := []) (i := 7) (pa := 29) (pb := 30) (v := 3) (by simp [a_E]) rfl (List.forall_mem_cons.mpr ⟨Or.inr ⟨by decide, IOB, by simp [a_E], by decide, cx_Law_49⟩, List.forall_mem_cons.mpr ⟨Or.inr ⟨by decide, IAE, by simp [a_E], by decide, cx_Law_13⟩, fun _ h => absurd h List.not_mem_nil⟩⟩) (by decide) (by decide) cx_Law_40 ca_NoSuchElementException (Or.inl ⟨k_Law_write_27, rfl⟩) (by decide) k_Law_write_29 rfl rfl k_Law_write_30 rfl (hq _ _ ⟨g', hR, rfl, rfl⟩)
    | i + 3, hi => simp at hi
theorem s_Law_first {K : aK} {d bc bs : Nat} {g : aG} {m m' : aM} {x1 : Int32} {r : oX} {w t : Int32} {R : aG → Prop} (k0 : g.2.1 0 = (19, 10)) (C : SpG K M_Led_first d bc bs [.ref 0, .int x1] (g, m) (o_out r) m' R) (ho : ∀ g', R g' → g'.2.1 8692 = (2, 1)) (hco : Co [IAE] r w t) : SpR K M_Law_first (d + 1) bc bs [.ref 0, .int x1, .ref 8692] (g, m) (fun v h' => ∃ g', R g' ∧ v = some (.int t) ∧ h' = (gO Int32.toInt64 g' r, m')) := by
  intro Q hq
  refine run_ofH ok_Law_first (by decide) (Nat.le_of_ble_eq_true rfl) (by simp [Value.category]) ?_
  refine g_aload_n k_Law_first_0 rfl rfl ?_
  refine g_iconst (v := 0) k_Law_first_1 rfl ?_
  refine g_aload_n k_Law_first_2 rfl rfl ?_
  refine g_iload_n k_Law_first_3 rfl rfl ?_
  refine g_invv (bc' := bc) (bs' := bs) k_Law_first_4 lv_Law_84 (by decide +kernel) (av := [.int x1]) (rest := [.int 0, .ref 8692]) rfl k0 (T := F_Led) (N := 10) (ci := 9) rfl (by simp [Value.category]) (by simp [Value.category]) (Nat.le_refl _) (Nat.le_refl _) (C _ (fun g' hR => ?_))
  cases r with
  | inl y =>
    obtain ⟨rfl, -⟩ := hco
    have ho := ho g' hR
    show G K M_Law_first _ _ _ (4 + 3) _ [.int y, .int 0, .ref 8692] (g', m') Q
    refine g_i2l k_Law_first_7 ?_
    refine g_last k_Law_first_8 ho in01 ?_
    refine g_goto (tgt := 15) k_Law_first_9 (by decide) ?_
    refine g_iconst (v := 0) k_Law_first_15 rfl ?_
    refine g_iret k_Law_first_16 rfl ?_
    exact hq _ _ ⟨g', hR, rfl, rfl⟩
  | inr E =>
    obtain ⟨i, hi, rfl⟩ := hco
    show GX K M_Law_first _ _ _ 4 _ (g', m') E Q
    match i, hi with
    | 0, hi =>
      obtain rfl : IAE = E := Option.some.inj hi
      exact gx_catch (x := ⟨0, 9, 12, 13⟩) (pre := []) (suf := []) (i := 3) (pa := 13) (pb := 14) (v := 1) (by simp [a_E]) rfl (fun _ h => absurd h List.not_mem_nil) (by decide) (by decide) cx_Law_13 ca_IllegalArgumentException (Or.inr ⟨3, k_Law_first_12, rfl, rfl⟩) (by decide) k_Law_first_13 rfl rfl k_Law_first_14 rfl (hq _ _ ⟨g', hR, rfl, rfl⟩)
    | i + 1, hi => simp at hi
theorem s_Law_tick {K : aK} {d bc bs : Nat} {g : aG} {m m' : aM} {x1 : Int32} {r : oX} {w t : Int32} {R : aG → Prop} (k0 : g.2.1 0 = (19, 10)) (C : SpG K M_Led_tick d bc bs [.ref 0, .int x1] (g, m) (o_out r) m' R) (ho : ∀ g', R g' → g'.2.1 8692 = (2, 1)) (hco : Co [IAE, ISE] r w t) : SpR K M_Law_tick (d + 1) bc bs [.ref 0, .int x1, .ref 8692] (g, m) (fun v h' => ∃ g', R g' ∧ v = some (.int t) ∧ h' = (gO Int32.toInt64 g' r, m')) := by
  intro Q hq
  refine run_ofH ok_Law_tick (by decide) (Nat.le_of_ble_eq_true rfl) (by simp [Value.category]) ?_
  refine g_aload_n k_Law_tick_0 rfl rfl ?_
  refine g_iconst (v := 0) k_Law_tick_1 rfl ?_
  refine g_aload_n k_Law_tick_2 rfl rfl ?_
  refine g_iload_n k_Law_tick_3 rfl rfl ?_
  refine g_invv (bc' := bc) (bs' := bs) k_Law_tick_4 lv_Law_87 (by decide +kernel) (av := [.int x1]) (rest := [.int 0, .ref 8692]) rfl k0 (T := F_Led) (N := 10) (ci := 9) rfl (by simp [Value.category]) (by simp [Value.category]) (Nat.le_refl _) (Nat.le_refl _) (C _ (fun g' hR => ?_))
  cases r with
  | inl y =>
    obtain ⟨rfl, -⟩ := hco
    have ho := ho g' hR
    show G K M_Law_tick _ _ _ (4 + 3) _ [.int y, .int 0, .ref 8692] (g', m') Q
    refine g_i2l k_Law_tick_7 ?_
    refine g_last k_Law_tick_8 ho in01 ?_
    refine g_goto (tgt := 18) k_Law_tick_9 (by decide) ?_
    refine g_iconst (v := 0) k_Law_tick_18 rfl ?_
    refine g_iret k_Law_tick_19 rfl ?_
    exact hq _ _ ⟨g', hR, rfl, rfl⟩
  | inr E =>
    obtain ⟨i, hi, rfl⟩ := hco
    show GX K M_Law_tick _ _ _ 4 _ (g', m') E Q
    match i, hi with
    | 0, hi =>
      obtain rfl : IAE = E := Option.some.inj hi
      exact gx_catch (x := ⟨0, 9, 12, 13⟩) (pre := []) (suf := [⟨0, 9, 15, 15⟩]) (i := 3) (pa := 13) (pb := 14) (v := 1) (by simp [a_E]) rfl (fun _ h => absurd h List.not_mem_nil) (by decide) (by decide) cx_Law_13 ca_IllegalArgumentException (Or.inr ⟨3, k_Law_tick_12, rfl, rfl⟩) (by decide) k_Law_tick_13 rfl rfl k_Law_tick_14 rfl (hq _ _ ⟨g', hR, rfl, rfl⟩)
    | 1, hi =>
      obtain rfl : ISE = E := Option.some.inj hi
      exact gx_catch (x := ⟨0, 9, 15, 15⟩) (pre := [⟨0, 9, 12, 13⟩]) (suf := []) (i := 3) (pa := 16) (pb := 17) (v := 2) (by simp [a_E]) rfl (List.forall_mem_cons.mpr ⟨Or.inr ⟨by decide, IAE, by simp [a_E], by decide, cx_Law_13⟩, fun _ h => absurd h List.not_mem_nil⟩) (by decide) (by decide) cx_Law_15 ca_IllegalStateException (Or.inr ⟨3, k_Law_tick_15, rfl, rfl⟩) (by decide) k_Law_tick_16 rfl rfl k_Law_tick_17 rfl (hq _ _ ⟨g', hR, rfl, rfl⟩)
    | i + 2, hi => simp at hi
theorem s_Law_bite {K : aK} {d bc bs : Nat} {g : aG} {m m' : aM} {x1 : Int32} {r : oX} {w t : Int32} {R : aG → Prop} (k0 : g.2.1 0 = (19, 10)) (C : SpG K M_Led_bite d bc bs [.ref 0, .int x1] (g, m) (o_out r) m' R) (ho : ∀ g', R g' → g'.2.1 8692 = (2, 1)) (hco : Co [IAE, ISE] r w t) : SpR K M_Law_bite (d + 1) bc bs [.ref 0, .int x1, .ref 8692] (g, m) (fun v h' => ∃ g', R g' ∧ v = some (.int t) ∧ h' = (gO Int32.toInt64 g' r, m')) := by
  intro Q hq
  refine run_ofH ok_Law_bite (by decide) (Nat.le_of_ble_eq_true rfl) (by simp [Value.category]) ?_
  refine g_aload_n k_Law_bite_0 rfl rfl ?_
  refine g_iconst (v := 0) k_Law_bite_1 rfl ?_
  refine g_aload_n k_Law_bite_2 rfl rfl ?_
  refine g_iload_n k_Law_bite_3 rfl rfl ?_
  refine g_invv (bc' := bc) (bs' := bs) k_Law_bite_4 lv_Law_90 (by decide +kernel) (av := [.int x1]) (rest := [.int 0, .ref 8692]) rfl k0 (T := F_Led) (N := 10) (ci := 9) rfl (by simp [Value.category]) (by simp [Value.category]) (Nat.le_refl _) (Nat.le_refl _) (C _ (fun g' hR => ?_))
  cases r with
  | inl y =>
    obtain ⟨rfl, -⟩ := hco
    have ho := ho g' hR
    show G K M_Law_bite _ _ _ (4 + 3) _ [.int y, .int 0, .ref 8692] (g', m') Q
    refine g_i2l k_Law_bite_7 ?_
    refine g_last k_Law_bite_8 ho in01 ?_
    refine g_goto (tgt := 18) k_Law_bite_9 (by decide) ?_
    refine g_iconst (v := 0) k_Law_bite_18 rfl ?_
    refine g_iret k_Law_bite_19 rfl ?_
    exact hq _ _ ⟨g', hR, rfl, rfl⟩
  | inr E =>
    obtain ⟨i, hi, rfl⟩ := hco
    show GX K M_Law_bite _ _ _ 4 _ (g', m') E Q
    match i, hi with
    | 0, hi =>
      obtain rfl : IAE = E := Option.some.inj hi
      exact gx_catch (x := ⟨0, 9, 12, 13⟩) (pre := []) (suf := [⟨0, 9, 15, 15⟩]) (i := 3) (pa := 13) (pb := 14) (v := 1) (by simp [a_E]) rfl (fun _ h => absurd h List.not_mem_nil) (by decide) (by decide) cx_Law_13 ca_IllegalArgumentException (Or.inr ⟨3, k_Law_bite_12, rfl, rfl⟩) (by decide) k_Law_bite_13 rfl rfl k_Law_bite_14 rfl (hq _ _ ⟨g', hR, rfl, rfl⟩)
    | 1, hi =>
      obtain rfl : ISE = E := Option.some.inj hi
      exact gx_catch (x := ⟨0, 9, 15, 15⟩) (pre := [⟨0, 9, 12, 13⟩]) (suf := []) (i := 3) (pa := 16) (pb := 17) (v := 2) (by simp [a_E]) rfl (List.forall_mem_cons.mpr ⟨Or.inr ⟨by decide, IAE, by simp [a_E], by decide, cx_Law_13⟩, fun _ h => absurd h List.not_mem_nil⟩) (by decide) (by decide) cx_Law_15 ca_IllegalStateException (Or.inr ⟨3, k_Law_bite_15, rfl, rfl⟩) (by decide) k_Law_bite_16 rfl rfl k_Law_bite_17 rfl (hq _ _ ⟨g', hR, rfl, rfl⟩)
    | i + 2, hi => simp at hi
theorem s_Law_fall {K : aK} {d bc bs : Nat} {g : aG} {m m' : aM} {x1 : Int32} {r : oX} {w t : Int32} {R : aG → Prop} (k0 : g.2.1 0 = (19, 10)) (C : SpG K M_Led_fall d bc bs [.ref 0, .int x1] (g, m) (o_out r) m' R) (ho : ∀ g', R g' → g'.2.1 8692 = (2, 1)) (hco : Co [IAE] r w t) : SpR K M_Law_fall (d + 1) bc bs [.ref 0, .int x1, .ref 8692] (g, m) (fun v h' => ∃ g', R g' ∧ v = some (.int t) ∧ h' = (gO Int32.toInt64 g' r, m')) := by
  intro Q hq
  refine run_ofH ok_Law_fall (by decide) (Nat.le_of_ble_eq_true rfl) (by simp [Value.category]) ?_
  refine g_aload_n k_Law_fall_0 rfl rfl ?_
  refine g_iconst (v := 0) k_Law_fall_1 rfl ?_
  refine g_aload_n k_Law_fall_2 rfl rfl ?_
  refine g_iload_n k_Law_fall_3 rfl rfl ?_
  refine g_invv (bc' := bc) (bs' := bs) k_Law_fall_4 lv_Law_93 (by decide +kernel) (av := [.int x1]) (rest := [.int 0, .ref 8692]) rfl k0 (T := F_Led) (N := 10) (ci := 9) rfl (by simp [Value.category]) (by simp [Value.category]) (Nat.le_refl _) (Nat.le_refl _) (C _ (fun g' hR => ?_))
  cases r with
  | inl y =>
    obtain ⟨rfl, -⟩ := hco
    have ho := ho g' hR
    show G K M_Law_fall _ _ _ (4 + 3) _ [.int y, .int 0, .ref 8692] (g', m') Q
    refine g_i2l k_Law_fall_7 ?_
    refine g_last k_Law_fall_8 ho in01 ?_
    refine g_goto (tgt := 15) k_Law_fall_9 (by decide) ?_
    refine g_iconst (v := 0) k_Law_fall_15 rfl ?_
    refine g_iret k_Law_fall_16 rfl ?_
    exact hq _ _ ⟨g', hR, rfl, rfl⟩
  | inr E =>
    obtain ⟨i, hi, rfl⟩ := hco
    show GX K M_Law_fall _ _ _ 4 _ (g', m') E Q
    match i, hi with
    | 0, hi =>
      obtain rfl : IAE = E := Option.some.inj hi
      exact gx_catch (x := ⟨0, 9, 12, 13⟩) (pre := []) (suf := []) (i := 3) (pa := 13) (pb := 14) (v := 1) (by simp [a_E]) rfl (fun _ h => absurd h List.not_mem_nil) (by decide) (by decide) cx_Law_13 ca_IllegalArgumentException (Or.inr ⟨3, k_Law_fall_12, rfl, rfl⟩) (by decide) k_Law_fall_13 rfl rfl k_Law_fall_14 rfl (hq _ _ ⟨g', hR, rfl, rfl⟩)
    | i + 1, hi => simp at hi
theorem s_Law_row {K : aK} {d bc bs : Nat} {g : aG} {m m' : aM} {x1 x2 : Int32} {r : oX} {w t : Int32} {R : aG → Prop} (k0 : g.2.1 0 = (19, 10)) (C : SpG K M_Led_row d bc bs [.ref 0, .int x1, .int x2] (g, m) (o_out r) m' R) (ho : ∀ g', R g' → g'.2.1 8692 = (2, 1)) (hco : Co [IOB, IAE] r w t) : SpR K M_Law_row (d + 1) bc bs [.ref 0, .int x1, .int x2, .ref 8692] (g, m) (fun v h' => ∃ g', R g' ∧ v = some (.int t) ∧ h' = (gO Int32.toInt64 g' r, m')) := by
  intro Q hq
  refine run_ofH ok_Law_row (by decide) (Nat.le_of_ble_eq_true rfl) (by simp [Value.category]) ?_
  refine g_aload_n k_Law_row_0 rfl rfl ?_
  refine g_iconst (v := 0) k_Law_row_1 rfl ?_
  refine g_aload_n k_Law_row_2 rfl rfl ?_
  refine g_iload_n k_Law_row_3 rfl rfl ?_
  refine g_iload_n k_Law_row_4 rfl rfl ?_
  refine g_invv (bc' := bc) (bs' := bs) k_Law_row_5 lv_Law_96 (by decide +kernel) (av := [.int x1, .int x2]) (rest := [.int 0, .ref 8692]) rfl k0 (T := F_Led) (N := 10) (ci := 9) rfl (by simp [Value.category]) (by simp [Value.category]) (Nat.le_refl _) (Nat.le_refl _) (C _ (fun g' hR => ?_))
  cases r with
  | inl y =>
    obtain ⟨rfl, -⟩ := hco
    have ho := ho g' hR
    show G K M_Law_row _ _ _ (5 + 3) _ [.int y, .int 0, .ref 8692] (g', m') Q
    refine g_i2l k_Law_row_8 ?_
    refine g_last k_Law_row_9 ho in01 ?_
    refine g_goto (tgt := 21) k_Law_row_10 (by decide) ?_
    refine g_iconst (v := 0) k_Law_row_21 rfl ?_
    refine g_iret k_Law_row_22 rfl ?_
    exact hq _ _ ⟨g', hR, rfl, rfl⟩
  | inr E =>
    obtain ⟨i, hi, rfl⟩ := hco
    show GX K M_Law_row _ _ _ 5 _ (g', m') E Q
    match i, hi with
    | 0, hi =>
      obtain rfl : IOB = E := Option.some.inj hi
      exact gx_catch (x := ⟨0, 10, 13, 49⟩) (pre := []) (suf := [⟨0, 10, 17, 13⟩]) (i := 4) (pa := 15) (pb := 16) (v := 1) (by simp [a_E]) rfl (fun _ h => absurd h List.not_mem_nil) (by decide) (by decide) cx_Law_49 ca_IndexOutOfBoundsException (Or.inl ⟨k_Law_row_13, rfl⟩) (by decide) k_Law_row_15 rfl rfl k_Law_row_16 rfl (hq _ _ ⟨g', hR, rfl, rfl⟩)
    | 1, hi =>
      obtain rfl : IAE = E := Option.some.inj hi
      exact gx_catch (x := ⟨0, 10, 17, 13⟩) (pre := [⟨0, 10, 13, 49⟩]) (suf := []) (i := 4) (pa := 19) (pb := 20) (v := 2) (by simp [a_E]) rfl (List.forall_mem_cons.mpr ⟨Or.inr ⟨by decide, IOB, by simp [a_E], by decide, cx_Law_49⟩, fun _ h => absurd h List.not_mem_nil⟩) (by decide) (by decide) cx_Law_13 ca_IllegalArgumentException (Or.inl ⟨k_Law_row_17, rfl⟩) (by decide) k_Law_row_19 rfl rfl k_Law_row_20 rfl (hq _ _ ⟨g', hR, rfl, rfl⟩)
    | i + 2, hi => simp at hi
theorem s_Law_quiet {K : aK} {d bc bs : Nat} {g : aG} {m m' : aM} {x1 : Int32} {r : oX} {w t : Int32} {R : aG → Prop} (k0 : g.2.1 0 = (19, 10)) (C : SpG K M_Led_quiet d bc bs [.ref 0, .int x1] (g, m) (o_out r) m' R) (ho : ∀ g', R g' → g'.2.1 8692 = (2, 1)) (hco : Co [IAE] r w t) : SpR K M_Law_quiet (d + 1) bc bs [.ref 0, .int x1, .ref 8692] (g, m) (fun v h' => ∃ g', R g' ∧ v = some (.int t) ∧ h' = (gO Int32.toInt64 g' r, m')) := by
  intro Q hq
  refine run_ofH ok_Law_quiet (by decide) (Nat.le_of_ble_eq_true rfl) (by simp [Value.category]) ?_
  refine g_aload_n k_Law_quiet_0 rfl rfl ?_
  refine g_iconst (v := 0) k_Law_quiet_1 rfl ?_
  refine g_aload_n k_Law_quiet_2 rfl rfl ?_
  refine g_iload_n k_Law_quiet_3 rfl rfl ?_
  refine g_invv (bc' := bc) (bs' := bs) k_Law_quiet_4 lv_Law_99 (by decide +kernel) (av := [.int x1]) (rest := [.int 0, .ref 8692]) rfl k0 (T := F_Led) (N := 10) (ci := 9) rfl (by simp [Value.category]) (by simp [Value.category]) (Nat.le_refl _) (Nat.le_refl _) (C _ (fun g' hR => ?_))
  cases r with
  | inl y =>
    obtain ⟨rfl, -⟩ := hco
    have ho := ho g' hR
    show G K M_Law_quiet _ _ _ (4 + 3) _ [.int y, .int 0, .ref 8692] (g', m') Q
    refine g_i2l k_Law_quiet_7 ?_
    refine g_last k_Law_quiet_8 ho in01 ?_
    refine g_goto (tgt := 15) k_Law_quiet_9 (by decide) ?_
    refine g_iconst (v := 0) k_Law_quiet_15 rfl ?_
    refine g_iret k_Law_quiet_16 rfl ?_
    exact hq _ _ ⟨g', hR, rfl, rfl⟩
  | inr E =>
    obtain ⟨i, hi, rfl⟩ := hco
    show GX K M_Law_quiet _ _ _ 4 _ (g', m') E Q
    match i, hi with
    | 0, hi =>
      obtain rfl : IAE = E := Option.some.inj hi
      exact gx_catch (x := ⟨0, 9, 12, 13⟩) (pre := []) (suf := []) (i := 3) (pa := 13) (pb := 14) (v := 1) (by simp [a_E]) rfl (fun _ h => absurd h List.not_mem_nil) (by decide) (by decide) cx_Law_13 ca_IllegalArgumentException (Or.inr ⟨3, k_Law_quiet_12, rfl, rfl⟩) (by decide) k_Law_quiet_13 rfl rfl k_Law_quiet_14 rfl (hq _ _ ⟨g', hR, rfl, rfl⟩)
    | i + 1, hi => simp at hi
theorem s_Law_asked {K : aK} {d bc bs : Nat} {g : aG} {m m' : aM} {x1 x2 x3 x4 : Int32} {r : oX} {w t : Int32} {R : aG → Prop} (k0 : g.2.1 0 = (19, 10)) (C : SpG K M_Led_asked d bc bs [.ref 0, .int x1, .int x2, .int x3, .int x4] (g, m) (o_out r) m' R) (ho : ∀ g', R g' → g'.2.1 8692 = (2, 1)) (hco : Co [IAE] r w t) : SpR K M_Law_asked (d + 1) bc bs [.ref 0, .int x1, .int x2, .int x3, .int x4, .ref 8692] (g, m) (fun v h' => ∃ g', R g' ∧ v = some (.int t) ∧ h' = (gO Int32.toInt64 g' r, m')) := by
  intro Q hq
  refine run_ofH ok_Law_asked (by decide) (Nat.le_of_ble_eq_true rfl) (by simp [Value.category]) ?_
  refine g_aload k_Law_asked_0 rfl ?_
  refine g_iconst (v := 0) k_Law_asked_2 rfl ?_
  refine g_aload_n k_Law_asked_3 rfl rfl ?_
  refine g_iload_n k_Law_asked_4 rfl rfl ?_
  refine g_iload_n k_Law_asked_5 rfl rfl ?_
  refine g_iload_n k_Law_asked_6 rfl rfl ?_
  refine g_iload k_Law_asked_7 rfl ?_
  refine g_invv (bc' := bc) (bs' := bs) k_Law_asked_9 lv_Law_102 (by decide +kernel) (av := [.int x1, .int x2, .int x3, .int x4]) (rest := [.int 0, .ref 8692]) rfl k0 (T := F_Led) (N := 10) (ci := 9) rfl (by simp [Value.category]) (by simp [Value.category]) (Nat.le_refl _) (Nat.le_refl _) (C _ (fun g' hR => ?_))
  cases r with
  | inl y =>
    obtain ⟨rfl, -⟩ := hco
    have ho := ho g' hR
    show G K M_Law_asked _ _ _ (9 + 3) _ [.int y, .int 0, .ref 8692] (g', m') Q
    refine g_i2l k_Law_asked_12 ?_
    refine g_last k_Law_asked_13 ho in01 ?_
    refine g_goto (tgt := 21) k_Law_asked_14 (by decide) ?_
    refine g_iconst (v := 0) k_Law_asked_21 rfl ?_
    refine g_iret k_Law_asked_22 rfl ?_
    exact hq _ _ ⟨g', hR, rfl, rfl⟩
  | inr E =>
    obtain ⟨i, hi, rfl⟩ := hco
    show GX K M_Law_asked _ _ _ 9 _ (g', m') E Q
    match i, hi with
    | 0, hi =>
      obtain rfl : IAE = E := Option.some.inj hi
      exact gx_catch (x := ⟨0, 14, 17, 13⟩) (pre := []) (suf := []) (i := 6) (pa := 19) (pb := 20) (v := 1) (by simp [a_E]) rfl (fun _ h => absurd h List.not_mem_nil) (by decide) (by decide) cx_Law_13 ca_IllegalArgumentException (Or.inl ⟨k_Law_asked_17, rfl⟩) (by decide) k_Law_asked_19 rfl rfl k_Law_asked_20 rfl (hq _ _ ⟨g', hR, rfl, rfl⟩)
    | i + 1, hi => simp at hi
theorem s_Law_still {K : aK} {d bc bs : Nat} {g : aG} {m m' : aM} {x1 x2 : Int32} {r : oX} {w t : Int32} {R : aG → Prop} (k0 : g.2.1 0 = (19, 10)) (C : SpG K M_Led_still d bc bs [.ref 0, .int x1, .int x2] (g, m) (o_out r) m' R) (ho : ∀ g', R g' → g'.2.1 8692 = (2, 1)) (hco : Co [IAE] r w t) : SpR K M_Law_still (d + 1) bc bs [.ref 0, .int x1, .int x2, .ref 8692] (g, m) (fun v h' => ∃ g', R g' ∧ v = some (.int t) ∧ h' = (gO Int32.toInt64 g' r, m')) := by
  intro Q hq
  refine run_ofH ok_Law_still (by decide) (Nat.le_of_ble_eq_true rfl) (by simp [Value.category]) ?_
  refine g_aload_n k_Law_still_0 rfl rfl ?_
  refine g_iconst (v := 0) k_Law_still_1 rfl ?_
  refine g_aload_n k_Law_still_2 rfl rfl ?_
  refine g_iload_n k_Law_still_3 rfl rfl ?_
  refine g_iload_n k_Law_still_4 rfl rfl ?_
  refine g_invv (bc' := bc) (bs' := bs) k_Law_still_5 lv_Law_106 (by decide +kernel) (av := [.int x1, .int x2]) (rest := [.int 0, .ref 8692]) rfl k0 (T := F_Led) (N := 10) (ci := 9) rfl (by simp [Value.category]) (by simp [Value.category]) (Nat.le_refl _) (Nat.le_refl _) (C _ (fun g' hR => ?_))
  cases r with
  | inl y =>
    obtain ⟨rfl, -⟩ := hco
    have ho := ho g' hR
    show G K M_Law_still _ _ _ (5 + 3) _ [.int y, .int 0, .ref 8692] (g', m') Q
    refine g_i2l k_Law_still_8 ?_
    refine g_last k_Law_still_9 ho in01 ?_
    refine g_goto (tgt := 17) k_Law_still_10 (by decide) ?_
    refine g_iconst (v := 0) k_Law_still_17 rfl ?_
    refine g_iret k_Law_still_18 rfl ?_
    exact hq _ _ ⟨g', hR, rfl, rfl⟩
  | inr E =>
    obtain ⟨i, hi, rfl⟩ := hco
    show GX K M_Law_still _ _ _ 5 _ (g', m') E Q
    match i, hi with
    | 0, hi =>
      obtain rfl : IAE = E := Option.some.inj hi
      exact gx_catch (x := ⟨0, 10, 13, 13⟩) (pre := []) (suf := []) (i := 4) (pa := 15) (pb := 16) (v := 1) (by simp [a_E]) rfl (fun _ h => absurd h List.not_mem_nil) (by decide) (by decide) cx_Law_13 ca_IllegalArgumentException (Or.inl ⟨k_Law_still_13, rfl⟩) (by decide) k_Law_still_15 rfl rfl k_Law_still_16 rfl (hq _ _ ⟨g', hR, rfl, rfl⟩)
    | i + 1, hi => simp at hi
theorem s_Law_sum {K : aK} {d bc bs : Nat} {g : aG} {m m' : aM} {x1 x2 : Int32} {r : oX} {w t : Int32} {R : aG → Prop} (k0 : g.2.1 0 = (19, 10)) (C : SpG K M_Led_sum d bc bs [.ref 0, .int x1, .int x2] (g, m) (o_out r) m' R) (ho : ∀ g', R g' → g'.2.1 8692 = (2, 1)) (hco : Co [IOB, IAE] r w t) : SpR K M_Law_sum (d + 1) bc bs [.ref 0, .int x1, .int x2, .ref 8692] (g, m) (fun v h' => ∃ g', R g' ∧ v = some (.int t) ∧ h' = (gO Int32.toInt64 g' r, m')) := by
  intro Q hq
  refine run_ofH ok_Law_sum (by decide) (Nat.le_of_ble_eq_true rfl) (by simp [Value.category]) ?_
  refine g_aload_n k_Law_sum_0 rfl rfl ?_
  refine g_iconst (v := 0) k_Law_sum_1 rfl ?_
  refine g_aload_n k_Law_sum_2 rfl rfl ?_
  refine g_iload_n k_Law_sum_3 rfl rfl ?_
  refine g_iload_n k_Law_sum_4 rfl rfl ?_
  refine g_invv (bc' := bc) (bs' := bs) k_Law_sum_5 lv_Law_109 (by decide +kernel) (av := [.int x1, .int x2]) (rest := [.int 0, .ref 8692]) rfl k0 (T := F_Led) (N := 10) (ci := 9) rfl (by simp [Value.category]) (by simp [Value.category]) (Nat.le_refl _) (Nat.le_refl _) (C _ (fun g' hR => ?_))
  cases r with
  | inl y =>
    obtain ⟨rfl, -⟩ := hco
    have ho := ho g' hR
    show G K M_Law_sum _ _ _ (5 + 3) _ [.int y, .int 0, .ref 8692] (g', m') Q
    refine g_i2l k_Law_sum_8 ?_
    refine g_last k_Law_sum_9 ho in01 ?_
    refine g_goto (tgt := 21) k_Law_sum_10 (by decide) ?_
    refine g_iconst (v := 0) k_Law_sum_21 rfl ?_
    refine g_iret k_Law_sum_22 rfl ?_
    exact hq _ _ ⟨g', hR, rfl, rfl⟩
  | inr E =>
    obtain ⟨i, hi, rfl⟩ := hco
    show GX K M_Law_sum _ _ _ 5 _ (g', m') E Q
    match i, hi with
    | 0, hi =>
      obtain rfl : IOB = E := Option.some.inj hi
      exact gx_catch (x := ⟨0, 10, 13, 49⟩) (pre := []) (suf := [⟨0, 10, 17, 13⟩]) (i := 4) (pa := 15) (pb := 16) (v := 1) (by simp [a_E]) rfl (fun _ h => absurd h List.not_mem_nil) (by decide) (by decide) cx_Law_49 ca_IndexOutOfBoundsException (Or.inl ⟨k_Law_sum_13, rfl⟩) (by decide) k_Law_sum_15 rfl rfl k_Law_sum_16 rfl (hq _ _ ⟨g', hR, rfl, rfl⟩)
    | 1, hi =>
      obtain rfl : IAE = E := Option.some.inj hi
      exact gx_catch (x := ⟨0, 10, 17, 13⟩) (pre := [⟨0, 10, 13, 49⟩]) (suf := []) (i := 4) (pa := 19) (pb := 20) (v := 2) (by simp [a_E]) rfl (List.forall_mem_cons.mpr ⟨Or.inr ⟨by decide, IOB, by simp [a_E], by decide, cx_Law_49⟩, fun _ h => absurd h List.not_mem_nil⟩) (by decide) (by decide) cx_Law_13 ca_IllegalArgumentException (Or.inl ⟨k_Law_sum_17, rfl⟩) (by decide) k_Law_sum_19 rfl rfl k_Law_sum_20 rfl (hq _ _ ⟨g', hR, rfl, rfl⟩)
    | i + 2, hi => simp at hi
theorem s_Law_halves {K : aK} {d bc bs : Nat} {g : aG} {m m' : aM} {x1 x2 : Int32} {r : oX} {w t : Int32} {R : aG → Prop} (k0 : g.2.1 0 = (19, 10)) (C : SpG K M_Led_halves d bc bs [.ref 0, .int x1, .int x2] (g, m) (o_out r) m' R) (ho : ∀ g', R g' → g'.2.1 8692 = (2, 1)) (hco : Co [IOB, IAE] r w t) : SpR K M_Law_halves (d + 1) bc bs [.ref 0, .int x1, .int x2, .ref 8692] (g, m) (fun v h' => ∃ g', R g' ∧ v = some (.int t) ∧ h' = (gO Int32.toInt64 g' r, m')) := by
  intro Q hq
  refine run_ofH ok_Law_halves (by decide) (Nat.le_of_ble_eq_true rfl) (by simp [Value.category]) ?_
  refine g_aload_n k_Law_halves_0 rfl rfl ?_
  refine g_iconst (v := 0) k_Law_halves_1 rfl ?_
  refine g_aload_n k_Law_halves_2 rfl rfl ?_
  refine g_iload_n k_Law_halves_3 rfl rfl ?_
  refine g_iload_n k_Law_halves_4 rfl rfl ?_
  refine g_invv (bc' := bc) (bs' := bs) k_Law_halves_5 lv_Law_112 (by decide +kernel) (av := [.int x1, .int x2]) (rest := [.int 0, .ref 8692]) rfl k0 (T := F_Led) (N := 10) (ci := 9) rfl (by simp [Value.category]) (by simp [Value.category]) (Nat.le_refl _) (Nat.le_refl _) (C _ (fun g' hR => ?_))
  cases r with
  | inl y =>
    obtain ⟨rfl, -⟩ := hco
    have ho := ho g' hR
    show G K M_Law_halves _ _ _ (5 + 3) _ [.int y, .int 0, .ref 8692] (g', m') Q
    refine g_i2l k_Law_halves_8 ?_
    refine g_last k_Law_halves_9 ho in01 ?_
    refine g_goto (tgt := 21) k_Law_halves_10 (by decide) ?_
    refine g_iconst (v := 0) k_Law_halves_21 rfl ?_
    refine g_iret k_Law_halves_22 rfl ?_
    exact hq _ _ ⟨g', hR, rfl, rfl⟩
  | inr E =>
    obtain ⟨i, hi, rfl⟩ := hco
    show GX K M_Law_halves _ _ _ 5 _ (g', m') E Q
    match i, hi with
    | 0, hi =>
      obtain rfl : IOB = E := Option.some.inj hi
      exact gx_catch (x := ⟨0, 10, 13, 49⟩) (pre := []) (suf := [⟨0, 10, 17, 13⟩]) (i := 4) (pa := 15) (pb := 16) (v := 1) (by simp [a_E]) rfl (fun _ h => absurd h List.not_mem_nil) (by decide) (by decide) cx_Law_49 ca_IndexOutOfBoundsException (Or.inl ⟨k_Law_halves_13, rfl⟩) (by decide) k_Law_halves_15 rfl rfl k_Law_halves_16 rfl (hq _ _ ⟨g', hR, rfl, rfl⟩)
    | 1, hi =>
      obtain rfl : IAE = E := Option.some.inj hi
      exact gx_catch (x := ⟨0, 10, 17, 13⟩) (pre := [⟨0, 10, 13, 49⟩]) (suf := []) (i := 4) (pa := 19) (pb := 20) (v := 2) (by simp [a_E]) rfl (List.forall_mem_cons.mpr ⟨Or.inr ⟨by decide, IOB, by simp [a_E], by decide, cx_Law_49⟩, fun _ h => absurd h List.not_mem_nil⟩) (by decide) (by decide) cx_Law_13 ca_IllegalArgumentException (Or.inl ⟨k_Law_halves_17, rfl⟩) (by decide) k_Law_halves_19 rfl rfl k_Law_halves_20 rfl (hq _ _ ⟨g', hR, rfl, rfl⟩)
    | i + 2, hi => simp at hi
theorem s_Law_mend {K : aK} {d bc bs : Nat} {g : aG} {m m' : aM} {x1 : Int32} {r : oX} {w t : Int32} {R : aG → Prop} (k0 : g.2.1 0 = (19, 10)) (C : SpG K M_Led_mend d bc bs [.ref 0, .int x1] (g, m) (o_out r) m' R) (ho : ∀ g', R g' → g'.2.1 8692 = (2, 1)) (hco : Co [IOB, NSE] r w t) : SpR K M_Law_mend (d + 1) bc bs [.ref 0, .int x1, .ref 8692] (g, m) (fun v h' => ∃ g', R g' ∧ v = some (.int t) ∧ h' = (gO zL g' r, m')) := by
  intro Q hq
  refine run_ofH ok_Law_mend (by decide) (Nat.le_of_ble_eq_true rfl) (by simp [Value.category]) ?_
  refine g_aload_n k_Law_mend_0 rfl rfl ?_
  refine g_iconst (v := 0) k_Law_mend_1 rfl ?_
  refine g_aload_n k_Law_mend_2 rfl rfl ?_
  refine g_iload_n k_Law_mend_3 rfl rfl ?_
  refine g_invv (bc' := bc) (bs' := bs) k_Law_mend_4 lv_Law_115 (by decide +kernel) (av := [.int x1]) (rest := [.int 0, .ref 8692]) rfl k0 (T := F_Led) (N := 10) (ci := 9) rfl (by simp [Value.category]) (by simp [Value.category]) (Nat.le_refl _) (Nat.le_refl _) (C _ (fun g' hR => ?_))
  cases r with
  | inl y =>
    obtain ⟨rfl, -⟩ := hco
    have ho := ho g' hR
    show G K M_Law_mend _ _ _ (4 + 3) _ [.int y, .int 0, .ref 8692] (g', m') Q
    refine g_if_eq (tgt := 14) k_Law_mend_7 (by decide) (fun c => ?_) (fun c => ?_)
    · refine g_lconst (v := 0) k_Law_mend_14 rfl ?_
      refine g_last k_Law_mend_15 ho in01 ?_
      refine g_goto (tgt := 25) k_Law_mend_16 (by decide) ?_
      refine g_iconst (v := 0) k_Law_mend_25 rfl ?_
      refine g_iret k_Law_mend_26 rfl ?_
      exact hq _ _ ⟨g', hR, rfl, by simp only [gO, zL, c, ite_true]; rfl⟩
    · refine g_lconst (v := 1) k_Law_mend_10 rfl ?_
      refine g_goto (tgt := 15) k_Law_mend_11 (by decide) ?_
      refine g_last k_Law_mend_15 ho in01 ?_
      refine g_goto (tgt := 25) k_Law_mend_16 (by decide) ?_
      refine g_iconst (v := 0) k_Law_mend_25 rfl ?_
      refine g_iret k_Law_mend_26 rfl ?_
      exact hq _ _ ⟨g', hR, rfl, by simp only [gO, zL, c, ite_false]; rfl⟩
  | inr E =>
    obtain ⟨i, hi, rfl⟩ := hco
    show GX K M_Law_mend _ _ _ 4 _ (g', m') E Q
    match i, hi with
    | 0, hi =>
      obtain rfl : IOB = E := Option.some.inj hi
      exact gx_catch (x := ⟨0, 16, 19, 49⟩) (pre := []) (suf := [⟨0, 16, 22, 40⟩]) (i := 3) (pa := 20) (pb := 21) (v := 1) (by simp [a_E]) rfl (fun _ h => absurd h List.not_mem_nil) (by decide) (by decide) cx_Law_49 ca_IndexOutOfBoundsException (Or.inr ⟨3, k_Law_mend_19, rfl, rfl⟩) (by decide) k_Law_mend_20 rfl rfl k_Law_mend_21 rfl (hq _ _ ⟨g', hR, rfl, rfl⟩)
    | 1, hi =>
      obtain rfl : NSE = E := Option.some.inj hi
      exact gx_catch (x := ⟨0, 16, 22, 40⟩) (pre := [⟨0, 16, 19, 49⟩]) (suf := []) (i := 3) (pa := 23) (pb := 24) (v := 2) (by simp [a_E]) rfl (List.forall_mem_cons.mpr ⟨Or.inr ⟨by decide, IOB, by simp [a_E], by decide, cx_Law_49⟩, fun _ h => absurd h List.not_mem_nil⟩) (by decide) (by decide) cx_Law_40 ca_NoSuchElementException (Or.inr ⟨3, k_Law_mend_22, rfl, rfl⟩) (by decide) k_Law_mend_23 rfl rfl k_Law_mend_24 rfl (hq _ _ ⟨g', hR, rfl, rfl⟩)
    | i + 2, hi => simp at hi
