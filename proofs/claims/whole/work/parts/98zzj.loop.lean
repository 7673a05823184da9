/-! THE LAW'S LOOP (made by wip/gen/loop.py) -/
theorem LI.skip {n bc bs : Nat} {g : aG} {m : aM} (I : LI (n + 1) g m bc bs) : LI n g m bc bs := I.st I.1 (Or.inr (fun _ _ _ => rfl)) (fun _ _ _ _ => rfl) (by omega) (by omega)
theorem lw_sw {K : aK} {d bc bs n F : Nat} {g : aG} {m : aM} {Q : aQ} {i x : Int32} (hF : 20000 ≤ F) (hd : 600 ≤ d) (hi : rdO K i) (I : LI (n + 1) g m bc bs) (hk : LK K d n i Q) : G K M_Law_law (d + 2) bc bs 40 (lwL i (.double 0) (.double 0)) [.int x] (g, m) Q := by
  by_cases c : x.toInt < 0 ∨ 38 < x.toInt
  · refine g_tabOut (tgt := 2591) k_Law_law_40 c (by decide) ?_
    exact hk _ _ _ _ I.skip
  by_cases c0 : x.toInt = 0
  · refine g_tabIn (off := 172) (tgt := 212) k_Law_law_40 (by omega) (by omega) (by rw [c0]; rfl) (by decide) ?_
    exact lc_feed hF hd hi I hk
  by_cases c1 : x.toInt = 1
  · refine g_tabIn (off := 245) (tgt := 285) k_Law_law_40 (by omega) (by omega) (by rw [c1]; rfl) (by decide) ?_
    exact lc_lens hF hd hi I hk
  by_cases c2 : x.toInt = 2
  · refine g_tabIn (off := 301) (tgt := 341) k_Law_law_40 (by omega) (by omega) (by rw [c2]; rfl) (by decide) ?_
    exact lc_fault hF hd hi I hk
  by_cases c3 : x.toInt = 3
  · refine g_tabIn (off := 314) (tgt := 354) k_Law_law_40 (by omega) (by omega) (by rw [c3]; rfl) (by decide) ?_
    exact lc_see hF hd hi I hk
  by_cases c4 : x.toInt = 4
  · refine g_tabIn (off := 418) (tgt := 458) k_Law_law_40 (by omega) (by omega) (by rw [c4]; rfl) (by decide) ?_
    exact lc_put hF hd hi I hk
  by_cases c5 : x.toInt = 5
  · refine g_tabIn (off := 536) (tgt := 576) k_Law_law_40 (by omega) (by omega) (by rw [c5]; rfl) (by decide) ?_
    exact lc_box hF hd hi I hk
  by_cases c6 : x.toInt = 6
  · refine g_tabIn (off := 596) (tgt := 636) k_Law_law_40 (by omega) (by omega) (by rw [c6]; rfl) (by decide) ?_
    exact lc_agree hF hd hi I hk
  by_cases c7 : x.toInt = 7
  · refine g_tabIn (off := 664) (tgt := 704) k_Law_law_40 (by omega) (by omega) (by rw [c7]; rfl) (by decide) ?_
    exact lc_unlike hF hd hi I hk
  by_cases c8 : x.toInt = 8
  · refine g_tabIn (off := 720) (tgt := 760) k_Law_law_40 (by omega) (by omega) (by rw [c8]; rfl) (by decide) ?_
    exact lc_lost hF hd hi I hk
  by_cases c9 : x.toInt = 9
  · refine g_tabIn (off := 733) (tgt := 773) k_Law_law_40 (by omega) (by omega) (by rw [c9]; rfl) (by decide) ?_
    exact lc_wrong hF hd hi I hk
  by_cases c10 : x.toInt = 10
  · refine g_tabIn (off := 746) (tgt := 786) k_Law_law_40 (by omega) (by omega) (by rw [c10]; rfl) (by decide) ?_
    exact lc_change hF hd hi I hk
  by_cases c11 : x.toInt = 11
  · refine g_tabIn (off := 759) (tgt := 799) k_Law_law_40 (by omega) (by omega) (by rw [c11]; rfl) (by decide) ?_
    exact lc_hold hF hd hi I hk
  by_cases c12 : x.toInt = 12
  · refine g_tabIn (off := 839) (tgt := 879) k_Law_law_40 (by omega) (by omega) (by rw [c12]; rfl) (by decide) ?_
    exact lc_order hF hd hi I hk
  by_cases c13 : x.toInt = 13
  · refine g_tabIn (off := 935) (tgt := 975) k_Law_law_40 (by omega) (by omega) (by rw [c13]; rfl) (by decide) ?_
    exact lc_program hF hd hi I hk
  by_cases c14 : x.toInt = 14
  · refine g_tabIn (off := 948) (tgt := 988) k_Law_law_40 (by omega) (by omega) (by rw [c14]; rfl) (by decide) ?_
    exact lc_need hF hd hi I hk
  by_cases c15 : x.toInt = 15
  · refine g_tabIn (off := 1028) (tgt := 1068) k_Law_law_40 (by omega) (by omega) (by rw [c15]; rfl) (by decide) ?_
    exact lc_price hF hd hi I hk
  by_cases c16 : x.toInt = 16
  · refine g_tabIn (off := 1096) (tgt := 1136) k_Law_law_40 (by omega) (by omega) (by rw [c16]; rfl) (by decide) ?_
    exact lc_stands hF hd hi I hk
  by_cases c17 : x.toInt = 17
  · refine g_tabIn (off := 1171) (tgt := 1211) k_Law_law_40 (by omega) (by omega) (by rw [c17]; rfl) (by decide) ?_
    exact lc_way hF hd hi I hk
  by_cases c18 : x.toInt = 18
  · refine g_tabIn (off := 1251) (tgt := 1291) k_Law_law_40 (by omega) (by omega) (by rw [c18]; rfl) (by decide) ?_
    exact lc_fewest hF hd hi I hk
  by_cases c19 : x.toInt = 19
  · refine g_tabIn (off := 1319) (tgt := 1359) k_Law_law_40 (by omega) (by omega) (by rw [c19]; rfl) (by decide) ?_
    exact lc_isBack hF hd hi I hk
  by_cases c20 : x.toInt = 20
  · refine g_tabIn (off := 1394) (tgt := 1434) k_Law_law_40 (by omega) (by omega) (by rw [c20]; rfl) (by decide) ?_
    exact lc_last hF hd hi I hk
  by_cases c21 : x.toInt = 21
  · refine g_tabIn (off := 1462) (tgt := 1502) k_Law_law_40 (by omega) (by omega) (by rw [c21]; rfl) (by decide) ?_
    exact lc_go hF hd hi I hk
  by_cases c22 : x.toInt = 22
  · refine g_tabIn (off := 1475) (tgt := 1515) k_Law_law_40 (by omega) (by omega) (by rw [c22]; rfl) (by decide) ?_
    exact lc_back hF hd hi I hk
  by_cases c23 : x.toInt = 23
  · refine g_tabIn (off := 1488) (tgt := 1528) k_Law_law_40 (by omega) (by omega) (by rw [c23]; rfl) (by decide) ?_
    exact lc_insert hF hd hi I hk
  by_cases c24 : x.toInt = 24
  · refine g_tabIn (off := 1544) (tgt := 1584) k_Law_law_40 (by omega) (by omega) (by rw [c24]; rfl) (by decide) ?_
    exact lc_delete hF hd hi I hk
  by_cases c25 : x.toInt = 25
  · refine g_tabIn (off := 1607) (tgt := 1647) k_Law_law_40 (by omega) (by omega) (by rw [c25]; rfl) (by decide) ?_
    exact lc_read hF hd hi I hk
  by_cases c26 : x.toInt = 26
  · refine g_tabIn (off := 1699) (tgt := 1739) k_Law_law_40 (by omega) (by omega) (by rw [c26]; rfl) (by decide) ?_
    exact lc_write hF hd hi I hk
  by_cases c27 : x.toInt = 27
  · refine g_tabIn (off := 1803) (tgt := 1843) k_Law_law_40 (by omega) (by omega) (by rw [c27]; rfl) (by decide) ?_
    exact lc_first hF hd hi I hk
  by_cases c28 : x.toInt = 28
  · refine g_tabIn (off := 1859) (tgt := 1899) k_Law_law_40 (by omega) (by omega) (by rw [c28]; rfl) (by decide) ?_
    exact lc_tick hF hd hi I hk
  by_cases c29 : x.toInt = 29
  · refine g_tabIn (off := 1915) (tgt := 1955) k_Law_law_40 (by omega) (by omega) (by rw [c29]; rfl) (by decide) ?_
    exact lc_bite hF hd hi I hk
  by_cases c30 : x.toInt = 30
  · refine g_tabIn (off := 1971) (tgt := 2011) k_Law_law_40 (by omega) (by omega) (by rw [c30]; rfl) (by decide) ?_
    exact lc_fall hF hd hi I hk
  by_cases c31 : x.toInt = 31
  · refine g_tabIn (off := 2027) (tgt := 2067) k_Law_law_40 (by omega) (by omega) (by rw [c31]; rfl) (by decide) ?_
    exact lc_row hF hd hi I hk
  by_cases c32 : x.toInt = 32
  · refine g_tabIn (off := 2095) (tgt := 2135) k_Law_law_40 (by omega) (by omega) (by rw [c32]; rfl) (by decide) ?_
    exact lc_quiet hF hd hi I hk
  by_cases c33 : x.toInt = 33
  · refine g_tabIn (off := 2151) (tgt := 2191) k_Law_law_40 (by omega) (by omega) (by rw [c33]; rfl) (by decide) ?_
    exact lc_asked hF hd hi I hk
  by_cases c34 : x.toInt = 34
  · refine g_tabIn (off := 2259) (tgt := 2299) k_Law_law_40 (by omega) (by omega) (by rw [c34]; rfl) (by decide) ?_
    exact lc_still hF hd hi I hk
  by_cases c35 : x.toInt = 35
  · refine g_tabIn (off := 2327) (tgt := 2367) k_Law_law_40 (by omega) (by omega) (by rw [c35]; rfl) (by decide) ?_
    exact lc_sum hF hd hi I hk
  by_cases c36 : x.toInt = 36
  · refine g_tabIn (off := 2395) (tgt := 2435) k_Law_law_40 (by omega) (by omega) (by rw [c36]; rfl) (by decide) ?_
    exact lc_halves hF hd hi I hk
  by_cases c37 : x.toInt = 37
  · refine g_tabIn (off := 2463) (tgt := 2503) k_Law_law_40 (by omega) (by omega) (by rw [c37]; rfl) (by decide) ?_
    exact lc_mend hF hd hi I hk
  by_cases c38 : x.toInt = 38
  · refine g_tabIn (off := 2526) (tgt := 2566) k_Law_law_40 (by omega) (by omega) (by rw [c38]; rfl) (by decide) ?_
    exact lc_count hF hd hi I hk
  exact absurd c (by omega)
theorem lw_loop {K : aK} {d F : Nat} {Q : aQ} (hF : 20000 ≤ F) (hd : 600 ≤ d) (hL : K.2.2.2.2.1 ≤ 3584) (hq : ∀ h, Q (.inl (some (.int 1))) h) : ∀ (n k : Nat) (g : aG) (m : aM) (bc bs : Nat), n + k = 512 → LI n g m bc bs → G K M_Law_law (d + 2) bc bs 23 (lwL (nI (7 * k)) (.double 0) (.double 0)) [] (g, m) Q := by
  have hd0 : ∀ (k : Nat) (g : aG) (m : aM) (bc bs : Nat), k ≤ 512 → (7 * k + 7 ≤ K.2.2.2.2.1 → G K M_Law_law (d + 2) bc bs 33 (lwL (nI (7 * k)) (.double 0) (.double 0)) [] (g, m) Q) → G K M_Law_law (d + 2) bc bs 23 (lwL (nI (7 * k)) (.double 0) (.double 0)) [] (g, m) Q := fun k g m bc bs hk G1 => by
    refine g_iload k_Law_law_23 rfl ?_
    refine g_aload_nF k_Law_law_25 rfl rfl ?_
    refine g_slen rfl k_Law_law_26 ?_
    refine g_bipush (v := 7) k_Law_law_27 rfl ?_
    refine g_isub k_Law_law_29 ?_
    refine g_icmp_gt (tgt := 2597) k_Law_law_30 (by decide) (fun c => ?_) (fun c => ?_)
    · refine g_iconst (v := 1) k_Law_law_2597 rfl ?_
      refine g_zret k_Law_law_2598 rfl (Or.inr rfl) ?_
      exact hq _
    · refine G1 ?_
      rw [i_lt, nI_toInt (by omega)] at c
      have e : (Int32.ofNat K.2.2.2.2.1 - 7).toInt = (K.2.2.2.2.1 : Int) - 7 := by
        have e1 : (nI K.2.2.2.2.1).toInt = (K.2.2.2.2.1 : Int) := nI_toInt (by omega)
        have e2 : (7 : Int32).toInt = 7 := by decide
        have := i_sub (x := nI K.2.2.2.2.1) (y := 7) (by omega) (by omega)
        rw [e1, e2] at this
        exact this
      rw [e] at c
      omega
  intro n
  induction n with
  | zero =>
    intro k g m bc bs hn I
    exact hd0 k g m bc bs (by omega) (fun h => by omega)
  | succ n ih =>
    intro k g m bc bs hn I
    refine hd0 k g m bc bs (by omega) (fun h => ?_)
    have hi : rdO K (nI (7 * k)) := fun j h0 h6 => by
      have e1 : (nI (7 * k)).toInt = ((7 * k : Nat) : Int) := nI_toInt (by omega)
      rw [vp_in_iff, i_add (by omega) (by omega), e1]
      omega
    refine g_aload_nF k_Law_law_33 rfl rfl ?_
    refine g_iload k_Law_law_34 rfl ?_
    refine g_sld rfl k_Law_law_36 (by
      have e1 : (nI (7 * k)).toInt = ((7 * k : Nat) : Int) := nI_toInt (by omega)
      rw [vp_in_iff, e1]
      omega) ?_
    refine g_bipush (v := 63) k_Law_law_37 rfl ?_
    refine g_iand k_Law_law_39 ?_
    refine lw_sw hF hd hi I (fun g1 m1 bc1 bs1 I1 => ?_)
    refine g_iinc (v := nI (7 * (k + 1))) k_Law_law_2591 rfl (by
      show nI (7 * k) + nI 7 = _
      rw [nI_add]
      rfl) (by decide) ?_
    refine g_goto (tgt := 23) k_Law_law_2594 (by decide) ?_
    exact ih (k + 1) g1 m1 bc1 bs1 (by omega) I1
/-- the empty heap -/
def g_z0 : aG := (0, fun _ => (0, 0), fun _ _ => none, fun _ _ => 0)
theorem lw_G {K : aK} {d : Nat} {Q : aQ} (hd : 600 ≤ d) (hL : K.2.2.2.2.1 ≤ 3584) (hq : ∀ h, Q (.inl (some (.int 1))) h) : G K M_Law_law (d + 2) 601024 7293034 0 [.float 0, .double 0, .double 0, .double 0, .double 0, .double 0, .double 0] [] (g_z0, m_z0) Q := by
  obtain ⟨F, hF⟩ : ∃ F, 20000 ≤ F := ⟨20000, Nat.le_refl _⟩
  obtain ⟨w0, m1, w1, m2, e1, e2, iv, ag⟩ := i_all hF
  refine co_no (z := 0) rfl k_Law_law_0 nl_Law_8 (by decide +kernel) (by omega) (by omega) (fun g1 z1 x1 h1 n1 => ?_)
  refine g_dup k_Law_law_3 rfl ?_
  refine g_ciG (bc' := 241) (bs' := 3432) k_Law_law_4 li_Law_118 (s_Led_init F z1 h1 _ e1 (by omega) (by omega) (by omega)) rfl rfl (by simp [Value.category]) (by simp [Value.category]) (by omega) (by omega) (by omega) (fun g2 r2 => ?_)
  obtain ⟨z2, s2, f7, f8⟩ := r2
  refine g_astore_n k_Law_law_7 rfl (by decide) ?_
  refine co_no (z := 242) z2 k_Law_law_8 nl_Law_119 (by decide +kernel) (by omega) (by omega) (fun g3 z3 x3 h3 n3 => ?_)
  refine g_dup k_Law_law_11 rfl ?_
  refine g_ciG (bc' := 8449) (bs' := 105983) k_Law_law_12 li_Law_121 (s_Mod_init F z3 h3 _ e2 (by omega) (by omega) (by omega)) rfl rfl (by simp [Value.category]) (by simp [Value.category]) (by omega) (by omega) (by omega) (fun g4 r4 => ?_)
  obtain ⟨z4, s4, x4⟩ := r4
  refine g_astore_n k_Law_law_15 rfl (by decide) ?_
  refine g_iconst (v := 1) k_Law_law_16 rfl ?_
  refine co_na (t := 2) (N := 1) (z := 8692) z4 k_Law_law_17 rfl (by decide) ac_long (by decide) (by decide) (by decide) (by omega) (by omega) (fun g5 z5 x5 h5 n5 => ?_)
  refine g_astore_n k_Law_law_19 rfl (by decide) ?_
  refine g_iconst (v := 0) k_Law_law_20 rfl ?_
  refine g_istore k_Law_law_21 (by decide) ?_
  have E5 : ∀ b, b < 242 → g5.2.1 b = g2.2.1 b ∧ ∀ j, g5.2.2.1 b j = g2.2.2.1 b j := fun b hb => ⟨((x5 b (by omega)).1.trans (x4 b hb).1).trans (x3 b hb).1, fun j => (((x5 b (by omega)).2 j).trans ((x4 b hb).2 j)).trans ((x3 b hb).2 j)⟩
  have s5 : Sys g5 := s2.ext ⟨by omega, fun a ha => ⟨(E5 a (by omega)).1, fun k _ _ => (E5 a (by omega)).2 k⟩⟩ (by omega)
  have s6 : SyM g5 := s4.ext ⟨by omega, fun a ha => ⟨(x5 a (by omega)).1, fun k _ _ => (x5 a (by omega)).2 k⟩⟩ (by omega)
  have q7 : g5.2.2.1 0 7 = none := ((E5 0 (by omega)).2 7).trans f7
  have q8 : g5.2.2.1 21 8 = none := ((E5 21 (by omega)).2 8).trans f8
  refine lw_loop hF hd hL hq 512 0 g5 _ _ _ (by omega) ?_
  refine ⟨iv, ⟨s5, s6, h5, by omega⟩, ⟨1, ag, by omega, by omega, Or.inl q7⟩, Or.inl q8, fun w l h1 h2 => (by rw [q7] at h1; cases h1), by omega, 28000, 41000, by omega, fun _ => by omega, fun _ => by omega⟩
