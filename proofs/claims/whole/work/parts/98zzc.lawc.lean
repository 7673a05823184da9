theorem lc_change {K : aK} {d bc bs n F : Nat} {g : aG} {m : aM} {Q : aQ} {i : Int32} (hF : 20000 ≤ F) (hd : 600 ≤ d) (hi : rdO K i) (I : LI (n + 1) g m bc bs) (hk : LK K d n i Q) : G K M_Law_law (d + 2) bc bs 786 (lwL i (.double 0) (.double 0)) [] (g, m) Q := by
  obtain ⟨r, m1, e1, m2, e2, iv, ag⟩ := z_changeI  m I.1
  refine g_aload_n k_Law_law_786 rfl rfl ?_
  refine g_cv (bc' := 0) (bs' := 0) k_Law_law_787 lv_Law_167 (by decide +kernel) (T := F_Led) (N := 10) (ci := 9) rfl (sk_Led I.2.1.1) (s_Led_change (bc := 0) (bs := 0) I.2.1.1  m e1 (by omega)) rfl rfl (by simp [Value.category]) (by simp [Value.category]) (by omega) (by omega) (by omega) ?_
  refine g_aload_n k_Law_law_790 rfl rfl ?_
  refine g_cv (bc' := 0) (bs' := 0) k_Law_law_791 lv_Law_170 (by decide +kernel) (T := F_Mod) (N := 61) (ci := 10) rfl (sk_Mod I.2.1.2.1) (s_Mod_change (bc := 0) (bs := 0) I.2.1.2.1  _ e2) rfl rfl (by simp [Value.category]) (by simp [Value.category]) (by omega) (by omega) (by omega) ?_
  refine g_icmp_eq (tgt := 2591) k_Law_law_794 (by decide) (fun _ => ?_) (fun c => absurd rfl c)
  exact hk _ _ _ _ (I.p iv ag (by omega) (by omega))
theorem lc_hold {K : aK} {d bc bs n F : Nat} {g : aG} {m : aM} {Q : aQ} {i : Int32} (hF : 20000 ≤ F) (hd : 600 ≤ d) (hi : rdO K i) (I : LI (n + 1) g m bc bs) (hk : LK K d n i Q) : G K M_Law_law (d + 2) bc bs 799 (lwL i (.double 0) (.double 0)) [] (g, m) Q := by
  obtain ⟨r, m1, e1, v, m2, e2, co, iv, ag⟩ := z_holdI (scr K i 1) (scr K i 2) (scr K i 3) m I.1
  have C : SpG K M_Led_hold d 12 60 [.ref 0, .int (scr K i 1), .int (scr K i 2), .int (scr K i 3)] (g, m) (o_out _) _ (fun g' => g' = g) := spe_g (s_Led_hold I.2.1.1 _ _ _ m e1 (by omega) (by omega) (by omega))
  have b1 := I.2.2.2.2.2.1
  obtain ⟨pw, pl, b2, -, -⟩ := I.2.2.2.2.2.2
  refine g_aload_n k_Law_law_799 rfl rfl ?_
  refine g_rd (j := 1) k_Law_law_800 k_Law_law_801 k_Law_law_803 k_Law_law_804 k_Law_law_805 rfl rfl rfl (hi _ (by decide) (by decide)) ?_
  refine g_rd (j := 2) k_Law_law_806 k_Law_law_807 k_Law_law_809 k_Law_law_810 k_Law_law_811 rfl rfl rfl (hi _ (by decide) (by decide)) ?_
  refine g_rd (j := 3) k_Law_law_812 k_Law_law_813 k_Law_law_815 k_Law_law_816 k_Law_law_817 rfl rfl rfl (hi _ (by decide) (by decide)) ?_
  refine g_aload_n k_Law_law_818 rfl rfl ?_
  refine g_hR (bc' := 12) (bs' := 60) k_Law_law_819 lh_Law_171 (by decide +kernel) (s_Law_hold (sk_Led I.2.1.1) C (fun g' hg => by subst hg; exact I.2.1.2.2.1) co) rfl rfl (by simp [Value.category]) (by simp [Value.category]) (by omega) (by omega) (fun v' h' P => ?_)
  obtain ⟨g', rfl, rfl, rfl⟩ := P
  have S : LSy (gO Int32.toInt64 g' r) := I.2.1.gO
  refine g_istore k_Law_law_822 (by decide) ?_
  refine g_aload_n k_Law_law_824 rfl rfl ?_
  refine g_rd (j := 1) k_Law_law_825 k_Law_law_826 k_Law_law_828 k_Law_law_829 k_Law_law_830 rfl rfl rfl (hi _ (by decide) (by decide)) ?_
  refine g_rd (j := 2) k_Law_law_831 k_Law_law_832 k_Law_law_834 k_Law_law_835 k_Law_law_836 rfl rfl rfl (hi _ (by decide) (by decide)) ?_
  refine g_rd (j := 3) k_Law_law_837 k_Law_law_838 k_Law_law_840 k_Law_law_841 k_Law_law_842 rfl rfl rfl (hi _ (by decide) (by decide)) ?_
  refine g_cv (bc' := 0) (bs' := 0) k_Law_law_843 lv_Law_174 (by decide +kernel) (T := F_Mod) (N := 61) (ci := 10) rfl (sk_Mod S.2.1) (s_Mod_hold (bc := 0) (bs := 0) S.2.1 _ _ _ _ e2 (by omega)) rfl rfl (by simp [Value.category]) (by simp [Value.category]) (by omega) (by omega) (by omega) ?_
  refine g_istore k_Law_law_846 (by decide) ?_
  refine g_aload_n k_Law_law_848 rfl rfl ?_
  refine g_cv (bc' := 0) (bs' := 0) k_Law_law_849 lv_Law_132 (by decide +kernel) (T := F_Mod) (N := 61) (ci := 10) rfl (sk_Mod S.2.1) (s_Mod_thrown (bc := 0) (bs := 0) S.2.1 _ rfl) rfl rfl (by simp [Value.category]) (by simp [Value.category]) (by omega) (by omega) (by omega) ?_
  refine g_iload k_Law_law_852 rfl ?_
  refine g_icmp_eq (tgt := 859) k_Law_law_854 (by decide) (fun _ => ?_) (fun c => absurd rfl c)
  refine g_iload k_Law_law_859 rfl ?_
  rcases co_cs co (by decide) with ⟨y, rfl, h0, rfl⟩ | ⟨E, rfl, h0⟩
  · refine g_if_ne (tgt := 876) k_Law_law_861 (by decide) (fun _ => ?_) (fun c => absurd h0 c)
    refine g_aload_n k_Law_law_864 rfl rfl ?_
    refine g_iconst (v := 0) k_Law_law_865 rfl ?_
    refine g_lald k_Law_law_866 S.2.2.1 in01 ?_
    refine g_iload k_Law_law_867 rfl ?_
    refine g_i2l k_Law_law_869 ?_
    refine g_lcmp k_Law_law_870 ?_
    refine G.v (y := 0) (by rw [show (0 : Int32).toNatClampNeg = 0 from rfl, gO_rd]; exact lgc0 _) ?_
    refine g_if_eq (tgt := 876) k_Law_law_871 (by decide) (fun _ => ?_) (fun c => absurd rfl c)
    refine g_goto (tgt := 2591) k_Law_law_876 (by decide) ?_
    exact lw_w (hk _ _ _ _ ((I.p iv ag (by omega) (by omega)).ex gO_ex))
  · refine g_if_ne (tgt := 876) k_Law_law_861 (by decide) (fun c => absurd c h0) (fun _ => ?_)
    refine g_goto (tgt := 2591) k_Law_law_876 (by decide) ?_
    exact lw_w (hk _ _ _ _ ((I.p iv ag (by omega) (by omega)).ex gO_ex))
theorem lc_order {K : aK} {d bc bs n F : Nat} {g : aG} {m : aM} {Q : aQ} {i : Int32} (hF : 20000 ≤ F) (hd : 600 ≤ d) (hi : rdO K i) (I : LI (n + 1) g m bc bs) (hk : LK K d n i Q) : G K M_Law_law (d + 2) bc bs 879 (lwL i (.double 0) (.double 0)) [] (g, m) Q := by
  obtain ⟨r, m1, e1, v, m2, e2, co, iv, ag⟩ := z_orderI (scr K i 1) (scr K i 2) (bz (scr K i 3)) m I.1
  have C : SpG K M_Led_order d 12 60 [.ref 0, .int (scr K i 1), .int (scr K i 2), .int (bz (scr K i 3))] (g, m) (o_out _) _ (fun g' => g' = g) := spe_g (s_Led_order I.2.1.1 _ _ _ m e1 (by omega) (by omega) (by omega))
  have b1 := I.2.2.2.2.2.1
  obtain ⟨pw, pl, b2, -, -⟩ := I.2.2.2.2.2.2
  refine g_aload_n k_Law_law_879 rfl rfl ?_
  refine g_rd (j := 1) k_Law_law_880 k_Law_law_881 k_Law_law_883 k_Law_law_884 k_Law_law_885 rfl rfl rfl (hi _ (by decide) (by decide)) ?_
  refine g_rd (j := 2) k_Law_law_886 k_Law_law_887 k_Law_law_889 k_Law_law_890 k_Law_law_891 rfl rfl rfl (hi _ (by decide) (by decide)) ?_
  refine g_rd (j := 3) k_Law_law_892 k_Law_law_893 k_Law_law_895 k_Law_law_896 k_Law_law_897 rfl rfl rfl (hi _ (by decide) (by decide)) ?_
  refine g_bz k_Law_law_898 k_Law_law_901 k_Law_law_902 k_Law_law_905 ?_
  refine g_aload_n k_Law_law_906 rfl rfl ?_
  refine g_hR (bc' := 12) (bs' := 60) k_Law_law_907 lh_Law_175 (by decide +kernel) (s_Law_order (sk_Led I.2.1.1) C (fun g' hg => by subst hg; exact I.2.1.2.2.1) co) rfl rfl (by simp [Value.category]) (by simp [Value.category]) (by omega) (by omega) (fun v' h' P => ?_)
  obtain ⟨g', rfl, rfl, rfl⟩ := P
  have S : LSy (gO Int32.toInt64 g' r) := I.2.1.gO
  refine g_istore k_Law_law_910 (by decide) ?_
  refine g_aload_n k_Law_law_912 rfl rfl ?_
  refine g_rd (j := 1) k_Law_law_913 k_Law_law_914 k_Law_law_916 k_Law_law_917 k_Law_law_918 rfl rfl rfl (hi _ (by decide) (by decide)) ?_
  refine g_rd (j := 2) k_Law_law_919 k_Law_law_920 k_Law_law_922 k_Law_law_923 k_Law_law_924 rfl rfl rfl (hi _ (by decide) (by decide)) ?_
  refine g_rd (j := 3) k_Law_law_925 k_Law_law_926 k_Law_law_928 k_Law_law_929 k_Law_law_930 rfl rfl rfl (hi _ (by decide) (by decide)) ?_
  refine g_bz k_Law_law_931 k_Law_law_934 k_Law_law_935 k_Law_law_938 ?_
  refine g_cv (bc' := 0) (bs' := 0) k_Law_law_939 lv_Law_178 (by decide +kernel) (T := F_Mod) (N := 61) (ci := 10) rfl (sk_Mod S.2.1) (s_Mod_order (bc := 0) (bs := 0) S.2.1 _ _ _ _ e2 (by omega)) rfl rfl (by simp [Value.category]) (by simp [Value.category]) (by omega) (by omega) (by omega) ?_
  refine g_istore k_Law_law_942 (by decide) ?_
  refine g_aload_n k_Law_law_944 rfl rfl ?_
  refine g_cv (bc' := 0) (bs' := 0) k_Law_law_945 lv_Law_132 (by decide +kernel) (T := F_Mod) (N := 61) (ci := 10) rfl (sk_Mod S.2.1) (s_Mod_thrown (bc := 0) (bs := 0) S.2.1 _ rfl) rfl rfl (by simp [Value.category]) (by simp [Value.category]) (by omega) (by omega) (by omega) ?_
  refine g_iload k_Law_law_948 rfl ?_
  refine g_icmp_eq (tgt := 955) k_Law_law_950 (by decide) (fun _ => ?_) (fun c => absurd rfl c)
  refine g_iload k_Law_law_955 rfl ?_
  rcases co_cs co (by decide) with ⟨y, rfl, h0, rfl⟩ | ⟨E, rfl, h0⟩
  · refine g_if_ne (tgt := 972) k_Law_law_957 (by decide) (fun _ => ?_) (fun c => absurd h0 c)
    refine g_aload_n k_Law_law_960 rfl rfl ?_
    refine g_iconst (v := 0) k_Law_law_961 rfl ?_
    refine g_lald k_Law_law_962 S.2.2.1 in01 ?_
    refine g_iload k_Law_law_963 rfl ?_
    refine g_i2l k_Law_law_965 ?_
    refine g_lcmp k_Law_law_966 ?_
    refine G.v (y := 0) (by rw [show (0 : Int32).toNatClampNeg = 0 from rfl, gO_rd]; exact lgc0 _) ?_
    refine g_if_eq (tgt := 972) k_Law_law_967 (by decide) (fun _ => ?_) (fun c => absurd rfl c)
    refine g_goto (tgt := 2591) k_Law_law_972 (by decide) ?_
    exact lw_w (hk _ _ _ _ ((I.p iv ag (by omega) (by omega)).ex gO_ex))
  · refine g_if_ne (tgt := 972) k_Law_law_957 (by decide) (fun c => absurd c h0) (fun _ => ?_)
    refine g_goto (tgt := 2591) k_Law_law_972 (by decide) ?_
    exact lw_w (hk _ _ _ _ ((I.p iv ag (by omega) (by omega)).ex gO_ex))
theorem lc_program {K : aK} {d bc bs n F : Nat} {g : aG} {m : aM} {Q : aQ} {i : Int32} (hF : 20000 ≤ F) (hd : 600 ≤ d) (hi : rdO K i) (I : LI (n + 1) g m bc bs) (hk : LK K d n i Q) : G K M_Law_law (d + 2) bc bs 975 (lwL i (.double 0) (.double 0)) [] (g, m) Q := by
  obtain ⟨r, m1, e1, m2, e2, iv, ag⟩ := z_programI  m I.1
  refine g_aload_n k_Law_law_975 rfl rfl ?_
  refine g_cv (bc' := 0) (bs' := 0) k_Law_law_976 lv_Law_179 (by decide +kernel) (T := F_Led) (N := 10) (ci := 9) rfl (sk_Led I.2.1.1) (s_Led_program (bc := 0) (bs := 0) I.2.1.1  m e1 (by omega)) rfl rfl (by simp [Value.category]) (by simp [Value.category]) (by omega) (by omega) (by omega) ?_
  refine g_aload_n k_Law_law_979 rfl rfl ?_
  refine g_cv (bc' := 0) (bs' := 0) k_Law_law_980 lv_Law_182 (by decide +kernel) (T := F_Mod) (N := 61) (ci := 10) rfl (sk_Mod I.2.1.2.1) (s_Mod_program (bc := 0) (bs := 0) I.2.1.2.1  _ e2) rfl rfl (by simp [Value.category]) (by simp [Value.category]) (by omega) (by omega) (by omega) ?_
  refine g_icmp_eq (tgt := 2591) k_Law_law_983 (by decide) (fun _ => ?_) (fun c => absurd rfl c)
  exact hk _ _ _ _ (I.p iv ag (by omega) (by omega))
theorem lc_need {K : aK} {d bc bs n F : Nat} {g : aG} {m : aM} {Q : aQ} {i : Int32} (hF : 20000 ≤ F) (hd : 600 ≤ d) (hi : rdO K i) (I : LI (n + 1) g m bc bs) (hk : LK K d n i Q) : G K M_Law_law (d + 2) bc bs 988 (lwL i (.double 0) (.double 0)) [] (g, m) Q := by
  obtain ⟨r, m1, e1, v, m2, e2, co, iv, ag⟩ := z_needI (scr K i 1) (scr K i 2) (scr K i 3) m I.1
  have C : SpG K M_Led_need d 12 60 [.ref 0, .int (scr K i 1), .int (scr K i 2), .int (scr K i 3)] (g, m) (o_out _) _ (fun g' => g' = g) := spe_g (s_Led_need I.2.1.1 _ _ _ m e1 (by omega) (by omega) (by omega))
  have b1 := I.2.2.2.2.2.1
  obtain ⟨pw, pl, b2, -, -⟩ := I.2.2.2.2.2.2
  refine g_aload_n k_Law_law_988 rfl rfl ?_
  refine g_rd (j := 1) k_Law_law_989 k_Law_law_990 k_Law_law_992 k_Law_law_993 k_Law_law_994 rfl rfl rfl (hi _ (by decide) (by decide)) ?_
  refine g_rd (j := 2) k_Law_law_995 k_Law_law_996 k_Law_law_998 k_Law_law_999 k_Law_law_1000 rfl rfl rfl (hi _ (by decide) (by decide)) ?_
  refine g_rd (j := 3) k_Law_law_1001 k_Law_law_1002 k_Law_law_1004 k_Law_law_1005 k_Law_law_1006 rfl rfl rfl (hi _ (by decide) (by decide)) ?_
  refine g_aload_n k_Law_law_1007 rfl rfl ?_
  refine g_hR (bc' := 12) (bs' := 60) k_Law_law_1008 lh_Law_183 (by decide +kernel) (s_Law_need (sk_Led I.2.1.1) C (fun g' hg => by subst hg; exact I.2.1.2.2.1) co) rfl rfl (by simp [Value.category]) (by simp [Value.category]) (by omega) (by omega) (fun v' h' P => ?_)
  obtain ⟨g', rfl, rfl, rfl⟩ := P
  have S : LSy (gO Int32.toInt64 g' r) := I.2.1.gO
  refine g_istore k_Law_law_1011 (by decide) ?_
  refine g_aload_n k_Law_law_1013 rfl rfl ?_
  refine g_rd (j := 1) k_Law_law_1014 k_Law_law_1015 k_Law_law_1017 k_Law_law_1018 k_Law_law_1019 rfl rfl rfl (hi _ (by decide) (by decide)) ?_
  refine g_rd (j := 2) k_Law_law_1020 k_Law_law_1021 k_Law_law_1023 k_Law_law_1024 k_Law_law_1025 rfl rfl rfl (hi _ (by decide) (by decide)) ?_
  refine g_rd (j := 3) k_Law_law_1026 k_Law_law_1027 k_Law_law_1029 k_Law_law_1030 k_Law_law_1031 rfl rfl rfl (hi _ (by decide) (by decide)) ?_
  refine g_cv (bc' := 0) (bs' := 0) k_Law_law_1032 lv_Law_185 (by decide +kernel) (T := F_Mod) (N := 61) (ci := 10) rfl (sk_Mod S.2.1) (s_Mod_need (bc := 0) (bs := 0) S.2.1 _ _ _ _ e2 (by omega)) rfl rfl (by simp [Value.category]) (by simp [Value.category]) (by omega) (by omega) (by omega) ?_
  refine g_istore k_Law_law_1035 (by decide) ?_
  refine g_aload_n k_Law_law_1037 rfl rfl ?_
  refine g_cv (bc' := 0) (bs' := 0) k_Law_law_1038 lv_Law_132 (by decide +kernel) (T := F_Mod) (N := 61) (ci := 10) rfl (sk_Mod S.2.1) (s_Mod_thrown (bc := 0) (bs := 0) S.2.1 _ rfl) rfl rfl (by simp [Value.category]) (by simp [Value.category]) (by omega) (by omega) (by omega) ?_
  refine g_iload k_Law_law_1041 rfl ?_
  refine g_icmp_eq (tgt := 1048) k_Law_law_1043 (by decide) (fun _ => ?_) (fun c => absurd rfl c)
  refine g_iload k_Law_law_1048 rfl ?_
  rcases co_cs co (by decide) with ⟨y, rfl, h0, rfl⟩ | ⟨E, rfl, h0⟩
  · refine g_if_ne (tgt := 1065) k_Law_law_1050 (by decide) (fun _ => ?_) (fun c => absurd h0 c)
    refine g_aload_n k_Law_law_1053 rfl rfl ?_
    refine g_iconst (v := 0) k_Law_law_1054 rfl ?_
    refine g_lald k_Law_law_1055 S.2.2.1 in01 ?_
    refine g_iload k_Law_law_1056 rfl ?_
    refine g_i2l k_Law_law_1058 ?_
    refine g_lcmp k_Law_law_1059 ?_
    refine G.v (y := 0) (by rw [show (0 : Int32).toNatClampNeg = 0 from rfl, gO_rd]; exact lgc0 _) ?_
    refine g_if_eq (tgt := 1065) k_Law_law_1060 (by decide) (fun _ => ?_) (fun c => absurd rfl c)
    refine g_goto (tgt := 2591) k_Law_law_1065 (by decide) ?_
    exact lw_w (hk _ _ _ _ ((I.p iv ag (by omega) (by omega)).ex gO_ex))
  · refine g_if_ne (tgt := 1065) k_Law_law_1050 (by decide) (fun c => absurd c h0) (fun _ => ?_)
    refine g_goto (tgt := 2591) k_Law_law_1065 (by decide) ?_
    exact lw_w (hk _ _ _ _ ((I.p iv ag (by omega) (by omega)).ex gO_ex))
theorem lc_price {K : aK} {d bc bs n F : Nat} {g : aG} {m : aM} {Q : aQ} {i : Int32} (hF : 20000 ≤ F) (hd : 600 ≤ d) (hi : rdO K i) (I : LI (n + 1) g m bc bs) (hk : LK K d n i Q) : G K M_Law_law (d + 2) bc bs 1068 (lwL i (.double 0) (.double 0)) [] (g, m) Q := by
  obtain ⟨r, m1, e1, v, m2, e2, co, iv, ag⟩ := z_priceI (scr K i 1) (scr K i 2) m I.1
  have C : SpG K M_Led_price d 12 60 [.ref 0, .int (scr K i 1), .int (scr K i 2)] (g, m) (o_out _) _ (fun g' => g' = g) := spe_g (s_Led_price I.2.1.1 _ _ m e1 (by omega) (by omega) (by omega))
  have b1 := I.2.2.2.2.2.1
  obtain ⟨pw, pl, b2, -, -⟩ := I.2.2.2.2.2.2
  refine g_aload_n k_Law_law_1068 rfl rfl ?_
  refine g_rd (j := 1) k_Law_law_1069 k_Law_law_1070 k_Law_law_1072 k_Law_law_1073 k_Law_law_1074 rfl rfl rfl (hi _ (by decide) (by decide)) ?_
  refine g_rd (j := 2) k_Law_law_1075 k_Law_law_1076 k_Law_law_1078 k_Law_law_1079 k_Law_law_1080 rfl rfl rfl (hi _ (by decide) (by decide)) ?_
  refine g_aload_n k_Law_law_1081 rfl rfl ?_
  refine g_hR (bc' := 12) (bs' := 60) k_Law_law_1082 lh_Law_186 (by decide +kernel) (s_Law_price (sk_Led I.2.1.1) C (fun g' hg => by subst hg; exact I.2.1.2.2.1) co) rfl rfl (by simp [Value.category]) (by simp [Value.category]) (by omega) (by omega) (fun v' h' P => ?_)
  obtain ⟨g', rfl, rfl, rfl⟩ := P
  have S : LSy (gO Int32.toInt64 g' r) := I.2.1.gO
  refine g_istore k_Law_law_1085 (by decide) ?_
  refine g_aload_n k_Law_law_1087 rfl rfl ?_
  refine g_rd (j := 1) k_Law_law_1088 k_Law_law_1089 k_Law_law_1091 k_Law_law_1092 k_Law_law_1093 rfl rfl rfl (hi _ (by decide) (by decide)) ?_
  refine g_rd (j := 2) k_Law_law_1094 k_Law_law_1095 k_Law_law_1097 k_Law_law_1098 k_Law_law_1099 rfl rfl rfl (hi _ (by decide) (by decide)) ?_
  refine g_cv (bc' := 0) (bs' := 0) k_Law_law_1100 lv_Law_188 (by decide +kernel) (T := F_Mod) (N := 61) (ci := 10) rfl (sk_Mod S.2.1) (s_Mod_price (bc := 0) (bs := 0) S.2.1 _ _ _ e2 (by omega)) rfl rfl (by simp [Value.category]) (by simp [Value.category]) (by omega) (by omega) (by omega) ?_
  refine g_istore k_Law_law_1103 (by decide) ?_
  refine g_aload_n k_Law_law_1105 rfl rfl ?_
  refine g_cv (bc' := 0) (bs' := 0) k_Law_law_1106 lv_Law_132 (by decide +kernel) (T := F_Mod) (N := 61) (ci := 10) rfl (sk_Mod S.2.1) (s_Mod_thrown (bc := 0) (bs := 0) S.2.1 _ rfl) rfl rfl (by simp [Value.category]) (by simp [Value.category]) (by omega) (by omega) (by omega) ?_
  refine g_iload k_Law_law_1109 rfl ?_
  refine g_icmp_eq (tgt := 1116) k_Law_law_1111 (by decide) (fun _ => ?_) (fun c => absurd rfl c)
  refine g_iload k_Law_law_1116 rfl ?_
  rcases co_cs co (by decide) with ⟨y, rfl, h0, rfl⟩ | ⟨E, rfl, h0⟩
  · refine g_if_ne (tgt := 1133) k_Law_law_1118 (by decide) (fun _ => ?_) (fun c => absurd h0 c)
    refine g_aload_n k_Law_law_1121 rfl rfl ?_
    refine g_iconst (v := 0) k_Law_law_1122 rfl ?_
    refine g_lald k_Law_law_1123 S.2.2.1 in01 ?_
    refine g_iload k_Law_law_1124 rfl ?_
    refine g_i2l k_Law_law_1126 ?_
    refine g_lcmp k_Law_law_1127 ?_
    refine G.v (y := 0) (by rw [show (0 : Int32).toNatClampNeg = 0 from rfl, gO_rd]; exact lgc0 _) ?_
    refine g_if_eq (tgt := 1133) k_Law_law_1128 (by decide) (fun _ => ?_) (fun c => absurd rfl c)
    refine g_goto (tgt := 2591) k_Law_law_1133 (by decide) ?_
    exact lw_w (hk _ _ _ _ ((I.p iv ag (by omega) (by omega)).ex gO_ex))
  · refine g_if_ne (tgt := 1133) k_Law_law_1118 (by decide) (fun c => absurd c h0) (fun _ => ?_)
    refine g_goto (tgt := 2591) k_Law_law_1133 (by decide) ?_
    exact lw_w (hk _ _ _ _ ((I.p iv ag (by omega) (by omega)).ex gO_ex))
theorem lc_stands {K : aK} {d bc bs n F : Nat} {g : aG} {m : aM} {Q : aQ} {i : Int32} (hF : 20000 ≤ F) (hd : 600 ≤ d) (hi : rdO K i) (I : LI (n + 1) g m bc bs) (hk : LK K d n i Q) : G K M_Law_law (d + 2) bc bs 1136 (lwL i (.double 0) (.double 0)) [] (g, m) Q := by
  obtain ⟨r, m1, e1, v, m2, e2, co, iv, ag⟩ := z_standsI (scr K i 1) (scr K i 2) F m (by omega) I.1
  obtain ⟨r0, e9, q⟩ := Option.map_eq_some_iff.mp e1
  cases q
  have C : SpG K M_Led_stands d 12 60 [.ref 0, .int (scr K i 1), .int (scr K i 2)] (g, m) (o_out _) _ (fun g' => g' = g) := spe_g (s_Led_stands I.2.1.1 F _ _ m e9 (by omega) (by omega) (by omega))
  have b1 := I.2.2.2.2.2.1
  obtain ⟨pw, pl, b2, -, -⟩ := I.2.2.2.2.2.2
  refine g_aload_n k_Law_law_1136 rfl rfl ?_
  refine g_rd (j := 1) k_Law_law_1137 k_Law_law_1138 k_Law_law_1140 k_Law_law_1141 k_Law_law_1142 rfl rfl rfl (hi _ (by decide) (by decide)) ?_
  refine g_rd (j := 2) k_Law_law_1143 k_Law_law_1144 k_Law_law_1146 k_Law_law_1147 k_Law_law_1148 rfl rfl rfl (hi _ (by decide) (by decide)) ?_
  refine g_aload_n k_Law_law_1149 rfl rfl ?_
  refine g_hR (bc' := 12) (bs' := 60) k_Law_law_1150 lh_Law_189 (by decide +kernel) (s_Law_stands (sk_Led I.2.1.1) C (fun g' hg => by subst hg; exact I.2.1.2.2.1) co) rfl rfl (by simp [Value.category]) (by simp [Value.category]) (by omega) (by omega) (fun v' h' P => ?_)
  obtain ⟨g', rfl, rfl, rfl⟩ := P
  have S : LSy (gO zL g' r) := I.2.1.gO
  refine g_istore k_Law_law_1153 (by decide) ?_
  refine g_aload_n k_Law_law_1155 rfl rfl ?_
  refine g_rd (j := 1) k_Law_law_1156 k_Law_law_1157 k_Law_law_1159 k_Law_law_1160 k_Law_law_1161 rfl rfl rfl (hi _ (by decide) (by decide)) ?_
  refine g_rd (j := 2) k_Law_law_1162 k_Law_law_1163 k_Law_law_1165 k_Law_law_1166 k_Law_law_1167 rfl rfl rfl (hi _ (by decide) (by decide)) ?_
  refine g_cv (bc' := 0) (bs' := 0) k_Law_law_1168 lv_Law_191 (by decide +kernel) (T := F_Mod) (N := 61) (ci := 10) rfl (sk_Mod S.2.1) (s_Mod_stands (bc := 0) (bs := 0) S.2.1 F _ _ _ e2 (by omega)) rfl rfl (by simp [Value.category]) (by simp [Value.category]) (by omega) (by omega) (by omega) ?_
  refine g_istore k_Law_law_1171 (by decide) ?_
  refine g_aload_n k_Law_law_1173 rfl rfl ?_
  refine g_cv (bc' := 0) (bs' := 0) k_Law_law_1174 lv_Law_132 (by decide +kernel) (T := F_Mod) (N := 61) (ci := 10) rfl (sk_Mod S.2.1) (s_Mod_thrown (bc := 0) (bs := 0) S.2.1 _ rfl) rfl rfl (by simp [Value.category]) (by simp [Value.category]) (by omega) (by omega) (by omega) ?_
  refine g_iload k_Law_law_1177 rfl ?_
  refine g_icmp_eq (tgt := 1184) k_Law_law_1179 (by decide) (fun _ => ?_) (fun c => absurd rfl c)
  refine g_iload k_Law_law_1184 rfl ?_
  rcases co_cs co (by decide) with ⟨y, rfl, h0, rfl⟩ | ⟨E, rfl, h0⟩
  · refine g_if_ne (tgt := 1208) k_Law_law_1186 (by decide) (fun _ => ?_) (fun c => absurd h0 c)
    refine g_aload_n k_Law_law_1189 rfl rfl ?_
    refine g_iconst (v := 0) k_Law_law_1190 rfl ?_
    refine g_lald k_Law_law_1191 S.2.2.1 in01 ?_
    refine g_iload k_Law_law_1192 rfl ?_
    refine g_bl k_Law_law_1194 k_Law_law_1197 k_Law_law_1198 k_Law_law_1201 ?_
    refine g_lcmp k_Law_law_1202 ?_
    refine G.v (y := 0) (by rw [show (0 : Int32).toNatClampNeg = 0 from rfl, gO_rd]; exact lgc0 _) ?_
    refine g_if_eq (tgt := 1208) k_Law_law_1203 (by decide) (fun _ => ?_) (fun c => absurd rfl c)
    refine g_goto (tgt := 2591) k_Law_law_1208 (by decide) ?_
    exact lw_w (hk _ _ _ _ ((I.p iv ag (by omega) (by omega)).ex gO_ex))
  · refine g_if_ne (tgt := 1208) k_Law_law_1186 (by decide) (fun c => absurd c h0) (fun _ => ?_)
    refine g_goto (tgt := 2591) k_Law_law_1208 (by decide) ?_
    exact lw_w (hk _ _ _ _ ((I.p iv ag (by omega) (by omega)).ex gO_ex))
theorem lc_way {K : aK} {d bc bs n F : Nat} {g : aG} {m : aM} {Q : aQ} {i : Int32} (hF : 20000 ≤ F) (hd : 600 ≤ d) (hi : rdO K i) (I : LI (n + 1) g m bc bs) (hk : LK K d n i Q) : G K M_Law_law (d + 2) bc bs 1211 (lwL i (.double 0) (.double 0)) [] (g, m) Q := by
  obtain ⟨w, mw, a, W, hw, fm, ha, ha2, Y, wk⟩ := I.wh
  obtain ⟨r, m1, e1, v, m2, e2, co, Z⟩ := z_wayI hF (by omega) I.1 fm ha ha2 Y (scr K i 1) (scr K i 2) (scr K i 3)
  obtain ⟨cW, sW, hW, q1, q2, fin⟩ := wk r
  have C : SpG K M_Led_way d (cW + 5) (sW + 44) [.ref 0, .int (scr K i 1), .int (scr K i 2), .int (scr K i 3)] (g, m) (o_out r) m1 (WQX w r g) := s_Led_wayX I.2.1.1 (by have := I.2.1.2.2.2; omega) F _ _ _ W e1 (by omega) hW (by omega) (by omega)
  refine g_aload_n k_Law_law_1211 rfl rfl ?_
  refine g_rd (j := 1) k_Law_law_1212 k_Law_law_1213 k_Law_law_1215 k_Law_law_1216 k_Law_law_1217 rfl rfl rfl (hi _ (by decide) (by decide)) ?_
  refine g_rd (j := 2) k_Law_law_1218 k_Law_law_1219 k_Law_law_1221 k_Law_law_1222 k_Law_law_1223 rfl rfl rfl (hi _ (by decide) (by decide)) ?_
  refine g_rd (j := 3) k_Law_law_1224 k_Law_law_1225 k_Law_law_1227 k_Law_law_1228 k_Law_law_1229 rfl rfl rfl (hi _ (by decide) (by decide)) ?_
  refine g_aload_n k_Law_law_1230 rfl rfl ?_
  refine g_hR (bc' := cW + 5) (bs' := sW + 44) k_Law_law_1231 lh_Law_192 (by decide +kernel) (s_Law_way (sk_Led I.2.1.1) C (fun g' hg => (I.2.1.ex (wqx_ext hg)).2.2.1) co) rfl rfl (by simp [Value.category]) (by simp [Value.category]) (by omega) (by omega) (fun v' h' P => ?_)
  obtain ⟨g', hR, rfl, rfl⟩ := P
  have S : LSy (gO Int32.toInt64 g' r) := (I.2.1.ex (wqx_ext hR)).gO
  refine g_istore k_Law_law_1234 (by decide) ?_
  refine g_aload_n k_Law_law_1236 rfl rfl ?_
  refine g_rd (j := 1) k_Law_law_1237 k_Law_law_1238 k_Law_law_1240 k_Law_law_1241 k_Law_law_1242 rfl rfl rfl (hi _ (by decide) (by decide)) ?_
  refine g_rd (j := 2) k_Law_law_1243 k_Law_law_1244 k_Law_law_1246 k_Law_law_1247 k_Law_law_1248 rfl rfl rfl (hi _ (by decide) (by decide)) ?_
  refine g_rd (j := 3) k_Law_law_1249 k_Law_law_1250 k_Law_law_1252 k_Law_law_1253 k_Law_law_1254 rfl rfl rfl (hi _ (by decide) (by decide)) ?_
  refine g_cv (bc' := 0) (bs' := 0) k_Law_law_1255 lv_Law_194 (by decide +kernel) (T := F_Mod) (N := 61) (ci := 10) rfl (sk_Mod S.2.1) (s_Mod_way (bc := 0) (bs := 0) S.2.1 F _ _ _ _ e2 (by omega)) rfl rfl (by simp [Value.category]) (by simp [Value.category]) (by omega) (by omega) (by omega) ?_
  refine g_istore k_Law_law_1258 (by decide) ?_
  refine g_aload_n k_Law_law_1260 rfl rfl ?_
  refine g_cv (bc' := 0) (bs' := 0) k_Law_law_1261 lv_Law_132 (by decide +kernel) (T := F_Mod) (N := 61) (ci := 10) rfl (sk_Mod S.2.1) (s_Mod_thrown (bc := 0) (bs := 0) S.2.1 _ rfl) rfl rfl (by simp [Value.category]) (by simp [Value.category]) (by omega) (by omega) (by omega) ?_
  refine g_iload k_Law_law_1264 rfl ?_
  refine g_icmp_eq (tgt := 1271) k_Law_law_1266 (by decide) (fun _ => ?_) (fun c => absurd rfl c)
  refine g_iload k_Law_law_1271 rfl ?_
  rcases co_cs co (by decide) with ⟨y, rfl, h0, rfl⟩ | ⟨E, rfl, h0⟩
  · refine g_if_ne (tgt := 1288) k_Law_law_1273 (by decide) (fun _ => ?_) (fun c => absurd h0 c)
    refine g_aload_n k_Law_law_1276 rfl rfl ?_
    refine g_iconst (v := 0) k_Law_law_1277 rfl ?_
    refine g_lald k_Law_law_1278 S.2.2.1 in01 ?_
    refine g_iload k_Law_law_1279 rfl ?_
    refine g_i2l k_Law_law_1281 ?_
    refine g_lcmp k_Law_law_1282 ?_
    refine G.v (y := 0) (by rw [show (0 : Int32).toNatClampNeg = 0 from rfl, gO_rd]; exact lgc0 _) ?_
    refine g_if_eq (tgt := 1288) k_Law_law_1283 (by decide) (fun _ => ?_) (fun c => absurd rfl c)
    refine g_goto (tgt := 2591) k_Law_law_1288 (by decide) ?_
    exact lw_w (hk _ _ _ _ (((fin _ _ g'.1 hR (Nat.le_refl _) (Z.mono (fun _ q => q.elim))).ex gO_ex).mono (by omega) (by omega)))
  · refine g_if_ne (tgt := 1288) k_Law_law_1273 (by decide) (fun c => absurd c h0) (fun _ => ?_)
    refine g_goto (tgt := 2591) k_Law_law_1288 (by decide) ?_
    exact lw_w (hk _ _ _ _ (((fin _ _ g'.1 hR (Nat.le_refl _) (Z.mono (fun _ q => q.elim))).ex gO_ex).mono (by omega) (by omega)))
theorem lc_fewest {K : aK} {d bc bs n F : Nat} {g : aG} {m : aM} {Q : aQ} {i : Int32} (hF : 20000 ≤ F) (hd : 600 ≤ d) (hi : rdO K i) (I : LI (n + 1) g m bc bs) (hk : LK K d n i Q) : G K M_Law_law (d + 2) bc bs 1291 (lwL i (.double 0) (.double 0)) [] (g, m) Q := by
  obtain ⟨w, mw, a, W, hw, fm, ha, ha2, Y, wk⟩ := I.wh
  obtain ⟨r, m1, e1, v, m2, e2, co, Z⟩ := z_fewestI hF (by omega) I.1 fm ha ha2 Y (scr K i 1) (scr K i 2)
  obtain ⟨cW, sW, hW, q1, q2, fin⟩ := wk r
  have C : SpG K M_Led_fewest d (cW + 5) (sW + 44) [.ref 0, .int (scr K i 1), .int (scr K i 2)] (g, m) (o_out r) m1 (WQX w r g) := s_Led_fewestX I.2.1.1 (by have := I.2.1.2.2.2; omega) F _ _ W e1 (by omega) hW (by omega) (by omega)
  refine g_aload_n k_Law_law_1291 rfl rfl ?_
  refine g_rd (j := 1) k_Law_law_1292 k_Law_law_1293 k_Law_law_1295 k_Law_law_1296 k_Law_law_1297 rfl rfl rfl (hi _ (by decide) (by decide)) ?_
  refine g_rd (j := 2) k_Law_law_1298 k_Law_law_1299 k_Law_law_1301 k_Law_law_1302 k_Law_law_1303 rfl rfl rfl (hi _ (by decide) (by decide)) ?_
  refine g_aload_n k_Law_law_1304 rfl rfl ?_
  refine g_hR (bc' := cW + 5) (bs' := sW + 44) k_Law_law_1305 lh_Law_195 (by decide +kernel) (s_Law_fewest (sk_Led I.2.1.1) C (fun g' hg => (I.2.1.ex (wqx_ext hg)).2.2.1) co) rfl rfl (by simp [Value.category]) (by simp [Value.category]) (by omega) (by omega) (fun v' h' P => ?_)
  obtain ⟨g', hR, rfl, rfl⟩ := P
  have S : LSy (gO Int32.toInt64 g' r) := (I.2.1.ex (wqx_ext hR)).gO
  refine g_istore k_Law_law_1308 (by decide) ?_
  refine g_aload_n k_Law_law_1310 rfl rfl ?_
  refine g_rd (j := 1) k_Law_law_1311 k_Law_law_1312 k_Law_law_1314 k_Law_law_1315 k_Law_law_1316 rfl rfl rfl (hi _ (by decide) (by decide)) ?_
  refine g_rd (j := 2) k_Law_law_1317 k_Law_law_1318 k_Law_law_1320 k_Law_law_1321 k_Law_law_1322 rfl rfl rfl (hi _ (by decide) (by decide)) ?_
  refine g_cv (bc' := 0) (bs' := 0) k_Law_law_1323 lv_Law_197 (by decide +kernel) (T := F_Mod) (N := 61) (ci := 10) rfl (sk_Mod S.2.1) (s_Mod_fewest (bc := 0) (bs := 0) S.2.1 F _ _ _ e2 (by omega)) rfl rfl (by simp [Value.category]) (by simp [Value.category]) (by omega) (by omega) (by omega) ?_
  refine g_istore k_Law_law_1326 (by decide) ?_
  refine g_aload_n k_Law_law_1328 rfl rfl ?_
  refine g_cv (bc' := 0) (bs' := 0) k_Law_law_1329 lv_Law_132 (by decide +kernel) (T := F_Mod) (N := 61) (ci := 10) rfl (sk_Mod S.2.1) (s_Mod_thrown (bc := 0) (bs := 0) S.2.1 _ rfl) rfl rfl (by simp [Value.category]) (by simp [Value.category]) (by omega) (by omega) (by omega) ?_
  refine g_iload k_Law_law_1332 rfl ?_
  refine g_icmp_eq (tgt := 1339) k_Law_law_1334 (by decide) (fun _ => ?_) (fun c => absurd rfl c)
  refine g_iload k_Law_law_1339 rfl ?_
  rcases co_cs co (by decide) with ⟨y, rfl, h0, rfl⟩ | ⟨E, rfl, h0⟩
  · refine g_if_ne (tgt := 1356) k_Law_law_1341 (by decide) (fun _ => ?_) (fun c => absurd h0 c)
    refine g_aload_n k_Law_law_1344 rfl rfl ?_
    refine g_iconst (v := 0) k_Law_law_1345 rfl ?_
    refine g_lald k_Law_law_1346 S.2.2.1 in01 ?_
    refine g_iload k_Law_law_1347 rfl ?_
    refine g_i2l k_Law_law_1349 ?_
    refine g_lcmp k_Law_law_1350 ?_
    refine G.v (y := 0) (by rw [show (0 : Int32).toNatClampNeg = 0 from rfl, gO_rd]; exact lgc0 _) ?_
    refine g_if_eq (tgt := 1356) k_Law_law_1351 (by decide) (fun _ => ?_) (fun c => absurd rfl c)
    refine g_goto (tgt := 2591) k_Law_law_1356 (by decide) ?_
    exact lw_w (hk _ _ _ _ (((fin _ _ g'.1 hR (Nat.le_refl _) (Z.mono (fun _ q => q.elim))).ex gO_ex).mono (by omega) (by omega)))
  · refine g_if_ne (tgt := 1356) k_Law_law_1341 (by decide) (fun c => absurd c h0) (fun _ => ?_)
    refine g_goto (tgt := 2591) k_Law_law_1356 (by decide) ?_
    exact lw_w (hk _ _ _ _ (((fin _ _ g'.1 hR (Nat.le_refl _) (Z.mono (fun _ q => q.elim))).ex gO_ex).mono (by omega) (by omega)))
theorem lc_isBack {K : aK} {d bc bs n F : Nat} {g : aG} {m : aM} {Q : aQ} {i : Int32} (hF : 20000 ≤ F) (hd : 600 ≤ d) (hi : rdO K i) (I : LI (n + 1) g m bc bs) (hk : LK K d n i Q) : G K M_Law_law (d + 2) bc bs 1359 (lwL i (.double 0) (.double 0)) [] (g, m) Q := by
  obtain ⟨w, mw, a, W, hw, fm, ha, ha2, Y, wk⟩ := I.wh
  obtain ⟨r, m1, e1, v, m2, e2, co, Z⟩ := z_isBackI hF (by omega) I.1 fm ha ha2 Y (scr K i 1) (scr K i 2)
  obtain ⟨cW, sW, hW, q1, q2, fin⟩ := wk r
  have C : SpG K M_Led_isBack d (cW + 5) (sW + 44) [.ref 0, .int (scr K i 1), .int (scr K i 2)] (g, m) (o_out r) m1 (WQX w r g) := s_Led_isBackX I.2.1.1 (by have := I.2.1.2.2.2; omega) F _ _ W e1 (by omega) hW (by omega) (by omega)
  refine g_aload_n k_Law_law_1359 rfl rfl ?_
  refine g_rd (j := 1) k_Law_law_1360 k_Law_law_1361 k_Law_law_1363 k_Law_law_1364 k_Law_law_1365 rfl rfl rfl (hi _ (by decide) (by decide)) ?_
  refine g_rd (j := 2) k_Law_law_1366 k_Law_law_1367 k_Law_law_1369 k_Law_law_1370 k_Law_law_1371 rfl rfl rfl (hi _ (by decide) (by decide)) ?_
  refine g_aload_n k_Law_law_1372 rfl rfl ?_
  refine g_hR (bc' := cW + 5) (bs' := sW + 44) k_Law_law_1373 lh_Law_198 (by decide +kernel) (s_Law_isBack (sk_Led I.2.1.1) C (fun g' hg => (I.2.1.ex (wqx_ext hg)).2.2.1) co) rfl rfl (by simp [Value.category]) (by simp [Value.category]) (by omega) (by omega) (fun v' h' P => ?_)
  obtain ⟨g', hR, rfl, rfl⟩ := P
  have S : LSy (gO zL g' r) := (I.2.1.ex (wqx_ext hR)).gO
  refine g_istore k_Law_law_1376 (by decide) ?_
  refine g_aload_n k_Law_law_1378 rfl rfl ?_
  refine g_rd (j := 1) k_Law_law_1379 k_Law_law_1380 k_Law_law_1382 k_Law_law_1383 k_Law_law_1384 rfl rfl rfl (hi _ (by decide) (by decide)) ?_
  refine g_rd (j := 2) k_Law_law_1385 k_Law_law_1386 k_Law_law_1388 k_Law_law_1389 k_Law_law_1390 rfl rfl rfl (hi _ (by decide) (by decide)) ?_
  refine g_cv (bc' := 0) (bs' := 0) k_Law_law_1391 lv_Law_200 (by decide +kernel) (T := F_Mod) (N := 61) (ci := 10) rfl (sk_Mod S.2.1) (s_Mod_isBack (bc := 0) (bs := 0) S.2.1 F _ _ _ e2 (by omega)) rfl rfl (by simp [Value.category]) (by simp [Value.category]) (by omega) (by omega) (by omega) ?_
  refine g_istore k_Law_law_1394 (by decide) ?_
  refine g_aload_n k_Law_law_1396 rfl rfl ?_
  refine g_cv (bc' := 0) (bs' := 0) k_Law_law_1397 lv_Law_132 (by decide +kernel) (T := F_Mod) (N := 61) (ci := 10) rfl (sk_Mod S.2.1) (s_Mod_thrown (bc := 0) (bs := 0) S.2.1 _ rfl) rfl rfl (by simp [Value.category]) (by simp [Value.category]) (by omega) (by omega) (by omega) ?_
  refine g_iload k_Law_law_1400 rfl ?_
  refine g_icmp_eq (tgt := 1407) k_Law_law_1402 (by decide) (fun _ => ?_) (fun c => absurd rfl c)
  refine g_iload k_Law_law_1407 rfl ?_
  rcases co_cs co (by decide) with ⟨y, rfl, h0, rfl⟩ | ⟨E, rfl, h0⟩
  · refine g_if_ne (tgt := 1431) k_Law_law_1409 (by decide) (fun _ => ?_) (fun c => absurd h0 c)
    refine g_aload_n k_Law_law_1412 rfl rfl ?_
    refine g_iconst (v := 0) k_Law_law_1413 rfl ?_
    refine g_lald k_Law_law_1414 S.2.2.1 in01 ?_
    refine g_iload k_Law_law_1415 rfl ?_
    refine g_bl k_Law_law_1417 k_Law_law_1420 k_Law_law_1421 k_Law_law_1424 ?_
    refine g_lcmp k_Law_law_1425 ?_
    refine G.v (y := 0) (by rw [show (0 : Int32).toNatClampNeg = 0 from rfl, gO_rd]; exact lgc0 _) ?_
    refine g_if_eq (tgt := 1431) k_Law_law_1426 (by decide) (fun _ => ?_) (fun c => absurd rfl c)
    refine g_goto (tgt := 2591) k_Law_law_1431 (by decide) ?_
    exact lw_w (hk _ _ _ _ (((fin _ _ g'.1 hR (Nat.le_refl _) (Z.mono (fun _ q => q.elim))).ex gO_ex).mono (by omega) (by omega)))
  · refine g_if_ne (tgt := 1431) k_Law_law_1409 (by decide) (fun c => absurd c h0) (fun _ => ?_)
    refine g_goto (tgt := 2591) k_Law_law_1431 (by decide) ?_
    exact lw_w (hk _ _ _ _ (((fin _ _ g'.1 hR (Nat.le_refl _) (Z.mono (fun _ q => q.elim))).ex gO_ex).mono (by omega) (by omega)))
