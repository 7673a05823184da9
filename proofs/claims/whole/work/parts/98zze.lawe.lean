theorem lc_fall {K : aK} {d bc bs n F : Nat} {g : aG} {m : aM} {Q : aQ} {i : Int32} (hF : 20000 ≤ F) (hd : 600 ≤ d) (hi : rdO K i) (I : LI (n + 1) g m bc bs) (hk : LK K d n i Q) : G K M_Law_law (d + 2) bc bs 2011 (lwL i (.double 0) (.double 0)) [] (g, m) Q := by
  obtain ⟨r, m1, e1, v, m2, e2, co, iv, ag⟩ := z_fallI (scr K i 1) m I.1
  have C : SpG K M_Led_fall d 12 60 [.ref 0, .int (scr K i 1)] (g, m) (o_out _) _ (fun g' => g' = g) := spe_g (s_Led_fall I.2.1.1 _ m e1 (by omega) (by omega) (by omega))
  have b1 := I.2.2.2.2.2.1
  obtain ⟨pw, pl, b2, -, -⟩ := I.2.2.2.2.2.2
  refine g_aload_n k_Law_law_2011 rfl rfl ?_
  refine g_rd (j := 1) k_Law_law_2012 k_Law_law_2013 k_Law_law_2015 k_Law_law_2016 k_Law_law_2017 rfl rfl rfl (hi _ (by decide) (by decide)) ?_
  refine g_aload_n k_Law_law_2018 rfl rfl ?_
  refine g_hR (bc' := 12) (bs' := 60) k_Law_law_2019 lh_Law_234 (by decide +kernel) (s_Law_fall (sk_Led I.2.1.1) C (fun g' hg => by subst hg; exact I.2.1.2.2.1) co) rfl rfl (by simp [Value.category]) (by simp [Value.category]) (by omega) (by omega) (fun v' h' P => ?_)
  obtain ⟨g', rfl, rfl, rfl⟩ := P
  have S : LSy (gO Int32.toInt64 g' r) := I.2.1.gO
  refine g_istore k_Law_law_2022 (by decide) ?_
  refine g_aload_n k_Law_law_2024 rfl rfl ?_
  refine g_rd (j := 1) k_Law_law_2025 k_Law_law_2026 k_Law_law_2028 k_Law_law_2029 k_Law_law_2030 rfl rfl rfl (hi _ (by decide) (by decide)) ?_
  refine g_cv (bc' := 0) (bs' := 0) k_Law_law_2031 lv_Law_236 (by decide +kernel) (T := F_Mod) (N := 61) (ci := 10) rfl (sk_Mod S.2.1) (s_Mod_fall (bc := 0) (bs := 0) S.2.1 _ _ e2 (by omega)) rfl rfl (by simp [Value.category]) (by simp [Value.category]) (by omega) (by omega) (by omega) ?_
  refine g_istore k_Law_law_2034 (by decide) ?_
  refine g_aload_n k_Law_law_2036 rfl rfl ?_
  refine g_cv (bc' := 0) (bs' := 0) k_Law_law_2037 lv_Law_132 (by decide +kernel) (T := F_Mod) (N := 61) (ci := 10) rfl (sk_Mod S.2.1) (s_Mod_thrown (bc := 0) (bs := 0) S.2.1 _ rfl) rfl rfl (by simp [Value.category]) (by simp [Value.category]) (by omega) (by omega) (by omega) ?_
  refine g_iload k_Law_law_2040 rfl ?_
  refine g_icmp_eq (tgt := 2047) k_Law_law_2042 (by decide) (fun _ => ?_) (fun c => absurd rfl c)
  refine g_iload k_Law_law_2047 rfl ?_
  rcases co_cs co (by decide) with ⟨y, rfl, h0, rfl⟩ | ⟨E, rfl, h0⟩
  · refine g_if_ne (tgt := 2064) k_Law_law_2049 (by decide) (fun _ => ?_) (fun c => absurd h0 c)
    refine g_aload_n k_Law_law_2052 rfl rfl ?_
    refine g_iconst (v := 0) k_Law_law_2053 rfl ?_
    refine g_lald k_Law_law_2054 S.2.2.1 in01 ?_
    refine g_iload k_Law_law_2055 rfl ?_
    refine g_i2l k_Law_law_2057 ?_
    refine g_lcmp k_Law_law_2058 ?_
    refine G.v (y := 0) (by rw [show (0 : Int32).toNatClampNeg = 0 from rfl, gO_rd]; exact lgc0 _) ?_
    refine g_if_eq (tgt := 2064) k_Law_law_2059 (by decide) (fun _ => ?_) (fun c => absurd rfl c)
    refine g_goto (tgt := 2591) k_Law_law_2064 (by decide) ?_
    exact lw_w (hk _ _ _ _ ((I.p iv ag (by omega) (by omega)).ex gO_ex))
  · refine g_if_ne (tgt := 2064) k_Law_law_2049 (by decide) (fun c => absurd c h0) (fun _ => ?_)
    refine g_goto (tgt := 2591) k_Law_law_2064 (by decide) ?_
    exact lw_w (hk _ _ _ _ ((I.p iv ag (by omega) (by omega)).ex gO_ex))
theorem lc_row {K : aK} {d bc bs n F : Nat} {g : aG} {m : aM} {Q : aQ} {i : Int32} (hF : 20000 ≤ F) (hd : 600 ≤ d) (hi : rdO K i) (I : LI (n + 1) g m bc bs) (hk : LK K d n i Q) : G K M_Law_law (d + 2) bc bs 2067 (lwL i (.double 0) (.double 0)) [] (g, m) Q := by
  obtain ⟨r, m1, e1, v, m2, e2, co, iv, ag⟩ := z_rowI (scr K i 1) (scr K i 2) F m (by omega) I.1
  have C : SpG K M_Led_row d 12 60 [.ref 0, .int (scr K i 1), .int (scr K i 2)] (g, m) (o_out _) _ (fun g' => g' = g) := spe_g (s_Led_row I.2.1.1 F _ _ m e1 (by omega) (by omega) (by omega))
  have b1 := I.2.2.2.2.2.1
  obtain ⟨pw, pl, b2, -, -⟩ := I.2.2.2.2.2.2
  refine g_aload_n k_Law_law_2067 rfl rfl ?_
  refine g_rd (j := 1) k_Law_law_2068 k_Law_law_2069 k_Law_law_2071 k_Law_law_2072 k_Law_law_2073 rfl rfl rfl (hi _ (by decide) (by decide)) ?_
  refine g_rd (j := 2) k_Law_law_2074 k_Law_law_2075 k_Law_law_2077 k_Law_law_2078 k_Law_law_2079 rfl rfl rfl (hi _ (by decide) (by decide)) ?_
  refine g_aload_n k_Law_law_2080 rfl rfl ?_
  refine g_hR (bc' := 12) (bs' := 60) k_Law_law_2081 lh_Law_237 (by decide +kernel) (s_Law_row (sk_Led I.2.1.1) C (fun g' hg => by subst hg; exact I.2.1.2.2.1) co) rfl rfl (by simp [Value.category]) (by simp [Value.category]) (by omega) (by omega) (fun v' h' P => ?_)
  obtain ⟨g', rfl, rfl, rfl⟩ := P
  have S : LSy (gO Int32.toInt64 g' r) := I.2.1.gO
  refine g_istore k_Law_law_2084 (by decide) ?_
  refine g_aload_n k_Law_law_2086 rfl rfl ?_
  refine g_rd (j := 1) k_Law_law_2087 k_Law_law_2088 k_Law_law_2090 k_Law_law_2091 k_Law_law_2092 rfl rfl rfl (hi _ (by decide) (by decide)) ?_
  refine g_rd (j := 2) k_Law_law_2093 k_Law_law_2094 k_Law_law_2096 k_Law_law_2097 k_Law_law_2098 rfl rfl rfl (hi _ (by decide) (by decide)) ?_
  refine g_cv (bc' := 0) (bs' := 0) k_Law_law_2099 lv_Law_239 (by decide +kernel) (T := F_Mod) (N := 61) (ci := 10) rfl (sk_Mod S.2.1) (s_Mod_row (bc := 0) (bs := 0) S.2.1 F _ _ _ e2 (by omega)) rfl rfl (by simp [Value.category]) (by simp [Value.category]) (by omega) (by omega) (by omega) ?_
  refine g_istore k_Law_law_2102 (by decide) ?_
  refine g_aload_n k_Law_law_2104 rfl rfl ?_
  refine g_cv (bc' := 0) (bs' := 0) k_Law_law_2105 lv_Law_132 (by decide +kernel) (T := F_Mod) (N := 61) (ci := 10) rfl (sk_Mod S.2.1) (s_Mod_thrown (bc := 0) (bs := 0) S.2.1 _ rfl) rfl rfl (by simp [Value.category]) (by simp [Value.category]) (by omega) (by omega) (by omega) ?_
  refine g_iload k_Law_law_2108 rfl ?_
  refine g_icmp_eq (tgt := 2115) k_Law_law_2110 (by decide) (fun _ => ?_) (fun c => absurd rfl c)
  refine g_iload k_Law_law_2115 rfl ?_
  rcases co_cs co (by decide) with ⟨y, rfl, h0, rfl⟩ | ⟨E, rfl, h0⟩
  · refine g_if_ne (tgt := 2132) k_Law_law_2117 (by decide) (fun _ => ?_) (fun c => absurd h0 c)
    refine g_aload_n k_Law_law_2120 rfl rfl ?_
    refine g_iconst (v := 0) k_Law_law_2121 rfl ?_
    refine g_lald k_Law_law_2122 S.2.2.1 in01 ?_
    refine g_iload k_Law_law_2123 rfl ?_
    refine g_i2l k_Law_law_2125 ?_
    refine g_lcmp k_Law_law_2126 ?_
    refine G.v (y := 0) (by rw [show (0 : Int32).toNatClampNeg = 0 from rfl, gO_rd]; exact lgc0 _) ?_
    refine g_if_eq (tgt := 2132) k_Law_law_2127 (by decide) (fun _ => ?_) (fun c => absurd rfl c)
    refine g_goto (tgt := 2591) k_Law_law_2132 (by decide) ?_
    exact lw_w (hk _ _ _ _ ((I.p iv ag (by omega) (by omega)).ex gO_ex))
  · refine g_if_ne (tgt := 2132) k_Law_law_2117 (by decide) (fun c => absurd c h0) (fun _ => ?_)
    refine g_goto (tgt := 2591) k_Law_law_2132 (by decide) ?_
    exact lw_w (hk _ _ _ _ ((I.p iv ag (by omega) (by omega)).ex gO_ex))
theorem lc_quiet {K : aK} {d bc bs n F : Nat} {g : aG} {m : aM} {Q : aQ} {i : Int32} (hF : 20000 ≤ F) (hd : 600 ≤ d) (hi : rdO K i) (I : LI (n + 1) g m bc bs) (hk : LK K d n i Q) : G K M_Law_law (d + 2) bc bs 2135 (lwL i (.double 0) (.double 0)) [] (g, m) Q := by
  obtain ⟨r, m1, e1, v, m2, e2, co, iv, ag⟩ := z_quietI (scr K i 1) m I.1
  have C : SpG K M_Led_quiet d 12 60 [.ref 0, .int (scr K i 1)] (g, m) (o_out _) _ (fun g' => g' = g) := spe_g (s_Led_quiet I.2.1.1 _ m e1 (by omega) (by omega) (by omega))
  have b1 := I.2.2.2.2.2.1
  obtain ⟨pw, pl, b2, -, -⟩ := I.2.2.2.2.2.2
  refine g_aload_n k_Law_law_2135 rfl rfl ?_
  refine g_rd (j := 1) k_Law_law_2136 k_Law_law_2137 k_Law_law_2139 k_Law_law_2140 k_Law_law_2141 rfl rfl rfl (hi _ (by decide) (by decide)) ?_
  refine g_aload_n k_Law_law_2142 rfl rfl ?_
  refine g_hR (bc' := 12) (bs' := 60) k_Law_law_2143 lh_Law_240 (by decide +kernel) (s_Law_quiet (sk_Led I.2.1.1) C (fun g' hg => by subst hg; exact I.2.1.2.2.1) co) rfl rfl (by simp [Value.category]) (by simp [Value.category]) (by omega) (by omega) (fun v' h' P => ?_)
  obtain ⟨g', rfl, rfl, rfl⟩ := P
  have S : LSy (gO Int32.toInt64 g' r) := I.2.1.gO
  refine g_istore k_Law_law_2146 (by decide) ?_
  refine g_aload_n k_Law_law_2148 rfl rfl ?_
  refine g_rd (j := 1) k_Law_law_2149 k_Law_law_2150 k_Law_law_2152 k_Law_law_2153 k_Law_law_2154 rfl rfl rfl (hi _ (by decide) (by decide)) ?_
  refine g_cv (bc' := 0) (bs' := 0) k_Law_law_2155 lv_Law_242 (by decide +kernel) (T := F_Mod) (N := 61) (ci := 10) rfl (sk_Mod S.2.1) (s_Mod_quiet (bc := 0) (bs := 0) S.2.1 _ _ e2 (by omega)) rfl rfl (by simp [Value.category]) (by simp [Value.category]) (by omega) (by omega) (by omega) ?_
  refine g_istore k_Law_law_2158 (by decide) ?_
  refine g_aload_n k_Law_law_2160 rfl rfl ?_
  refine g_cv (bc' := 0) (bs' := 0) k_Law_law_2161 lv_Law_132 (by decide +kernel) (T := F_Mod) (N := 61) (ci := 10) rfl (sk_Mod S.2.1) (s_Mod_thrown (bc := 0) (bs := 0) S.2.1 _ rfl) rfl rfl (by simp [Value.category]) (by simp [Value.category]) (by omega) (by omega) (by omega) ?_
  refine g_iload k_Law_law_2164 rfl ?_
  refine g_icmp_eq (tgt := 2171) k_Law_law_2166 (by decide) (fun _ => ?_) (fun c => absurd rfl c)
  refine g_iload k_Law_law_2171 rfl ?_
  rcases co_cs co (by decide) with ⟨y, rfl, h0, rfl⟩ | ⟨E, rfl, h0⟩
  · refine g_if_ne (tgt := 2188) k_Law_law_2173 (by decide) (fun _ => ?_) (fun c => absurd h0 c)
    refine g_aload_n k_Law_law_2176 rfl rfl ?_
    refine g_iconst (v := 0) k_Law_law_2177 rfl ?_
    refine g_lald k_Law_law_2178 S.2.2.1 in01 ?_
    refine g_iload k_Law_law_2179 rfl ?_
    refine g_i2l k_Law_law_2181 ?_
    refine g_lcmp k_Law_law_2182 ?_
    refine G.v (y := 0) (by rw [show (0 : Int32).toNatClampNeg = 0 from rfl, gO_rd]; exact lgc0 _) ?_
    refine g_if_eq (tgt := 2188) k_Law_law_2183 (by decide) (fun _ => ?_) (fun c => absurd rfl c)
    refine g_goto (tgt := 2591) k_Law_law_2188 (by decide) ?_
    exact lw_w (hk _ _ _ _ ((I.p iv ag (by omega) (by omega)).ex gO_ex))
  · refine g_if_ne (tgt := 2188) k_Law_law_2173 (by decide) (fun c => absurd c h0) (fun _ => ?_)
    refine g_goto (tgt := 2591) k_Law_law_2188 (by decide) ?_
    exact lw_w (hk _ _ _ _ ((I.p iv ag (by omega) (by omega)).ex gO_ex))
theorem lc_asked {K : aK} {d bc bs n F : Nat} {g : aG} {m : aM} {Q : aQ} {i : Int32} (hF : 20000 ≤ F) (hd : 600 ≤ d) (hi : rdO K i) (I : LI (n + 1) g m bc bs) (hk : LK K d n i Q) : G K M_Law_law (d + 2) bc bs 2191 (lwL i (.double 0) (.double 0)) [] (g, m) Q := by
  obtain ⟨r, m1, e1, v, m2, e2, co, iv, ag⟩ := z_askedI (scr K i 1) (scr K i 2) (scr K i 3) (bz (scr K i 4)) m I.1
  obtain ⟨r0, e9, q⟩ := Option.map_eq_some_iff.mp e1
  cases q
  have C : SpG K M_Led_asked d 12 60 [.ref 0, .int (scr K i 1), .int (scr K i 2), .int (scr K i 3), .int (bz (scr K i 4))] (g, m) (o_out _) _ (fun g' => g' = g) := spe_g (s_Led_asked I.2.1.1 _ _ _ _ m e9 (by omega) (by omega) (by omega))
  have b1 := I.2.2.2.2.2.1
  obtain ⟨pw, pl, b2, -, -⟩ := I.2.2.2.2.2.2
  refine g_aload_n k_Law_law_2191 rfl rfl ?_
  refine g_rd (j := 1) k_Law_law_2192 k_Law_law_2193 k_Law_law_2195 k_Law_law_2196 k_Law_law_2197 rfl rfl rfl (hi _ (by decide) (by decide)) ?_
  refine g_rd (j := 2) k_Law_law_2198 k_Law_law_2199 k_Law_law_2201 k_Law_law_2202 k_Law_law_2203 rfl rfl rfl (hi _ (by decide) (by decide)) ?_
  refine g_rd (j := 3) k_Law_law_2204 k_Law_law_2205 k_Law_law_2207 k_Law_law_2208 k_Law_law_2209 rfl rfl rfl (hi _ (by decide) (by decide)) ?_
  refine g_rd (j := 4) k_Law_law_2210 k_Law_law_2211 k_Law_law_2213 k_Law_law_2214 k_Law_law_2215 rfl rfl rfl (hi _ (by decide) (by decide)) ?_
  refine g_bz k_Law_law_2216 k_Law_law_2219 k_Law_law_2220 k_Law_law_2223 ?_
  refine g_aload_n k_Law_law_2224 rfl rfl ?_
  refine g_hR (bc' := 12) (bs' := 60) k_Law_law_2225 lh_Law_243 (by decide +kernel) (s_Law_asked (sk_Led I.2.1.1) C (fun g' hg => by subst hg; exact I.2.1.2.2.1) co) rfl rfl (by simp [Value.category]) (by simp [Value.category]) (by omega) (by omega) (fun v' h' P => ?_)
  obtain ⟨g', rfl, rfl, rfl⟩ := P
  have S : LSy (gO Int32.toInt64 g' r) := I.2.1.gO
  refine g_istore k_Law_law_2228 (by decide) ?_
  refine g_aload_n k_Law_law_2230 rfl rfl ?_
  refine g_rd (j := 1) k_Law_law_2231 k_Law_law_2232 k_Law_law_2234 k_Law_law_2235 k_Law_law_2236 rfl rfl rfl (hi _ (by decide) (by decide)) ?_
  refine g_rd (j := 2) k_Law_law_2237 k_Law_law_2238 k_Law_law_2240 k_Law_law_2241 k_Law_law_2242 rfl rfl rfl (hi _ (by decide) (by decide)) ?_
  refine g_rd (j := 3) k_Law_law_2243 k_Law_law_2244 k_Law_law_2246 k_Law_law_2247 k_Law_law_2248 rfl rfl rfl (hi _ (by decide) (by decide)) ?_
  refine g_rd (j := 4) k_Law_law_2249 k_Law_law_2250 k_Law_law_2252 k_Law_law_2253 k_Law_law_2254 rfl rfl rfl (hi _ (by decide) (by decide)) ?_
  refine g_bz k_Law_law_2255 k_Law_law_2258 k_Law_law_2259 k_Law_law_2262 ?_
  refine g_cv (bc' := 0) (bs' := 0) k_Law_law_2263 lv_Law_246 (by decide +kernel) (T := F_Mod) (N := 61) (ci := 10) rfl (sk_Mod S.2.1) (s_Mod_asked (bc := 0) (bs := 0) S.2.1 _ _ _ _ _ e2 (by omega)) rfl rfl (by simp [Value.category]) (by simp [Value.category]) (by omega) (by omega) (by omega) ?_
  refine g_istore k_Law_law_2266 (by decide) ?_
  refine g_aload_n k_Law_law_2268 rfl rfl ?_
  refine g_cv (bc' := 0) (bs' := 0) k_Law_law_2269 lv_Law_132 (by decide +kernel) (T := F_Mod) (N := 61) (ci := 10) rfl (sk_Mod S.2.1) (s_Mod_thrown (bc := 0) (bs := 0) S.2.1 _ rfl) rfl rfl (by simp [Value.category]) (by simp [Value.category]) (by omega) (by omega) (by omega) ?_
  refine g_iload k_Law_law_2272 rfl ?_
  refine g_icmp_eq (tgt := 2279) k_Law_law_2274 (by decide) (fun _ => ?_) (fun c => absurd rfl c)
  refine g_iload k_Law_law_2279 rfl ?_
  rcases co_cs co (by decide) with ⟨y, rfl, h0, rfl⟩ | ⟨E, rfl, h0⟩
  · refine g_if_ne (tgt := 2296) k_Law_law_2281 (by decide) (fun _ => ?_) (fun c => absurd h0 c)
    refine g_aload_n k_Law_law_2284 rfl rfl ?_
    refine g_iconst (v := 0) k_Law_law_2285 rfl ?_
    refine g_lald k_Law_law_2286 S.2.2.1 in01 ?_
    refine g_iload k_Law_law_2287 rfl ?_
    refine g_i2l k_Law_law_2289 ?_
    refine g_lcmp k_Law_law_2290 ?_
    refine G.v (y := 0) (by rw [show (0 : Int32).toNatClampNeg = 0 from rfl, gO_rd]; exact lgc0 _) ?_
    refine g_if_eq (tgt := 2296) k_Law_law_2291 (by decide) (fun _ => ?_) (fun c => absurd rfl c)
    refine g_goto (tgt := 2591) k_Law_law_2296 (by decide) ?_
    exact lw_w (hk _ _ _ _ ((I.p iv ag (by omega) (by omega)).ex gO_ex))
  · refine g_if_ne (tgt := 2296) k_Law_law_2281 (by decide) (fun c => absurd c h0) (fun _ => ?_)
    refine g_goto (tgt := 2591) k_Law_law_2296 (by decide) ?_
    exact lw_w (hk _ _ _ _ ((I.p iv ag (by omega) (by omega)).ex gO_ex))
theorem lc_still {K : aK} {d bc bs n F : Nat} {g : aG} {m : aM} {Q : aQ} {i : Int32} (hF : 20000 ≤ F) (hd : 600 ≤ d) (hi : rdO K i) (I : LI (n + 1) g m bc bs) (hk : LK K d n i Q) : G K M_Law_law (d + 2) bc bs 2299 (lwL i (.double 0) (.double 0)) [] (g, m) Q := by
  obtain ⟨r, m1, e1, v, m2, e2, co, iv, ag⟩ := z_stillI (scr K i 1) (scr K i 2) F m (by omega) I.1
  obtain ⟨r0, e9, q⟩ := Option.map_eq_some_iff.mp e1
  cases q
  have C : SpG K M_Led_still d 12 60 [.ref 0, .int (scr K i 1), .int (scr K i 2)] (g, m) (o_out _) _ (fun g' => g' = g) := spe_g (s_Led_still I.2.1.1 F _ _ m e9 (by omega) (by omega) (by omega))
  have b1 := I.2.2.2.2.2.1
  obtain ⟨pw, pl, b2, -, -⟩ := I.2.2.2.2.2.2
  refine g_aload_n k_Law_law_2299 rfl rfl ?_
  refine g_rd (j := 1) k_Law_law_2300 k_Law_law_2301 k_Law_law_2303 k_Law_law_2304 k_Law_law_2305 rfl rfl rfl (hi _ (by decide) (by decide)) ?_
  refine g_rd (j := 2) k_Law_law_2306 k_Law_law_2307 k_Law_law_2309 k_Law_law_2310 k_Law_law_2311 rfl rfl rfl (hi _ (by decide) (by decide)) ?_
  refine g_aload_n k_Law_law_2312 rfl rfl ?_
  refine g_hR (bc' := 12) (bs' := 60) k_Law_law_2313 lh_Law_247 (by decide +kernel) (s_Law_still (sk_Led I.2.1.1) C (fun g' hg => by subst hg; exact I.2.1.2.2.1) co) rfl rfl (by simp [Value.category]) (by simp [Value.category]) (by omega) (by omega) (fun v' h' P => ?_)
  obtain ⟨g', rfl, rfl, rfl⟩ := P
  have S : LSy (gO Int32.toInt64 g' r) := I.2.1.gO
  refine g_istore k_Law_law_2316 (by decide) ?_
  refine g_aload_n k_Law_law_2318 rfl rfl ?_
  refine g_rd (j := 1) k_Law_law_2319 k_Law_law_2320 k_Law_law_2322 k_Law_law_2323 k_Law_law_2324 rfl rfl rfl (hi _ (by decide) (by decide)) ?_
  refine g_rd (j := 2) k_Law_law_2325 k_Law_law_2326 k_Law_law_2328 k_Law_law_2329 k_Law_law_2330 rfl rfl rfl (hi _ (by decide) (by decide)) ?_
  refine g_cv (bc' := 0) (bs' := 0) k_Law_law_2331 lv_Law_249 (by decide +kernel) (T := F_Mod) (N := 61) (ci := 10) rfl (sk_Mod S.2.1) (s_Mod_still (bc := 0) (bs := 0) S.2.1 F _ _ _ e2 (by omega)) rfl rfl (by simp [Value.category]) (by simp [Value.category]) (by omega) (by omega) (by omega) ?_
  refine g_istore k_Law_law_2334 (by decide) ?_
  refine g_aload_n k_Law_law_2336 rfl rfl ?_
  refine g_cv (bc' := 0) (bs' := 0) k_Law_law_2337 lv_Law_132 (by decide +kernel) (T := F_Mod) (N := 61) (ci := 10) rfl (sk_Mod S.2.1) (s_Mod_thrown (bc := 0) (bs := 0) S.2.1 _ rfl) rfl rfl (by simp [Value.category]) (by simp [Value.category]) (by omega) (by omega) (by omega) ?_
  refine g_iload k_Law_law_2340 rfl ?_
  refine g_icmp_eq (tgt := 2347) k_Law_law_2342 (by decide) (fun _ => ?_) (fun c => absurd rfl c)
  refine g_iload k_Law_law_2347 rfl ?_
  rcases co_cs co (by decide) with ⟨y, rfl, h0, rfl⟩ | ⟨E, rfl, h0⟩
  · refine g_if_ne (tgt := 2364) k_Law_law_2349 (by decide) (fun _ => ?_) (fun c => absurd h0 c)
    refine g_aload_n k_Law_law_2352 rfl rfl ?_
    refine g_iconst (v := 0) k_Law_law_2353 rfl ?_
    refine g_lald k_Law_law_2354 S.2.2.1 in01 ?_
    refine g_iload k_Law_law_2355 rfl ?_
    refine g_i2l k_Law_law_2357 ?_
    refine g_lcmp k_Law_law_2358 ?_
    refine G.v (y := 0) (by rw [show (0 : Int32).toNatClampNeg = 0 from rfl, gO_rd]; exact lgc0 _) ?_
    refine g_if_eq (tgt := 2364) k_Law_law_2359 (by decide) (fun _ => ?_) (fun c => absurd rfl c)
    refine g_goto (tgt := 2591) k_Law_law_2364 (by decide) ?_
    exact lw_w (hk _ _ _ _ ((I.p iv ag (by omega) (by omega)).ex gO_ex))
  · refine g_if_ne (tgt := 2364) k_Law_law_2349 (by decide) (fun c => absurd c h0) (fun _ => ?_)
    refine g_goto (tgt := 2591) k_Law_law_2364 (by decide) ?_
    exact lw_w (hk _ _ _ _ ((I.p iv ag (by omega) (by omega)).ex gO_ex))
theorem lc_sum {K : aK} {d bc bs n F : Nat} {g : aG} {m : aM} {Q : aQ} {i : Int32} (hF : 20000 ≤ F) (hd : 600 ≤ d) (hi : rdO K i) (I : LI (n + 1) g m bc bs) (hk : LK K d n i Q) : G K M_Law_law (d + 2) bc bs 2367 (lwL i (.double 0) (.double 0)) [] (g, m) Q := by
  obtain ⟨r, m1, e1, v, m2, e2, co, iv, ag⟩ := z_sumI (scr K i 1) (scr K i 2) F m (by omega) I.1
  have C : SpG K M_Led_sum d 12 60 [.ref 0, .int (scr K i 1), .int (scr K i 2)] (g, m) (o_out _) _ (fun g' => g' = g) := spe_g (s_Led_sum I.2.1.1 F _ _ m e1 (by omega) (by omega) (by omega))
  have b1 := I.2.2.2.2.2.1
  obtain ⟨pw, pl, b2, -, -⟩ := I.2.2.2.2.2.2
  refine g_aload_n k_Law_law_2367 rfl rfl ?_
  refine g_rd (j := 1) k_Law_law_2368 k_Law_law_2369 k_Law_law_2371 k_Law_law_2372 k_Law_law_2373 rfl rfl rfl (hi _ (by decide) (by decide)) ?_
  refine g_rd (j := 2) k_Law_law_2374 k_Law_law_2375 k_Law_law_2377 k_Law_law_2378 k_Law_law_2379 rfl rfl rfl (hi _ (by decide) (by decide)) ?_
  refine g_aload_n k_Law_law_2380 rfl rfl ?_
  refine g_hR (bc' := 12) (bs' := 60) k_Law_law_2381 lh_Law_250 (by decide +kernel) (s_Law_sum (sk_Led I.2.1.1) C (fun g' hg => by subst hg; exact I.2.1.2.2.1) co) rfl rfl (by simp [Value.category]) (by simp [Value.category]) (by omega) (by omega) (fun v' h' P => ?_)
  obtain ⟨g', rfl, rfl, rfl⟩ := P
  have S : LSy (gO Int32.toInt64 g' r) := I.2.1.gO
  refine g_istore k_Law_law_2384 (by decide) ?_
  refine g_aload_n k_Law_law_2386 rfl rfl ?_
  refine g_rd (j := 1) k_Law_law_2387 k_Law_law_2388 k_Law_law_2390 k_Law_law_2391 k_Law_law_2392 rfl rfl rfl (hi _ (by decide) (by decide)) ?_
  refine g_rd (j := 2) k_Law_law_2393 k_Law_law_2394 k_Law_law_2396 k_Law_law_2397 k_Law_law_2398 rfl rfl rfl (hi _ (by decide) (by decide)) ?_
  refine g_cv (bc' := 0) (bs' := 0) k_Law_law_2399 lv_Law_252 (by decide +kernel) (T := F_Mod) (N := 61) (ci := 10) rfl (sk_Mod S.2.1) (s_Mod_sum (bc := 0) (bs := 0) S.2.1 F _ _ _ e2 (by omega)) rfl rfl (by simp [Value.category]) (by simp [Value.category]) (by omega) (by omega) (by omega) ?_
  refine g_istore k_Law_law_2402 (by decide) ?_
  refine g_aload_n k_Law_law_2404 rfl rfl ?_
  refine g_cv (bc' := 0) (bs' := 0) k_Law_law_2405 lv_Law_132 (by decide +kernel) (T := F_Mod) (N := 61) (ci := 10) rfl (sk_Mod S.2.1) (s_Mod_thrown (bc := 0) (bs := 0) S.2.1 _ rfl) rfl rfl (by simp [Value.category]) (by simp [Value.category]) (by omega) (by omega) (by omega) ?_
  refine g_iload k_Law_law_2408 rfl ?_
  refine g_icmp_eq (tgt := 2415) k_Law_law_2410 (by decide) (fun _ => ?_) (fun c => absurd rfl c)
  refine g_iload k_Law_law_2415 rfl ?_
  rcases co_cs co (by decide) with ⟨y, rfl, h0, rfl⟩ | ⟨E, rfl, h0⟩
  · refine g_if_ne (tgt := 2432) k_Law_law_2417 (by decide) (fun _ => ?_) (fun c => absurd h0 c)
    refine g_aload_n k_Law_law_2420 rfl rfl ?_
    refine g_iconst (v := 0) k_Law_law_2421 rfl ?_
    refine g_lald k_Law_law_2422 S.2.2.1 in01 ?_
    refine g_iload k_Law_law_2423 rfl ?_
    refine g_i2l k_Law_law_2425 ?_
    refine g_lcmp k_Law_law_2426 ?_
    refine G.v (y := 0) (by rw [show (0 : Int32).toNatClampNeg = 0 from rfl, gO_rd]; exact lgc0 _) ?_
    refine g_if_eq (tgt := 2432) k_Law_law_2427 (by decide) (fun _ => ?_) (fun c => absurd rfl c)
    refine g_goto (tgt := 2591) k_Law_law_2432 (by decide) ?_
    exact lw_w (hk _ _ _ _ ((I.p iv ag (by omega) (by omega)).ex gO_ex))
  · refine g_if_ne (tgt := 2432) k_Law_law_2417 (by decide) (fun c => absurd c h0) (fun _ => ?_)
    refine g_goto (tgt := 2591) k_Law_law_2432 (by decide) ?_
    exact lw_w (hk _ _ _ _ ((I.p iv ag (by omega) (by omega)).ex gO_ex))
theorem lc_halves {K : aK} {d bc bs n F : Nat} {g : aG} {m : aM} {Q : aQ} {i : Int32} (hF : 20000 ≤ F) (hd : 600 ≤ d) (hi : rdO K i) (I : LI (n + 1) g m bc bs) (hk : LK K d n i Q) : G K M_Law_law (d + 2) bc bs 2435 (lwL i (.double 0) (.double 0)) [] (g, m) Q := by
  obtain ⟨r, m1, e1, v, m2, e2, co, iv, ag⟩ := z_halvesI (scr K i 1) (scr K i 2) F m (by omega) I.1
  have C : SpG K M_Led_halves d 12 60 [.ref 0, .int (scr K i 1), .int (scr K i 2)] (g, m) (o_out _) _ (fun g' => g' = g) := spe_g (s_Led_halves I.2.1.1 F _ _ m e1 (by omega) (by omega) (by omega))
  have b1 := I.2.2.2.2.2.1
  obtain ⟨pw, pl, b2, -, -⟩ := I.2.2.2.2.2.2
  refine g_aload_n k_Law_law_2435 rfl rfl ?_
  refine g_rd (j := 1) k_Law_law_2436 k_Law_law_2437 k_Law_law_2439 k_Law_law_2440 k_Law_law_2441 rfl rfl rfl (hi _ (by decide) (by decide)) ?_
  refine g_rd (j := 2) k_Law_law_2442 k_Law_law_2443 k_Law_law_2445 k_Law_law_2446 k_Law_law_2447 rfl rfl rfl (hi _ (by decide) (by decide)) ?_
  refine g_aload_n k_Law_law_2448 rfl rfl ?_
  refine g_hR (bc' := 12) (bs' := 60) k_Law_law_2449 lh_Law_253 (by decide +kernel) (s_Law_halves (sk_Led I.2.1.1) C (fun g' hg => by subst hg; exact I.2.1.2.2.1) co) rfl rfl (by simp [Value.category]) (by simp [Value.category]) (by omega) (by omega) (fun v' h' P => ?_)
  obtain ⟨g', rfl, rfl, rfl⟩ := P
  have S : LSy (gO Int32.toInt64 g' r) := I.2.1.gO
  refine g_istore k_Law_law_2452 (by decide) ?_
  refine g_aload_n k_Law_law_2454 rfl rfl ?_
  refine g_rd (j := 1) k_Law_law_2455 k_Law_law_2456 k_Law_law_2458 k_Law_law_2459 k_Law_law_2460 rfl rfl rfl (hi _ (by decide) (by decide)) ?_
  refine g_rd (j := 2) k_Law_law_2461 k_Law_law_2462 k_Law_law_2464 k_Law_law_2465 k_Law_law_2466 rfl rfl rfl (hi _ (by decide) (by decide)) ?_
  refine g_cv (bc' := 0) (bs' := 0) k_Law_law_2467 lv_Law_255 (by decide +kernel) (T := F_Mod) (N := 61) (ci := 10) rfl (sk_Mod S.2.1) (s_Mod_halves (bc := 0) (bs := 0) S.2.1 F _ _ _ e2 (by omega)) rfl rfl (by simp [Value.category]) (by simp [Value.category]) (by omega) (by omega) (by omega) ?_
  refine g_istore k_Law_law_2470 (by decide) ?_
  refine g_aload_n k_Law_law_2472 rfl rfl ?_
  refine g_cv (bc' := 0) (bs' := 0) k_Law_law_2473 lv_Law_132 (by decide +kernel) (T := F_Mod) (N := 61) (ci := 10) rfl (sk_Mod S.2.1) (s_Mod_thrown (bc := 0) (bs := 0) S.2.1 _ rfl) rfl rfl (by simp [Value.category]) (by simp [Value.category]) (by omega) (by omega) (by omega) ?_
  refine g_iload k_Law_law_2476 rfl ?_
  refine g_icmp_eq (tgt := 2483) k_Law_law_2478 (by decide) (fun _ => ?_) (fun c => absurd rfl c)
  refine g_iload k_Law_law_2483 rfl ?_
  rcases co_cs co (by decide) with ⟨y, rfl, h0, rfl⟩ | ⟨E, rfl, h0⟩
  · refine g_if_ne (tgt := 2500) k_Law_law_2485 (by decide) (fun _ => ?_) (fun c => absurd h0 c)
    refine g_aload_n k_Law_law_2488 rfl rfl ?_
    refine g_iconst (v := 0) k_Law_law_2489 rfl ?_
    refine g_lald k_Law_law_2490 S.2.2.1 in01 ?_
    refine g_iload k_Law_law_2491 rfl ?_
    refine g_i2l k_Law_law_2493 ?_
    refine g_lcmp k_Law_law_2494 ?_
    refine G.v (y := 0) (by rw [show (0 : Int32).toNatClampNeg = 0 from rfl, gO_rd]; exact lgc0 _) ?_
    refine g_if_eq (tgt := 2500) k_Law_law_2495 (by decide) (fun _ => ?_) (fun c => absurd rfl c)
    refine g_goto (tgt := 2591) k_Law_law_2500 (by decide) ?_
    exact lw_w (hk _ _ _ _ ((I.p iv ag (by omega) (by omega)).ex gO_ex))
  · refine g_if_ne (tgt := 2500) k_Law_law_2485 (by decide) (fun c => absurd c h0) (fun _ => ?_)
    refine g_goto (tgt := 2591) k_Law_law_2500 (by decide) ?_
    exact lw_w (hk _ _ _ _ ((I.p iv ag (by omega) (by omega)).ex gO_ex))
theorem lc_mend {K : aK} {d bc bs n F : Nat} {g : aG} {m : aM} {Q : aQ} {i : Int32} (hF : 20000 ≤ F) (hd : 600 ≤ d) (hi : rdO K i) (I : LI (n + 1) g m bc bs) (hk : LK K d n i Q) : G K M_Law_law (d + 2) bc bs 2503 (lwL i (.double 0) (.double 0)) [] (g, m) Q := by
  obtain ⟨r, m1, e1, v, m2, e2, co, iv, ag⟩ := z_mendI (scr K i 1) F m (by omega) I.1
  have C : SpG K M_Led_mend d 12 60 [.ref 0, .int (scr K i 1)] (g, m) (o_out _) _ (fun g' => g' = g) := spe_g (s_Led_mend I.2.1.1 F _ m e1 (by omega) (by omega) (by omega))
  have b1 := I.2.2.2.2.2.1
  obtain ⟨pw, pl, b2, -, -⟩ := I.2.2.2.2.2.2
  refine g_aload_n k_Law_law_2503 rfl rfl ?_
  refine g_rd (j := 1) k_Law_law_2504 k_Law_law_2505 k_Law_law_2507 k_Law_law_2508 k_Law_law_2509 rfl rfl rfl (hi _ (by decide) (by decide)) ?_
  refine g_aload_n k_Law_law_2510 rfl rfl ?_
  refine g_hR (bc' := 12) (bs' := 60) k_Law_law_2511 lh_Law_256 (by decide +kernel) (s_Law_mend (sk_Led I.2.1.1) C (fun g' hg => by subst hg; exact I.2.1.2.2.1) co) rfl rfl (by simp [Value.category]) (by simp [Value.category]) (by omega) (by omega) (fun v' h' P => ?_)
  obtain ⟨g', rfl, rfl, rfl⟩ := P
  have S : LSy (gO zL g' r) := I.2.1.gO
  refine g_istore k_Law_law_2514 (by decide) ?_
  refine g_aload_n k_Law_law_2516 rfl rfl ?_
  refine g_rd (j := 1) k_Law_law_2517 k_Law_law_2518 k_Law_law_2520 k_Law_law_2521 k_Law_law_2522 rfl rfl rfl (hi _ (by decide) (by decide)) ?_
  refine g_cv (bc' := 0) (bs' := 0) k_Law_law_2523 lv_Law_258 (by decide +kernel) (T := F_Mod) (N := 61) (ci := 10) rfl (sk_Mod S.2.1) (s_Mod_mend (bc := 0) (bs := 0) S.2.1 F _ _ e2 (by omega)) rfl rfl (by simp [Value.category]) (by simp [Value.category]) (by omega) (by omega) (by omega) ?_
  refine g_istore k_Law_law_2526 (by decide) ?_
  refine g_aload_n k_Law_law_2528 rfl rfl ?_
  refine g_cv (bc' := 0) (bs' := 0) k_Law_law_2529 lv_Law_132 (by decide +kernel) (T := F_Mod) (N := 61) (ci := 10) rfl (sk_Mod S.2.1) (s_Mod_thrown (bc := 0) (bs := 0) S.2.1 _ rfl) rfl rfl (by simp [Value.category]) (by simp [Value.category]) (by omega) (by omega) (by omega) ?_
  refine g_iload k_Law_law_2532 rfl ?_
  refine g_icmp_eq (tgt := 2539) k_Law_law_2534 (by decide) (fun _ => ?_) (fun c => absurd rfl c)
  refine g_iload k_Law_law_2539 rfl ?_
  rcases co_cs co (by decide) with ⟨y, rfl, h0, rfl⟩ | ⟨E, rfl, h0⟩
  · refine g_if_ne (tgt := 2563) k_Law_law_2541 (by decide) (fun _ => ?_) (fun c => absurd h0 c)
    refine g_aload_n k_Law_law_2544 rfl rfl ?_
    refine g_iconst (v := 0) k_Law_law_2545 rfl ?_
    refine g_lald k_Law_law_2546 S.2.2.1 in01 ?_
    refine g_iload k_Law_law_2547 rfl ?_
    refine g_bl k_Law_law_2549 k_Law_law_2552 k_Law_law_2553 k_Law_law_2556 ?_
    refine g_lcmp k_Law_law_2557 ?_
    refine G.v (y := 0) (by rw [show (0 : Int32).toNatClampNeg = 0 from rfl, gO_rd]; exact lgc0 _) ?_
    refine g_if_eq (tgt := 2563) k_Law_law_2558 (by decide) (fun _ => ?_) (fun c => absurd rfl c)
    refine g_goto (tgt := 2591) k_Law_law_2563 (by decide) ?_
    exact lw_w (hk _ _ _ _ ((I.p iv ag (by omega) (by omega)).ex gO_ex))
  · refine g_if_ne (tgt := 2563) k_Law_law_2541 (by decide) (fun c => absurd c h0) (fun _ => ?_)
    refine g_goto (tgt := 2591) k_Law_law_2563 (by decide) ?_
    exact lw_w (hk _ _ _ _ ((I.p iv ag (by omega) (by omega)).ex gO_ex))
theorem lc_count {K : aK} {d bc bs n F : Nat} {g : aG} {m : aM} {Q : aQ} {i : Int32} (hF : 20000 ≤ F) (hd : 600 ≤ d) (hi : rdO K i) (I : LI (n + 1) g m bc bs) (hk : LK K d n i Q) : G K M_Law_law (d + 2) bc bs 2566 (lwL i (.double 0) (.double 0)) [] (g, m) Q := by
  obtain ⟨r, m1, e1, m2, e2, iv, ag⟩ := z_countI (scr K i 1) F m (by omega) I.1
  refine g_aload_n k_Law_law_2566 rfl rfl ?_
  refine g_rd (j := 1) k_Law_law_2567 k_Law_law_2568 k_Law_law_2570 k_Law_law_2571 k_Law_law_2572 rfl rfl rfl (hi _ (by decide) (by decide)) ?_
  refine g_cv (bc' := 0) (bs' := 0) k_Law_law_2573 lv_Law_259 (by decide +kernel) (T := F_Led) (N := 10) (ci := 9) rfl (sk_Led I.2.1.1) (s_Led_count (bc := 0) (bs := 0) I.2.1.1 F _ m e1 (by omega)) rfl rfl (by simp [Value.category]) (by simp [Value.category]) (by omega) (by omega) (by omega) ?_
  refine g_aload_n k_Law_law_2576 rfl rfl ?_
  refine g_rd (j := 1) k_Law_law_2577 k_Law_law_2578 k_Law_law_2580 k_Law_law_2581 k_Law_law_2582 rfl rfl rfl (hi _ (by decide) (by decide)) ?_
  refine g_cv (bc' := 0) (bs' := 0) k_Law_law_2583 lv_Law_262 (by decide +kernel) (T := F_Mod) (N := 61) (ci := 10) rfl (sk_Mod I.2.1.2.1) (s_Mod_count (bc := 0) (bs := 0) I.2.1.2.1 F _ _ e2 (by omega)) rfl rfl (by simp [Value.category]) (by simp [Value.category]) (by omega) (by omega) (by omega) ?_
  refine g_icmp_eq (tgt := 2591) k_Law_law_2586 (by decide) (fun _ => ?_) (fun c => absurd rfl c)
  exact hk _ _ _ _ (I.p iv ag (by omega) (by omega))
