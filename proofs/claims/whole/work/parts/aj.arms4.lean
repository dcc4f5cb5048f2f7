section ARM
variable {h : eg_H} {σ : eg_S} {tm i L g : Nat} {xs : Nat → Int32} {nm : String}
theorem arm_37 (LL : LI h σ B00 tm) (ht : tm < 1000) (hi : i + 6 ≤ L) (hL : L ≤ 3072) (kk : ∀ (h' : eg_H) (σ' : eg_S), LI h' σ' B00 (tm + 1) → eg_AW (RLw, cL_law, 7, 460, some (L, xs, g), nm, ret) lz_Z 3000 70000 h00 2717 [(4, .int (nI i)), (3, .ref 94), (2, .ref 54), (1, .ref 16), (0, .ref 0)] [] h') : eg_AW (RLw, cL_law, 7, 460, some (L, xs, g), nm, ret) lz_Z 3000 70000 h00 2117 [(4, .int (nI i)), (3, .ref 94), (2, .ref 54), (1, .ref 16), (0, .ref 0)] [] h := by
  have ld1 := ld_1 hi hL
  have ld2 := ld_2 hi hL
  have ld3 := ld_3 hi hL
  refine eg_aload_n (i := 1) 3 dL_law_2117 rfl rfl ?_
  refine eg_aload_n (i := 0) 4 dL_law_2118 rfl rfl ?_
  refine eg_iload (i := 4) 0 dL_law_2119 rfl ?_
  refine eg_iconst (v := (1 : Int32)) dL_law_2121 (by decide) ?_
  refine eg_iadd dL_law_2122 ?_
  refine eg_sld dL_law_2123 ld1 ?_
  refine eg_aload_n (i := 0) 4 dL_law_2124 rfl rfl ?_
  refine eg_iload (i := 4) 0 dL_law_2125 rfl ?_
  refine eg_iconst (v := (2 : Int32)) dL_law_2127 (by decide) ?_
  refine eg_iadd dL_law_2128 ?_
  refine eg_sld dL_law_2129 ld2 ?_
  refine eg_aload_n (i := 0) 4 dL_law_2130 rfl rfl ?_
  refine eg_iload (i := 4) 0 dL_law_2131 rfl ?_
  refine eg_iconst (v := (3 : Int32)) dL_law_2133 (by decide) ?_
  refine eg_iadd dL_law_2134 ?_
  refine eg_sld dL_law_2135 ld3 ?_
  obtain ⟨h1, h2, e1, e2, LN⟩ := L_spare LL (xs ((nI i) + (1 : Int32)).toNatClampNeg) (xs ((nI i) + (2 : Int32)).toNatClampNeg) (xs ((nI i) + (3 : Int32)).toNatClampNeg)
  refine eg_callV (c := 12) (n := 3) [.int ((xs ((nI i) + (1 : Int32)).toNatClampNeg)), .int ((xs ((nI i) + (2 : Int32)).toNatClampNeg)), .int ((xs ((nI i) + (3 : Int32)).toNatClampNeg))] dL_law_2136 (mX12_spare e1) rfl (fX12_spare_O e1) (Nat.le_of_ble_eq_true rfl) rfl ew_918 ew_919 ew_920 ew_100 ew_921 hy_X12_spare rfl (Nat.le_of_ble_eq_true rfl) (Nat.le_of_ble_eq_true rfl) (Nat.le_of_ble_eq_true rfl) ?_
  refine eg_aload_n (i := 2) 2 dL_law_2139 rfl rfl ?_
  refine eg_aload_n (i := 0) 4 dL_law_2140 rfl rfl ?_
  refine eg_iload (i := 4) 0 dL_law_2141 rfl ?_
  refine eg_iconst (v := (1 : Int32)) dL_law_2143 (by decide) ?_
  refine eg_iadd dL_law_2144 ?_
  refine eg_sld dL_law_2145 ld1 ?_
  refine eg_aload_n (i := 0) 4 dL_law_2146 rfl rfl ?_
  refine eg_iload (i := 4) 0 dL_law_2147 rfl ?_
  refine eg_iconst (v := (2 : Int32)) dL_law_2149 (by decide) ?_
  refine eg_iadd dL_law_2150 ?_
  refine eg_sld dL_law_2151 ld2 ?_
  refine eg_aload_n (i := 0) 4 dL_law_2152 rfl rfl ?_
  refine eg_iload (i := 4) 0 dL_law_2153 rfl ?_
  refine eg_iconst (v := (3 : Int32)) dL_law_2155 (by decide) ?_
  refine eg_iadd dL_law_2156 ?_
  refine eg_sld dL_law_2157 ld3 ?_
  refine eg_callV (c := 13) (n := 3) [.int ((xs ((nI i) + (1 : Int32)).toNatClampNeg)), .int ((xs ((nI i) + (2 : Int32)).toNatClampNeg)), .int ((xs ((nI i) + (3 : Int32)).toNatClampNeg))] dL_law_2158 (mX13_spare e2) rfl (fX13_spare_O e2) (Nat.le_of_ble_eq_true rfl) rfl ew_2125 ew_2126 ew_2127 ew_110 ew_2128 hy_X13_spare rfl (Nat.le_of_ble_eq_true rfl) (Nat.le_of_ble_eq_true rfl) (Nat.le_of_ble_eq_true rfl) ?_
  refine eg_ic_eq 2717 dL_law_2161 rfl (fun _ => ?_) (fun z => absurd rfl z)
  exact kk _ _ LN
theorem arm_38 (LL : LI h σ B00 tm) (ht : tm < 1000) (hi : i + 6 ≤ L) (hL : L ≤ 3072) (kk : ∀ (h' : eg_H) (σ' : eg_S), LI h' σ' B00 (tm + 1) → eg_AW (RLw, cL_law, 7, 460, some (L, xs, g), nm, ret) lz_Z 3000 70000 h00 2717 [(4, .int (nI i)), (3, .ref 94), (2, .ref 54), (1, .ref 16), (0, .ref 0)] [] h') : eg_AW (RLw, cL_law, 7, 460, some (L, xs, g), nm, ret) lz_Z 3000 70000 h00 2166 [(4, .int (nI i)), (3, .ref 94), (2, .ref 54), (1, .ref 16), (0, .ref 0)] [] h := by
  have ld1 := ld_1 hi hL
  have ld2 := ld_2 hi hL
  have ld3 := ld_3 hi hL
  have ld4 := ld_4 hi hL
  refine eg_aload_n (i := 1) 3 dL_law_2166 rfl rfl ?_
  refine eg_aload_n (i := 0) 4 dL_law_2167 rfl rfl ?_
  refine eg_iload (i := 4) 0 dL_law_2168 rfl ?_
  refine eg_iconst (v := (1 : Int32)) dL_law_2170 (by decide) ?_
  refine eg_iadd dL_law_2171 ?_
  refine eg_sld dL_law_2172 ld1 ?_
  refine eg_aload_n (i := 0) 4 dL_law_2173 rfl rfl ?_
  refine eg_iload (i := 4) 0 dL_law_2174 rfl ?_
  refine eg_iconst (v := (2 : Int32)) dL_law_2176 (by decide) ?_
  refine eg_iadd dL_law_2177 ?_
  refine eg_sld dL_law_2178 ld2 ?_
  refine eg_aload_n (i := 0) 4 dL_law_2179 rfl rfl ?_
  refine eg_iload (i := 4) 0 dL_law_2180 rfl ?_
  refine eg_iconst (v := (3 : Int32)) dL_law_2182 (by decide) ?_
  refine eg_iadd dL_law_2183 ?_
  refine eg_sld dL_law_2184 ld3 ?_
  refine eg_aload_n (i := 0) 4 dL_law_2185 rfl rfl ?_
  refine eg_iload (i := 4) 0 dL_law_2186 rfl ?_
  refine eg_iconst (v := (4 : Int32)) dL_law_2188 (by decide) ?_
  refine eg_iadd dL_law_2189 ?_
  refine eg_sld dL_law_2190 ld4 ?_
  obtain ⟨h1, h2, e1, e2, LN⟩ := L_least LL (xs ((nI i) + (1 : Int32)).toNatClampNeg) (xs ((nI i) + (2 : Int32)).toNatClampNeg) (xs ((nI i) + (3 : Int32)).toNatClampNeg) (xs ((nI i) + (4 : Int32)).toNatClampNeg)
  refine eg_callV (c := 12) (n := 4) [.int ((xs ((nI i) + (1 : Int32)).toNatClampNeg)), .int ((xs ((nI i) + (2 : Int32)).toNatClampNeg)), .int ((xs ((nI i) + (3 : Int32)).toNatClampNeg)), .int ((xs ((nI i) + (4 : Int32)).toNatClampNeg))] dL_law_2191 (mX12_least e1) rfl (fX12_least_O e1) (Nat.le_of_ble_eq_true rfl) rfl ew_927 ew_928 ew_929 ew_100 ew_930 hy_X12_least rfl (Nat.le_of_ble_eq_true rfl) (Nat.le_of_ble_eq_true rfl) (Nat.le_of_ble_eq_true rfl) ?_
  refine eg_aload_n (i := 2) 2 dL_law_2194 rfl rfl ?_
  refine eg_aload_n (i := 0) 4 dL_law_2195 rfl rfl ?_
  refine eg_iload (i := 4) 0 dL_law_2196 rfl ?_
  refine eg_iconst (v := (1 : Int32)) dL_law_2198 (by decide) ?_
  refine eg_iadd dL_law_2199 ?_
  refine eg_sld dL_law_2200 ld1 ?_
  refine eg_aload_n (i := 0) 4 dL_law_2201 rfl rfl ?_
  refine eg_iload (i := 4) 0 dL_law_2202 rfl ?_
  refine eg_iconst (v := (2 : Int32)) dL_law_2204 (by decide) ?_
  refine eg_iadd dL_law_2205 ?_
  refine eg_sld dL_law_2206 ld2 ?_
  refine eg_aload_n (i := 0) 4 dL_law_2207 rfl rfl ?_
  refine eg_iload (i := 4) 0 dL_law_2208 rfl ?_
  refine eg_iconst (v := (3 : Int32)) dL_law_2210 (by decide) ?_
  refine eg_iadd dL_law_2211 ?_
  refine eg_sld dL_law_2212 ld3 ?_
  refine eg_aload_n (i := 0) 4 dL_law_2213 rfl rfl ?_
  refine eg_iload (i := 4) 0 dL_law_2214 rfl ?_
  refine eg_iconst (v := (4 : Int32)) dL_law_2216 (by decide) ?_
  refine eg_iadd dL_law_2217 ?_
  refine eg_sld dL_law_2218 ld4 ?_
  refine eg_callV (c := 13) (n := 4) [.int ((xs ((nI i) + (1 : Int32)).toNatClampNeg)), .int ((xs ((nI i) + (2 : Int32)).toNatClampNeg)), .int ((xs ((nI i) + (3 : Int32)).toNatClampNeg)), .int ((xs ((nI i) + (4 : Int32)).toNatClampNeg))] dL_law_2219 (mX13_least e2) rfl (fX13_least_O e2) (Nat.le_of_ble_eq_true rfl) rfl ew_2133 ew_2134 ew_2135 ew_110 ew_2136 hy_X13_least rfl (Nat.le_of_ble_eq_true rfl) (Nat.le_of_ble_eq_true rfl) (Nat.le_of_ble_eq_true rfl) ?_
  refine eg_ic_eq 2717 dL_law_2222 rfl (fun _ => ?_) (fun z => absurd rfl z)
  exact kk _ _ LN
theorem arm_39 (LL : LI h σ B00 tm) (ht : tm < 1000) (hi : i + 6 ≤ L) (hL : L ≤ 3072) (kk : ∀ (h' : eg_H) (σ' : eg_S), LI h' σ' B00 (tm + 1) → eg_AW (RLw, cL_law, 7, 460, some (L, xs, g), nm, ret) lz_Z 3000 70000 h00 2717 [(4, .int (nI i)), (3, .ref 94), (2, .ref 54), (1, .ref 16), (0, .ref 0)] [] h') : eg_AW (RLw, cL_law, 7, 460, some (L, xs, g), nm, ret) lz_Z 3000 70000 h00 2227 [(4, .int (nI i)), (3, .ref 94), (2, .ref 54), (1, .ref 16), (0, .ref 0)] [] h := by
  have ld1 := ld_1 hi hL
  have ld2 := ld_2 hi hL
  have ld3 := ld_3 hi hL
  have ld4 := ld_4 hi hL
  have ld5 := ld_5 hi hL
  refine eg_aload_n (i := 1) 3 dL_law_2227 rfl rfl ?_
  refine eg_aload_n (i := 0) 4 dL_law_2228 rfl rfl ?_
  refine eg_iload (i := 4) 0 dL_law_2229 rfl ?_
  refine eg_iconst (v := (1 : Int32)) dL_law_2231 (by decide) ?_
  refine eg_iadd dL_law_2232 ?_
  refine eg_sld dL_law_2233 ld1 ?_
  refine eg_aload_n (i := 0) 4 dL_law_2234 rfl rfl ?_
  refine eg_iload (i := 4) 0 dL_law_2235 rfl ?_
  refine eg_iconst (v := (2 : Int32)) dL_law_2237 (by decide) ?_
  refine eg_iadd dL_law_2238 ?_
  refine eg_sld dL_law_2239 ld2 ?_
  refine eg_aload_n (i := 0) 4 dL_law_2240 rfl rfl ?_
  refine eg_iload (i := 4) 0 dL_law_2241 rfl ?_
  refine eg_iconst (v := (3 : Int32)) dL_law_2243 (by decide) ?_
  refine eg_iadd dL_law_2244 ?_
  refine eg_sld dL_law_2245 ld3 ?_
  refine eg_aload_n (i := 0) 4 dL_law_2246 rfl rfl ?_
  refine eg_iload (i := 4) 0 dL_law_2247 rfl ?_
  refine eg_iconst (v := (4 : Int32)) dL_law_2249 (by decide) ?_
  refine eg_iadd dL_law_2250 ?_
  refine eg_sld dL_law_2251 ld4 ?_
  refine eg_aload_n (i := 0) 4 dL_law_2252 rfl rfl ?_
  refine eg_iload (i := 4) 0 dL_law_2253 rfl ?_
  refine eg_iconst (v := (5 : Int32)) dL_law_2255 (by decide) ?_
  refine eg_iadd dL_law_2256 ?_
  refine eg_sld dL_law_2257 ld5 ?_
  obtain ⟨h1, h2, e1, e2, LN⟩ := L_loft LL (xs ((nI i) + (1 : Int32)).toNatClampNeg) (xs ((nI i) + (2 : Int32)).toNatClampNeg) (xs ((nI i) + (3 : Int32)).toNatClampNeg) (xs ((nI i) + (4 : Int32)).toNatClampNeg) (xs ((nI i) + (5 : Int32)).toNatClampNeg)
  refine eg_callV (c := 12) (n := 5) [.int ((xs ((nI i) + (1 : Int32)).toNatClampNeg)), .int ((xs ((nI i) + (2 : Int32)).toNatClampNeg)), .int ((xs ((nI i) + (3 : Int32)).toNatClampNeg)), .int ((xs ((nI i) + (4 : Int32)).toNatClampNeg)), .int ((xs ((nI i) + (5 : Int32)).toNatClampNeg))] dL_law_2258 (mX12_loft e1) rfl (fX12_loft_O e1) (Nat.le_of_ble_eq_true rfl) rfl ew_936 ew_937 ew_938 ew_100 ew_939 hy_X12_loft rfl (Nat.le_of_ble_eq_true rfl) (Nat.le_of_ble_eq_true rfl) (Nat.le_of_ble_eq_true rfl) ?_
  refine eg_aload_n (i := 2) 2 dL_law_2261 rfl rfl ?_
  refine eg_aload_n (i := 0) 4 dL_law_2262 rfl rfl ?_
  refine eg_iload (i := 4) 0 dL_law_2263 rfl ?_
  refine eg_iconst (v := (1 : Int32)) dL_law_2265 (by decide) ?_
  refine eg_iadd dL_law_2266 ?_
  refine eg_sld dL_law_2267 ld1 ?_
  refine eg_aload_n (i := 0) 4 dL_law_2268 rfl rfl ?_
  refine eg_iload (i := 4) 0 dL_law_2269 rfl ?_
  refine eg_iconst (v := (2 : Int32)) dL_law_2271 (by decide) ?_
  refine eg_iadd dL_law_2272 ?_
  refine eg_sld dL_law_2273 ld2 ?_
  refine eg_aload_n (i := 0) 4 dL_law_2274 rfl rfl ?_
  refine eg_iload (i := 4) 0 dL_law_2275 rfl ?_
  refine eg_iconst (v := (3 : Int32)) dL_law_2277 (by decide) ?_
  refine eg_iadd dL_law_2278 ?_
  refine eg_sld dL_law_2279 ld3 ?_
  refine eg_aload_n (i := 0) 4 dL_law_2280 rfl rfl ?_
  refine eg_iload (i := 4) 0 dL_law_2281 rfl ?_
  refine eg_iconst (v := (4 : Int32)) dL_law_2283 (by decide) ?_
  refine eg_iadd dL_law_2284 ?_
  refine eg_sld dL_law_2285 ld4 ?_
  refine eg_aload_n (i := 0) 4 dL_law_2286 rfl rfl ?_
  refine eg_iload (i := 4) 0 dL_law_2287 rfl ?_
  refine eg_iconst (v := (5 : Int32)) dL_law_2289 (by decide) ?_
  refine eg_iadd dL_law_2290 ?_
  refine eg_sld dL_law_2291 ld5 ?_
  refine eg_callV (c := 13) (n := 5) [.int ((xs ((nI i) + (1 : Int32)).toNatClampNeg)), .int ((xs ((nI i) + (2 : Int32)).toNatClampNeg)), .int ((xs ((nI i) + (3 : Int32)).toNatClampNeg)), .int ((xs ((nI i) + (4 : Int32)).toNatClampNeg)), .int ((xs ((nI i) + (5 : Int32)).toNatClampNeg))] dL_law_2292 (mX13_loft e2) rfl (fX13_loft_O e2) (Nat.le_of_ble_eq_true rfl) rfl ew_2137 ew_2138 ew_2139 ew_110 ew_2140 hy_X13_loft rfl (Nat.le_of_ble_eq_true rfl) (Nat.le_of_ble_eq_true rfl) (Nat.le_of_ble_eq_true rfl) ?_
  refine eg_ic_eq 2717 dL_law_2295 rfl (fun _ => ?_) (fun z => absurd rfl z)
  exact kk _ _ LN
theorem arm_40 (LL : LI h σ B00 tm) (ht : tm < 1000) (hi : i + 6 ≤ L) (hL : L ≤ 3072) (kk : ∀ (h' : eg_H) (σ' : eg_S), LI h' σ' B00 (tm + 1) → eg_AW (RLw, cL_law, 7, 460, some (L, xs, g), nm, ret) lz_Z 3000 70000 h00 2717 [(4, .int (nI i)), (3, .ref 94), (2, .ref 54), (1, .ref 16), (0, .ref 0)] [] h') : eg_AW (RLw, cL_law, 7, 460, some (L, xs, g), nm, ret) lz_Z 3000 70000 h00 2300 [(4, .int (nI i)), (3, .ref 94), (2, .ref 54), (1, .ref 16), (0, .ref 0)] [] h := by
  have ld1 := ld_1 hi hL
  have ld2 := ld_2 hi hL
  have ld3 := ld_3 hi hL
  refine eg_aload_n (i := 1) 3 dL_law_2300 rfl rfl ?_
  refine eg_aload_n (i := 0) 4 dL_law_2301 rfl rfl ?_
  refine eg_iload (i := 4) 0 dL_law_2302 rfl ?_
  refine eg_iconst (v := (1 : Int32)) dL_law_2304 (by decide) ?_
  refine eg_iadd dL_law_2305 ?_
  refine eg_sld dL_law_2306 ld1 ?_
  refine eg_aload_n (i := 0) 4 dL_law_2307 rfl rfl ?_
  refine eg_iload (i := 4) 0 dL_law_2308 rfl ?_
  refine eg_iconst (v := (2 : Int32)) dL_law_2310 (by decide) ?_
  refine eg_iadd dL_law_2311 ?_
  refine eg_sld dL_law_2312 ld2 ?_
  refine eg_aload_n (i := 0) 4 dL_law_2313 rfl rfl ?_
  refine eg_iload (i := 4) 0 dL_law_2314 rfl ?_
  refine eg_iconst (v := (3 : Int32)) dL_law_2316 (by decide) ?_
  refine eg_iadd dL_law_2317 ?_
  refine eg_sld dL_law_2318 ld3 ?_
  obtain ⟨h1, h2, e1, e2, LN⟩ := L_gusty LL (xs ((nI i) + (1 : Int32)).toNatClampNeg) (xs ((nI i) + (2 : Int32)).toNatClampNeg) (xs ((nI i) + (3 : Int32)).toNatClampNeg)
  refine eg_callV (c := 12) (n := 3) [.int ((xs ((nI i) + (1 : Int32)).toNatClampNeg)), .int ((xs ((nI i) + (2 : Int32)).toNatClampNeg)), .int ((xs ((nI i) + (3 : Int32)).toNatClampNeg))] dL_law_2319 (mX12_gusty e1) rfl (fX12_gusty_O e1) (Nat.le_of_ble_eq_true rfl) rfl ew_1030 ew_1031 ew_1032 ew_100 ew_1033 hy_X12_gusty rfl (Nat.le_of_ble_eq_true rfl) (Nat.le_of_ble_eq_true rfl) (Nat.le_of_ble_eq_true rfl) ?_
  refine eg_aload_n (i := 2) 2 dL_law_2322 rfl rfl ?_
  refine eg_aload_n (i := 0) 4 dL_law_2323 rfl rfl ?_
  refine eg_iload (i := 4) 0 dL_law_2324 rfl ?_
  refine eg_iconst (v := (1 : Int32)) dL_law_2326 (by decide) ?_
  refine eg_iadd dL_law_2327 ?_
  refine eg_sld dL_law_2328 ld1 ?_
  refine eg_aload_n (i := 0) 4 dL_law_2329 rfl rfl ?_
  refine eg_iload (i := 4) 0 dL_law_2330 rfl ?_
  refine eg_iconst (v := (2 : Int32)) dL_law_2332 (by decide) ?_
  refine eg_iadd dL_law_2333 ?_
  refine eg_sld dL_law_2334 ld2 ?_
  refine eg_aload_n (i := 0) 4 dL_law_2335 rfl rfl ?_
  refine eg_iload (i := 4) 0 dL_law_2336 rfl ?_
  refine eg_iconst (v := (3 : Int32)) dL_law_2338 (by decide) ?_
  refine eg_iadd dL_law_2339 ?_
  refine eg_sld dL_law_2340 ld3 ?_
  refine eg_callV (c := 13) (n := 3) [.int ((xs ((nI i) + (1 : Int32)).toNatClampNeg)), .int ((xs ((nI i) + (2 : Int32)).toNatClampNeg)), .int ((xs ((nI i) + (3 : Int32)).toNatClampNeg))] dL_law_2341 (mX13_gusty e2) rfl (fX13_gusty_O e2) (Nat.le_of_ble_eq_true rfl) rfl ew_2141 ew_2142 ew_2143 ew_110 ew_2144 hy_X13_gusty rfl (Nat.le_of_ble_eq_true rfl) (Nat.le_of_ble_eq_true rfl) (Nat.le_of_ble_eq_true rfl) ?_
  refine eg_lc_eq 2717 dL_law_2344 dL_law_2345 rfl (fun _ => ?_) (fun z => absurd rfl z)
  exact kk _ _ LN
theorem arm_41 (LL : LI h σ B00 tm) (ht : tm < 1000) (hi : i + 6 ≤ L) (hL : L ≤ 3072) (kk : ∀ (h' : eg_H) (σ' : eg_S), LI h' σ' B00 (tm + 1) → eg_AW (RLw, cL_law, 7, 460, some (L, xs, g), nm, ret) lz_Z 3000 70000 h00 2717 [(4, .int (nI i)), (3, .ref 94), (2, .ref 54), (1, .ref 16), (0, .ref 0)] [] h') : eg_AW (RLw, cL_law, 7, 460, some (L, xs, g), nm, ret) lz_Z 3000 70000 h00 2350 [(4, .int (nI i)), (3, .ref 94), (2, .ref 54), (1, .ref 16), (0, .ref 0)] [] h := by
  have ld1 := ld_1 hi hL
  have ld2 := ld_2 hi hL
  have ld3 := ld_3 hi hL
  have ld4 := ld_4 hi hL
  refine eg_aload_n (i := 1) 3 dL_law_2350 rfl rfl ?_
  refine eg_aload_n (i := 0) 4 dL_law_2351 rfl rfl ?_
  refine eg_iload (i := 4) 0 dL_law_2352 rfl ?_
  refine eg_iconst (v := (1 : Int32)) dL_law_2354 (by decide) ?_
  refine eg_iadd dL_law_2355 ?_
  refine eg_sld dL_law_2356 ld1 ?_
  refine eg_aload_n (i := 0) 4 dL_law_2357 rfl rfl ?_
  refine eg_iload (i := 4) 0 dL_law_2358 rfl ?_
  refine eg_iconst (v := (2 : Int32)) dL_law_2360 (by decide) ?_
  refine eg_iadd dL_law_2361 ?_
  refine eg_sld dL_law_2362 ld2 ?_
  refine eg_aload_n (i := 0) 4 dL_law_2363 rfl rfl ?_
  refine eg_iload (i := 4) 0 dL_law_2364 rfl ?_
  refine eg_iconst (v := (3 : Int32)) dL_law_2366 (by decide) ?_
  refine eg_iadd dL_law_2367 ?_
  refine eg_sld dL_law_2368 ld3 ?_
  refine eg_aload_n (i := 0) 4 dL_law_2369 rfl rfl ?_
  refine eg_iload (i := 4) 0 dL_law_2370 rfl ?_
  refine eg_iconst (v := (4 : Int32)) dL_law_2372 (by decide) ?_
  refine eg_iadd dL_law_2373 ?_
  refine eg_sld dL_law_2374 ld4 ?_
  obtain ⟨h1, h2, e1, e2, LN⟩ := L_measure LL (xs ((nI i) + (1 : Int32)).toNatClampNeg) (xs ((nI i) + (2 : Int32)).toNatClampNeg) (xs ((nI i) + (3 : Int32)).toNatClampNeg) (xs ((nI i) + (4 : Int32)).toNatClampNeg)
  refine eg_callV (c := 12) (n := 4) [.int ((xs ((nI i) + (1 : Int32)).toNatClampNeg)), .int ((xs ((nI i) + (2 : Int32)).toNatClampNeg)), .int ((xs ((nI i) + (3 : Int32)).toNatClampNeg)), .int ((xs ((nI i) + (4 : Int32)).toNatClampNeg))] dL_law_2375 (mX12_measure e1) rfl (fX12_measure_O e1) (Nat.le_of_ble_eq_true rfl) rfl ew_1262 ew_1263 ew_1264 ew_100 ew_1265 hy_X12_measure rfl (Nat.le_of_ble_eq_true rfl) (Nat.le_of_ble_eq_true rfl) (Nat.le_of_ble_eq_true rfl) ?_
  refine eg_aload_n (i := 2) 2 dL_law_2378 rfl rfl ?_
  refine eg_aload_n (i := 0) 4 dL_law_2379 rfl rfl ?_
  refine eg_iload (i := 4) 0 dL_law_2380 rfl ?_
  refine eg_iconst (v := (1 : Int32)) dL_law_2382 (by decide) ?_
  refine eg_iadd dL_law_2383 ?_
  refine eg_sld dL_law_2384 ld1 ?_
  refine eg_aload_n (i := 0) 4 dL_law_2385 rfl rfl ?_
  refine eg_iload (i := 4) 0 dL_law_2386 rfl ?_
  refine eg_iconst (v := (2 : Int32)) dL_law_2388 (by decide) ?_
  refine eg_iadd dL_law_2389 ?_
  refine eg_sld dL_law_2390 ld2 ?_
  refine eg_aload_n (i := 0) 4 dL_law_2391 rfl rfl ?_
  refine eg_iload (i := 4) 0 dL_law_2392 rfl ?_
  refine eg_iconst (v := (3 : Int32)) dL_law_2394 (by decide) ?_
  refine eg_iadd dL_law_2395 ?_
  refine eg_sld dL_law_2396 ld3 ?_
  refine eg_aload_n (i := 0) 4 dL_law_2397 rfl rfl ?_
  refine eg_iload (i := 4) 0 dL_law_2398 rfl ?_
  refine eg_iconst (v := (4 : Int32)) dL_law_2400 (by decide) ?_
  refine eg_iadd dL_law_2401 ?_
  refine eg_sld dL_law_2402 ld4 ?_
  refine eg_callV (c := 13) (n := 4) [.int ((xs ((nI i) + (1 : Int32)).toNatClampNeg)), .int ((xs ((nI i) + (2 : Int32)).toNatClampNeg)), .int ((xs ((nI i) + (3 : Int32)).toNatClampNeg)), .int ((xs ((nI i) + (4 : Int32)).toNatClampNeg))] dL_law_2403 (mX13_measure e2) rfl (fX13_measure_O e2) (Nat.le_of_ble_eq_true rfl) rfl ew_2145 ew_2146 ew_2147 ew_110 ew_2148 hy_X13_measure rfl (Nat.le_of_ble_eq_true rfl) (Nat.le_of_ble_eq_true rfl) (Nat.le_of_ble_eq_true rfl) ?_
  refine eg_ic_eq 2717 dL_law_2406 rfl (fun _ => ?_) (fun z => absurd rfl z)
  exact kk _ _ LN
theorem arm_42 (LL : LI h σ B00 tm) (ht : tm < 1000) (hi : i + 6 ≤ L) (hL : L ≤ 3072) (kk : ∀ (h' : eg_H) (σ' : eg_S), LI h' σ' B00 (tm + 1) → eg_AW (RLw, cL_law, 7, 460, some (L, xs, g), nm, ret) lz_Z 3000 70000 h00 2717 [(4, .int (nI i)), (3, .ref 94), (2, .ref 54), (1, .ref 16), (0, .ref 0)] [] h') : eg_AW (RLw, cL_law, 7, 460, some (L, xs, g), nm, ret) lz_Z 3000 70000 h00 2411 [(4, .int (nI i)), (3, .ref 94), (2, .ref 54), (1, .ref 16), (0, .ref 0)] [] h := by
  refine eg_aload_n (i := 1) 3 dL_law_2411 rfl rfl ?_
  obtain ⟨h1, h2, e1, e2, LN⟩ := L_held LL
  refine eg_callV (c := 12) (n := 0) [] dL_law_2412 (mX12_held e1) rfl (fX12_held_O e1) (Nat.le_of_ble_eq_true rfl) rfl ew_1266 ew_1267 ew_1268 ew_100 ew_1269 hy_X12_held rfl (Nat.le_of_ble_eq_true rfl) (Nat.le_of_ble_eq_true rfl) (Nat.le_of_ble_eq_true rfl) ?_
  refine eg_aload_n (i := 2) 2 dL_law_2415 rfl rfl ?_
  refine eg_callV (c := 13) (n := 0) [] dL_law_2416 (mX13_held e2) rfl (fX13_held_O e2) (Nat.le_of_ble_eq_true rfl) rfl ew_2149 ew_2150 ew_2151 ew_110 ew_2152 hy_X13_held rfl (Nat.le_of_ble_eq_true rfl) (Nat.le_of_ble_eq_true rfl) (Nat.le_of_ble_eq_true rfl) ?_
  refine eg_ic_eq 2717 dL_law_2419 rfl (fun _ => ?_) (fun z => absurd rfl z)
  exact kk _ _ LN
theorem arm_43 (LL : LI h σ B00 tm) (ht : tm < 1000) (hi : i + 6 ≤ L) (hL : L ≤ 3072) (kk : ∀ (h' : eg_H) (σ' : eg_S), LI h' σ' B00 (tm + 1) → eg_AW (RLw, cL_law, 7, 460, some (L, xs, g), nm, ret) lz_Z 3000 70000 h00 2717 [(4, .int (nI i)), (3, .ref 94), (2, .ref 54), (1, .ref 16), (0, .ref 0)] [] h') : eg_AW (RLw, cL_law, 7, 460, some (L, xs, g), nm, ret) lz_Z 3000 70000 h00 2424 [(4, .int (nI i)), (3, .ref 94), (2, .ref 54), (1, .ref 16), (0, .ref 0)] [] h := by
  have ld1 := ld_1 hi hL
  have ld2 := ld_2 hi hL
  have ld3 := ld_3 hi hL
  refine eg_aload_n (i := 1) 3 dL_law_2424 rfl rfl ?_
  refine eg_aload_n (i := 0) 4 dL_law_2425 rfl rfl ?_
  refine eg_iload (i := 4) 0 dL_law_2426 rfl ?_
  refine eg_iconst (v := (1 : Int32)) dL_law_2428 (by decide) ?_
  refine eg_iadd dL_law_2429 ?_
  refine eg_sld dL_law_2430 ld1 ?_
  refine eg_aload_n (i := 0) 4 dL_law_2431 rfl rfl ?_
  refine eg_iload (i := 4) 0 dL_law_2432 rfl ?_
  refine eg_iconst (v := (2 : Int32)) dL_law_2434 (by decide) ?_
  refine eg_iadd dL_law_2435 ?_
  refine eg_sld dL_law_2436 ld2 ?_
  refine eg_aload_n (i := 0) 4 dL_law_2437 rfl rfl ?_
  refine eg_iload (i := 4) 0 dL_law_2438 rfl ?_
  refine eg_iconst (v := (3 : Int32)) dL_law_2440 (by decide) ?_
  refine eg_iadd dL_law_2441 ?_
  refine eg_sld dL_law_2442 ld3 ?_
  obtain ⟨h1, h2, e1, e2, LN⟩ := L_chain LL (xs ((nI i) + (1 : Int32)).toNatClampNeg) (xs ((nI i) + (2 : Int32)).toNatClampNeg) (xs ((nI i) + (3 : Int32)).toNatClampNeg)
  refine eg_callV (c := 12) (n := 3) [.int ((xs ((nI i) + (1 : Int32)).toNatClampNeg)), .int ((xs ((nI i) + (2 : Int32)).toNatClampNeg)), .int ((xs ((nI i) + (3 : Int32)).toNatClampNeg))] dL_law_2443 (mX12_chain e1) rfl (fX12_chain_O e1) (Nat.le_of_ble_eq_true rfl) rfl ew_1218 ew_1219 ew_1220 ew_100 ew_1221 hy_X12_chain rfl (Nat.le_of_ble_eq_true rfl) (Nat.le_of_ble_eq_true rfl) (Nat.le_of_ble_eq_true rfl) ?_
  refine eg_aload_n (i := 2) 2 dL_law_2446 rfl rfl ?_
  refine eg_aload_n (i := 0) 4 dL_law_2447 rfl rfl ?_
  refine eg_iload (i := 4) 0 dL_law_2448 rfl ?_
  refine eg_iconst (v := (1 : Int32)) dL_law_2450 (by decide) ?_
  refine eg_iadd dL_law_2451 ?_
  refine eg_sld dL_law_2452 ld1 ?_
  refine eg_aload_n (i := 0) 4 dL_law_2453 rfl rfl ?_
  refine eg_iload (i := 4) 0 dL_law_2454 rfl ?_
  refine eg_iconst (v := (2 : Int32)) dL_law_2456 (by decide) ?_
  refine eg_iadd dL_law_2457 ?_
  refine eg_sld dL_law_2458 ld2 ?_
  refine eg_aload_n (i := 0) 4 dL_law_2459 rfl rfl ?_
  refine eg_iload (i := 4) 0 dL_law_2460 rfl ?_
  refine eg_iconst (v := (3 : Int32)) dL_law_2462 (by decide) ?_
  refine eg_iadd dL_law_2463 ?_
  refine eg_sld dL_law_2464 ld3 ?_
  refine eg_callV (c := 13) (n := 3) [.int ((xs ((nI i) + (1 : Int32)).toNatClampNeg)), .int ((xs ((nI i) + (2 : Int32)).toNatClampNeg)), .int ((xs ((nI i) + (3 : Int32)).toNatClampNeg))] dL_law_2465 (mX13_chain e2) rfl (fX13_chain_O e2) (Nat.le_of_ble_eq_true rfl) rfl ew_2153 ew_2154 ew_2155 ew_110 ew_2156 hy_X13_chain rfl (Nat.le_of_ble_eq_true rfl) (Nat.le_of_ble_eq_true rfl) (Nat.le_of_ble_eq_true rfl) ?_
  refine eg_ic_eq 2717 dL_law_2468 rfl (fun _ => ?_) (fun z => absurd rfl z)
  exact kk _ _ LN
theorem arm_44 (LL : LI h σ B00 tm) (ht : tm < 1000) (hi : i + 6 ≤ L) (hL : L ≤ 3072) (kk : ∀ (h' : eg_H) (σ' : eg_S), LI h' σ' B00 (tm + 1) → eg_AW (RLw, cL_law, 7, 460, some (L, xs, g), nm, ret) lz_Z 3000 70000 h00 2717 [(4, .int (nI i)), (3, .ref 94), (2, .ref 54), (1, .ref 16), (0, .ref 0)] [] h') : eg_AW (RLw, cL_law, 7, 460, some (L, xs, g), nm, ret) lz_Z 3000 70000 h00 2473 [(4, .int (nI i)), (3, .ref 94), (2, .ref 54), (1, .ref 16), (0, .ref 0)] [] h := by
  have ld1 := ld_1 hi hL
  have ld2 := ld_2 hi hL
  have ld3 := ld_3 hi hL
  refine eg_aload_n (i := 1) 3 dL_law_2473 rfl rfl ?_
  refine eg_aload_n (i := 0) 4 dL_law_2474 rfl rfl ?_
  refine eg_iload (i := 4) 0 dL_law_2475 rfl ?_
  refine eg_iconst (v := (1 : Int32)) dL_law_2477 (by decide) ?_
  refine eg_iadd dL_law_2478 ?_
  refine eg_sld dL_law_2479 ld1 ?_
  refine eg_aload_n (i := 0) 4 dL_law_2480 rfl rfl ?_
  refine eg_iload (i := 4) 0 dL_law_2481 rfl ?_
  refine eg_iconst (v := (2 : Int32)) dL_law_2483 (by decide) ?_
  refine eg_iadd dL_law_2484 ?_
  refine eg_sld dL_law_2485 ld2 ?_
  refine eg_aload_n (i := 0) 4 dL_law_2486 rfl rfl ?_
  refine eg_iload (i := 4) 0 dL_law_2487 rfl ?_
  refine eg_iconst (v := (3 : Int32)) dL_law_2489 (by decide) ?_
  refine eg_iadd dL_law_2490 ?_
  refine eg_sld dL_law_2491 ld3 ?_
  obtain ⟨h1, h2, e1, e2, LN⟩ := L_row LL (xs ((nI i) + (1 : Int32)).toNatClampNeg) (xs ((nI i) + (2 : Int32)).toNatClampNeg) (xs ((nI i) + (3 : Int32)).toNatClampNeg)
  refine eg_callV (c := 12) (n := 3) [.int ((xs ((nI i) + (1 : Int32)).toNatClampNeg)), .int ((xs ((nI i) + (2 : Int32)).toNatClampNeg)), .int ((xs ((nI i) + (3 : Int32)).toNatClampNeg))] dL_law_2492 (mX12_row e1) rfl (fX12_row_O e1) (Nat.le_of_ble_eq_true rfl) rfl ew_1230 ew_1231 ew_1232 ew_100 ew_1233 hy_X12_row rfl (Nat.le_of_ble_eq_true rfl) (Nat.le_of_ble_eq_true rfl) (Nat.le_of_ble_eq_true rfl) ?_
  refine eg_aload_n (i := 2) 2 dL_law_2495 rfl rfl ?_
  refine eg_aload_n (i := 0) 4 dL_law_2496 rfl rfl ?_
  refine eg_iload (i := 4) 0 dL_law_2497 rfl ?_
  refine eg_iconst (v := (1 : Int32)) dL_law_2499 (by decide) ?_
  refine eg_iadd dL_law_2500 ?_
  refine eg_sld dL_law_2501 ld1 ?_
  refine eg_aload_n (i := 0) 4 dL_law_2502 rfl rfl ?_
  refine eg_iload (i := 4) 0 dL_law_2503 rfl ?_
  refine eg_iconst (v := (2 : Int32)) dL_law_2505 (by decide) ?_
  refine eg_iadd dL_law_2506 ?_
  refine eg_sld dL_law_2507 ld2 ?_
  refine eg_aload_n (i := 0) 4 dL_law_2508 rfl rfl ?_
  refine eg_iload (i := 4) 0 dL_law_2509 rfl ?_
  refine eg_iconst (v := (3 : Int32)) dL_law_2511 (by decide) ?_
  refine eg_iadd dL_law_2512 ?_
  refine eg_sld dL_law_2513 ld3 ?_
  refine eg_callV (c := 13) (n := 3) [.int ((xs ((nI i) + (1 : Int32)).toNatClampNeg)), .int ((xs ((nI i) + (2 : Int32)).toNatClampNeg)), .int ((xs ((nI i) + (3 : Int32)).toNatClampNeg))] dL_law_2514 (mX13_row e2) rfl (fX13_row_O e2) (Nat.le_of_ble_eq_true rfl) rfl ew_2165 ew_2166 ew_2167 ew_110 ew_2168 hy_X13_row rfl (Nat.le_of_ble_eq_true rfl) (Nat.le_of_ble_eq_true rfl) (Nat.le_of_ble_eq_true rfl) ?_
  refine eg_ic_eq 2717 dL_law_2517 rfl (fun _ => ?_) (fun z => absurd rfl z)
  exact kk _ _ LN
theorem arm_45 (LL : LI h σ B00 tm) (ht : tm < 1000) (hi : i + 6 ≤ L) (hL : L ≤ 3072) (kk : ∀ (h' : eg_H) (σ' : eg_S), LI h' σ' B00 (tm + 1) → eg_AW (RLw, cL_law, 7, 460, some (L, xs, g), nm, ret) lz_Z 3000 70000 h00 2717 [(4, .int (nI i)), (3, .ref 94), (2, .ref 54), (1, .ref 16), (0, .ref 0)] [] h') : eg_AW (RLw, cL_law, 7, 460, some (L, xs, g), nm, ret) lz_Z 3000 70000 h00 2522 [(4, .int (nI i)), (3, .ref 94), (2, .ref 54), (1, .ref 16), (0, .ref 0)] [] h := by
  have ld1 := ld_1 hi hL
  have ld2 := ld_2 hi hL
  have ld3 := ld_3 hi hL
  have ld4 := ld_4 hi hL
  refine eg_aload_n (i := 1) 3 dL_law_2522 rfl rfl ?_
  refine eg_aload_n (i := 0) 4 dL_law_2523 rfl rfl ?_
  refine eg_iload (i := 4) 0 dL_law_2524 rfl ?_
  refine eg_iconst (v := (1 : Int32)) dL_law_2526 (by decide) ?_
  refine eg_iadd dL_law_2527 ?_
  refine eg_sld dL_law_2528 ld1 ?_
  refine eg_aload_n (i := 0) 4 dL_law_2529 rfl rfl ?_
  refine eg_iload (i := 4) 0 dL_law_2530 rfl ?_
  refine eg_iconst (v := (2 : Int32)) dL_law_2532 (by decide) ?_
  refine eg_iadd dL_law_2533 ?_
  refine eg_sld dL_law_2534 ld2 ?_
  refine eg_aload_n (i := 0) 4 dL_law_2535 rfl rfl ?_
  refine eg_iload (i := 4) 0 dL_law_2536 rfl ?_
  refine eg_iconst (v := (3 : Int32)) dL_law_2538 (by decide) ?_
  refine eg_iadd dL_law_2539 ?_
  refine eg_sld dL_law_2540 ld3 ?_
  refine eg_i2l dL_law_2541 ?_
  refine eg_bipush (v := (32 : Int32)) dL_law_2542 (by decide) ?_
  refine eg_lshl dL_law_2544 ?_
  refine eg_aload_n (i := 0) 4 dL_law_2545 rfl rfl ?_
  refine eg_iload (i := 4) 0 dL_law_2546 rfl ?_
  refine eg_iconst (v := (4 : Int32)) dL_law_2548 (by decide) ?_
  refine eg_iadd dL_law_2549 ?_
  refine eg_sld dL_law_2550 ld4 ?_
  refine eg_i2l dL_law_2551 ?_
  refine eg_ldc2 (v := (4294967295 : Int64)) dL_law_2552 ew_2201 ?_
  refine eg_land dL_law_2555 ?_
  refine eg_lor dL_law_2556 ?_
  obtain ⟨h1, h2, e1, e2, LN⟩ := L_game LL (xs ((nI i) + (1 : Int32)).toNatClampNeg) (xs ((nI i) + (2 : Int32)).toNatClampNeg) ((((xs ((nI i) + (3 : Int32)).toNatClampNeg)).toInt64 <<< (((32 : Int32)).toInt64 &&& 63)) ||| (((xs ((nI i) + (4 : Int32)).toNatClampNeg)).toInt64 &&& (4294967295 : Int64)))
  refine eg_callV (c := 12) (n := 3) [.int ((xs ((nI i) + (1 : Int32)).toNatClampNeg)), .int ((xs ((nI i) + (2 : Int32)).toNatClampNeg)), .long (((((xs ((nI i) + (3 : Int32)).toNatClampNeg)).toInt64 <<< (((32 : Int32)).toInt64 &&& 63)) ||| (((xs ((nI i) + (4 : Int32)).toNatClampNeg)).toInt64 &&& (4294967295 : Int64))))] dL_law_2557 (mX12_game e1) rfl (fX12_game_O e1) (Nat.le_of_ble_eq_true rfl) rfl ew_1313 ew_1314 ew_1315 ew_100 ew_1316 hy_X12_game rfl (Nat.le_of_ble_eq_true rfl) (Nat.le_of_ble_eq_true rfl) (Nat.le_of_ble_eq_true rfl) ?_
  refine eg_aload_n (i := 2) 2 dL_law_2560 rfl rfl ?_
  refine eg_aload_n (i := 0) 4 dL_law_2561 rfl rfl ?_
  refine eg_iload (i := 4) 0 dL_law_2562 rfl ?_
  refine eg_iconst (v := (1 : Int32)) dL_law_2564 (by decide) ?_
  refine eg_iadd dL_law_2565 ?_
  refine eg_sld dL_law_2566 ld1 ?_
  refine eg_aload_n (i := 0) 4 dL_law_2567 rfl rfl ?_
  refine eg_iload (i := 4) 0 dL_law_2568 rfl ?_
  refine eg_iconst (v := (2 : Int32)) dL_law_2570 (by decide) ?_
  refine eg_iadd dL_law_2571 ?_
  refine eg_sld dL_law_2572 ld2 ?_
  refine eg_aload_n (i := 0) 4 dL_law_2573 rfl rfl ?_
  refine eg_iload (i := 4) 0 dL_law_2574 rfl ?_
  refine eg_iconst (v := (3 : Int32)) dL_law_2576 (by decide) ?_
  refine eg_iadd dL_law_2577 ?_
  refine eg_sld dL_law_2578 ld3 ?_
  refine eg_i2l dL_law_2579 ?_
  refine eg_bipush (v := (32 : Int32)) dL_law_2580 (by decide) ?_
  refine eg_lshl dL_law_2582 ?_
  refine eg_aload_n (i := 0) 4 dL_law_2583 rfl rfl ?_
  refine eg_iload (i := 4) 0 dL_law_2584 rfl ?_
  refine eg_iconst (v := (4 : Int32)) dL_law_2586 (by decide) ?_
  refine eg_iadd dL_law_2587 ?_
  refine eg_sld dL_law_2588 ld4 ?_
  refine eg_i2l dL_law_2589 ?_
  refine eg_ldc2 (v := (4294967295 : Int64)) dL_law_2590 ew_2201 ?_
  refine eg_land dL_law_2593 ?_
  refine eg_lor dL_law_2594 ?_
  refine eg_callV (c := 13) (n := 3) [.int ((xs ((nI i) + (1 : Int32)).toNatClampNeg)), .int ((xs ((nI i) + (2 : Int32)).toNatClampNeg)), .long (((((xs ((nI i) + (3 : Int32)).toNatClampNeg)).toInt64 <<< (((32 : Int32)).toInt64 &&& 63)) ||| (((xs ((nI i) + (4 : Int32)).toNatClampNeg)).toInt64 &&& (4294967295 : Int64))))] dL_law_2595 (mX13_game e2) rfl (fX13_game_O e2) (Nat.le_of_ble_eq_true rfl) rfl ew_2173 ew_2174 ew_2175 ew_110 ew_2176 hy_X13_game rfl (Nat.le_of_ble_eq_true rfl) (Nat.le_of_ble_eq_true rfl) (Nat.le_of_ble_eq_true rfl) ?_
  refine eg_ic_eq 2717 dL_law_2598 rfl (fun _ => ?_) (fun z => absurd rfl z)
  exact kk _ _ LN
end ARM
