/-! the cases *of* the law 26 to 32 -/
set_option maxRecDepth 20000 in
set_option maxHeartbeats 4000000 in
theorem dl_case_26 {G : dk_G} {O : dl_T} {p : Program} {l : Launch} {e : Env} {s : State} {m : MethodId} {args : Array Value} {below : List Frame} {meth : Method} {c : Code} {cells slots : Nat} {Q : State → Prop} {b Ls : Nat} {xs : Nat → Int32} (hD : dk_D G) (hl : l.stackTraces = false) (hri : dk_RI G) (hmi : dk_MI G) (hg : dl_G G O) (C : dw_C G O p s m args c cL_law 9 RL) (hX : va_X b Ls xs s s.heap) (hb : b < s.heap.size) (hbA : ¬ dl_A O b) (hLs : Ls ≤ 3072) (hRc : cells + 1 ≤ room_1.cells ∧ slots + 6 ≤ room_1.slots) {i k : Nat} (hi : i + 6 ≤ Ls) (hk : k < 512) {σ : dk_S} {fO : Nat → Int64} {fD : Nat → UInt64} (hI : dq_I k σ) (kk : ∀ (u : dk_S) (fO' : Nat → Int64) (fD' : Nat → UInt64), dq_I (k + 1) u → dw_W G O p l e room_1 s m args below meth c (cells + 1) (slots + 6) Q 2297 (dl_L G O b i) [] u fO' fD') : dw_W G O p l e room_1 s m args below meth c cells slots Q 1872 (dl_L G O b i) [] σ fO fD := by
  refine dw_aload_n (i := 1) C dL_law_1872 (n := 1873) rfl rfl rfl ?_
  refine dw_aload_n (i := 0) C dL_law_1873 (n := 1874) rfl rfl rfl ?_
  refine dw_iload (i := 5) C dL_law_1874 (n := 1876) rfl rfl ?_
  refine dw_iconst (v := 1) C dL_law_1876 (n := 1877) rfl (by decide) ?_
  refine dw_iadd C dL_law_1877 (n := 1878) rfl ?_
  refine dw_sld C hX hb hbA (dl_in hi hLs (j := 1) (by decide) (by decide)) dL_law_1878 (n := 1879) rfl ?_
  refine dw_aload_n (i := 3) C dL_law_1879 (n := 1880) rfl rfl rfl ?_
  have hz : dz_C k (wf_X8_whereIs (xs (nI i + 1).toNatClampNeg)) (wf_X9_whereIs (xs (nI i + 1).toNatClampNeg)) [(eIO, 1)] σ := dz_whereIs hI
  obtain ⟨K, X, hwK, hXt, hM⟩ := dl_both hz (by decide +kernel)
  refine dw_callW C [] (cw_L_whereIs hD hl hri hg hXt hwK) yw_L_whereIs dk_wm_L_229 rfl (by decide) hRc rfl (by decide) rfl dL_law_1880 (n := 1883) rfl (fun r σ' fO' fD' hp => ?_)
  have hm := hM Int32.toInt64 fD r σ' fO' fD' hp
  refine dw_istore (i := 6) (L' := [some (.ref b), some (dk_r G 0 40), some (dk_r G 4 60), some (.ref O.2.1), some (.ref O.2.2.1), some (.int (nI i)), some (.int r), none, none]) C dL_law_1883 (n := 1885) rfl (dk_nc_of rfl) (Nat.le_of_ble_eq_true rfl) rfl ?_
  refine dw_aload_n (i := 2) C dL_law_1885 (n := 1886) rfl rfl rfl ?_
  refine dw_aload_n (i := 0) C dL_law_1886 (n := 1887) rfl rfl rfl ?_
  refine dw_iload (i := 5) C dL_law_1887 (n := 1889) rfl rfl ?_
  refine dw_iconst (v := 1) C dL_law_1889 (n := 1890) rfl (by decide) ?_
  refine dw_iadd C dL_law_1890 (n := 1891) rfl ?_
  refine dw_sld C hX hb hbA (dl_in hi hLs (j := 1) (by decide) (by decide)) dL_law_1891 (n := 1892) rfl ?_
  refine dw_callV C [] (cc_X9_whereIs hD hmi hm) yy_X9_whereIs dk_wm_L_231 rfl (by decide) hRc dk_sh60 rfl (hmi 60 (by decide) (by decide)) rfl (by decide) rfl dL_law_1892 (n := 1895) rfl (fun v u hv => ?_)
  obtain ⟨b1, rfl, hu, h0, hb1⟩ := hv
  refine dw_istore (i := 7) (L' := [some (.ref b), some (dk_r G 0 40), some (dk_r G 4 60), some (.ref O.2.1), some (.ref O.2.2.1), some (.int (nI i)), some (.int r), some (.int b1), none]) C dL_law_1895 (n := 1897) rfl (dk_nc_of rfl) (Nat.le_of_ble_eq_true rfl) rfl ?_
  refine dw_aload_n (i := 2) C dL_law_1897 (n := 1898) rfl rfl rfl ?_
  refine dw_callV C [] (cc_X9_thrown hD hmi (dl_thr h0)) yy_X9_thrown dk_wm_L_140 rfl (by decide) hRc dk_sh60 rfl (hmi 60 (by decide) (by decide)) rfl (by decide) rfl dL_law_1898 (n := 1901) rfl (fun v w hv => ?_)
  obtain ⟨x1, rfl, e1, e2⟩ := hv
  subst e2
  refine dw_iload (i := 6) C dL_law_1901 (n := 1903) rfl rfl ?_
  refine dw_icmp_eq (t := 1908) C dL_law_1903 (n := 1906) rfl (by decide) (fun _ => ?_) (fun hc => absurd e1 hc)
  refine dw_iload (i := 6) C dL_law_1908 (n := 1910) rfl rfl ?_
  have hex : dw_W G O p l e room_1 s m args below meth c (cells + 1) (slots + 6) Q 1925 [some (.ref b), some (dk_r G 0 40), some (dk_r G 4 60), some (.ref O.2.1), some (.ref O.2.2.1), some (.int (nI i)), some (.int r), some (.int b1), none] [] w fO' fD' := dw_goto (t := 2297) C dL_law_1925 (by decide) (dw_sub (L0 := dl_L G O b i) ⟨rfl, rfl, rfl, rfl, rfl, rfl, trivial⟩ (kk w fO' fD' hu))
  refine dw_if_ne (t := 1925) C dL_law_1910 (n := 1913) rfl (by decide) (fun _ => hex) (fun hc => ?_)
  refine dw_aload_n (i := 3) C dL_law_1913 (n := 1914) rfl rfl rfl ?_
  refine dw_iconst (v := 0) C dL_law_1914 (n := 1915) rfl (by decide) ?_
  refine dw_lald C dL_law_1915 (n := 1916) rfl ?_
  refine dw_iload (i := 7) C dL_law_1916 (n := 1918) rfl rfl ?_
  refine dw_i2l C dL_law_1918 (n := 1919) rfl ?_
  refine dw_lcmp C dL_law_1919 (n := 1920) rfl ?_
  exact dw_if_eq (t := 1925) C dL_law_1920 (n := 1923) rfl (by decide) (fun _ => hex) (fun hn => absurd (dl_cmp0 (hb1 hc)) hn)
set_option maxRecDepth 20000 in
set_option maxHeartbeats 4000000 in
theorem dl_case_27 {G : dk_G} {O : dl_T} {p : Program} {l : Launch} {e : Env} {s : State} {m : MethodId} {args : Array Value} {below : List Frame} {meth : Method} {c : Code} {cells slots : Nat} {Q : State → Prop} {b Ls : Nat} {xs : Nat → Int32} (hD : dk_D G) (hl : l.stackTraces = false) (hri : dk_RI G) (hmi : dk_MI G) (hg : dl_G G O) (C : dw_C G O p s m args c cL_law 9 RL) (hX : va_X b Ls xs s s.heap) (hb : b < s.heap.size) (hbA : ¬ dl_A O b) (hLs : Ls ≤ 3072) (hRc : cells + 1 ≤ room_1.cells ∧ slots + 6 ≤ room_1.slots) {i k : Nat} (hi : i + 6 ≤ Ls) (hk : k < 512) {σ : dk_S} {fO : Nat → Int64} {fD : Nat → UInt64} (hI : dq_I k σ) (kk : ∀ (u : dk_S) (fO' : Nat → Int64) (fD' : Nat → UInt64), dq_I (k + 1) u → dw_W G O p l e room_1 s m args below meth c (cells + 1) (slots + 6) Q 2297 (dl_L G O b i) [] u fO' fD') : dw_W G O p l e room_1 s m args below meth c cells slots Q 1928 (dl_L G O b i) [] σ fO fD := by
  refine dw_aload_n (i := 1) C dL_law_1928 (n := 1929) rfl rfl rfl ?_
  refine dw_aload_n (i := 0) C dL_law_1929 (n := 1930) rfl rfl rfl ?_
  refine dw_iload (i := 5) C dL_law_1930 (n := 1932) rfl rfl ?_
  refine dw_iconst (v := 1) C dL_law_1932 (n := 1933) rfl (by decide) ?_
  refine dw_iadd C dL_law_1933 (n := 1934) rfl ?_
  refine dw_sld C hX hb hbA (dl_in hi hLs (j := 1) (by decide) (by decide)) dL_law_1934 (n := 1935) rfl ?_
  refine dw_aload_n (i := 3) C dL_law_1935 (n := 1936) rfl rfl rfl ?_
  have hz : dz_C k (wf_X8_weightOf (xs (nI i + 1).toNatClampNeg)) (wf_X9_weightOf (xs (nI i + 1).toNatClampNeg)) [(eIO, 1)] σ := dz_weightOf hI
  obtain ⟨K, X, hwK, hXt, hM⟩ := dl_both hz (by decide +kernel)
  refine dw_callW C [] (cw_L_weightOf hD hl hri hg hXt hwK) yw_L_weightOf dk_wm_L_232 rfl (by decide) hRc rfl (by decide) rfl dL_law_1936 (n := 1939) rfl (fun r σ' fO' fD' hp => ?_)
  have hm := hM Int32.toInt64 fD r σ' fO' fD' hp
  refine dw_istore (i := 6) (L' := [some (.ref b), some (dk_r G 0 40), some (dk_r G 4 60), some (.ref O.2.1), some (.ref O.2.2.1), some (.int (nI i)), some (.int r), none, none]) C dL_law_1939 (n := 1941) rfl (dk_nc_of rfl) (Nat.le_of_ble_eq_true rfl) rfl ?_
  refine dw_aload_n (i := 2) C dL_law_1941 (n := 1942) rfl rfl rfl ?_
  refine dw_aload_n (i := 0) C dL_law_1942 (n := 1943) rfl rfl rfl ?_
  refine dw_iload (i := 5) C dL_law_1943 (n := 1945) rfl rfl ?_
  refine dw_iconst (v := 1) C dL_law_1945 (n := 1946) rfl (by decide) ?_
  refine dw_iadd C dL_law_1946 (n := 1947) rfl ?_
  refine dw_sld C hX hb hbA (dl_in hi hLs (j := 1) (by decide) (by decide)) dL_law_1947 (n := 1948) rfl ?_
  refine dw_callV C [] (cc_X9_weightOf hD hmi hm) yy_X9_weightOf dk_wm_L_234 rfl (by decide) hRc dk_sh60 rfl (hmi 60 (by decide) (by decide)) rfl (by decide) rfl dL_law_1948 (n := 1951) rfl (fun v u hv => ?_)
  obtain ⟨b1, rfl, hu, h0, hb1⟩ := hv
  refine dw_istore (i := 7) (L' := [some (.ref b), some (dk_r G 0 40), some (dk_r G 4 60), some (.ref O.2.1), some (.ref O.2.2.1), some (.int (nI i)), some (.int r), some (.int b1), none]) C dL_law_1951 (n := 1953) rfl (dk_nc_of rfl) (Nat.le_of_ble_eq_true rfl) rfl ?_
  refine dw_aload_n (i := 2) C dL_law_1953 (n := 1954) rfl rfl rfl ?_
  refine dw_callV C [] (cc_X9_thrown hD hmi (dl_thr h0)) yy_X9_thrown dk_wm_L_140 rfl (by decide) hRc dk_sh60 rfl (hmi 60 (by decide) (by decide)) rfl (by decide) rfl dL_law_1954 (n := 1957) rfl (fun v w hv => ?_)
  obtain ⟨x1, rfl, e1, e2⟩ := hv
  subst e2
  refine dw_iload (i := 6) C dL_law_1957 (n := 1959) rfl rfl ?_
  refine dw_icmp_eq (t := 1964) C dL_law_1959 (n := 1962) rfl (by decide) (fun _ => ?_) (fun hc => absurd e1 hc)
  refine dw_iload (i := 6) C dL_law_1964 (n := 1966) rfl rfl ?_
  have hex : dw_W G O p l e room_1 s m args below meth c (cells + 1) (slots + 6) Q 1981 [some (.ref b), some (dk_r G 0 40), some (dk_r G 4 60), some (.ref O.2.1), some (.ref O.2.2.1), some (.int (nI i)), some (.int r), some (.int b1), none] [] w fO' fD' := dw_goto (t := 2297) C dL_law_1981 (by decide) (dw_sub (L0 := dl_L G O b i) ⟨rfl, rfl, rfl, rfl, rfl, rfl, trivial⟩ (kk w fO' fD' hu))
  refine dw_if_ne (t := 1981) C dL_law_1966 (n := 1969) rfl (by decide) (fun _ => hex) (fun hc => ?_)
  refine dw_aload_n (i := 3) C dL_law_1969 (n := 1970) rfl rfl rfl ?_
  refine dw_iconst (v := 0) C dL_law_1970 (n := 1971) rfl (by decide) ?_
  refine dw_lald C dL_law_1971 (n := 1972) rfl ?_
  refine dw_iload (i := 7) C dL_law_1972 (n := 1974) rfl rfl ?_
  refine dw_i2l C dL_law_1974 (n := 1975) rfl ?_
  refine dw_lcmp C dL_law_1975 (n := 1976) rfl ?_
  exact dw_if_eq (t := 1981) C dL_law_1976 (n := 1979) rfl (by decide) (fun _ => hex) (fun hn => absurd (dl_cmp0 (hb1 hc)) hn)
set_option maxRecDepth 20000 in
set_option maxHeartbeats 4000000 in
theorem dl_case_28 {G : dk_G} {O : dl_T} {p : Program} {l : Launch} {e : Env} {s : State} {m : MethodId} {args : Array Value} {below : List Frame} {meth : Method} {c : Code} {cells slots : Nat} {Q : State → Prop} {b Ls : Nat} {xs : Nat → Int32} (hD : dk_D G) (hl : l.stackTraces = false) (hri : dk_RI G) (hmi : dk_MI G) (hg : dl_G G O) (C : dw_C G O p s m args c cL_law 9 RL) (hX : va_X b Ls xs s s.heap) (hb : b < s.heap.size) (hbA : ¬ dl_A O b) (hLs : Ls ≤ 3072) (hRc : cells + 1 ≤ room_1.cells ∧ slots + 6 ≤ room_1.slots) {i k : Nat} (hi : i + 6 ≤ Ls) (hk : k < 512) {σ : dk_S} {fO : Nat → Int64} {fD : Nat → UInt64} (hI : dq_I k σ) (kk : ∀ (u : dk_S) (fO' : Nat → Int64) (fD' : Nat → UInt64), dq_I (k + 1) u → dw_W G O p l e room_1 s m args below meth c (cells + 1) (slots + 6) Q 2297 (dl_L G O b i) [] u fO' fD') : dw_W G O p l e room_1 s m args below meth c cells slots Q 1984 (dl_L G O b i) [] σ fO fD := by
  refine dw_aload_n (i := 1) C dL_law_1984 (n := 1985) rfl rfl rfl ?_
  refine dw_aload_n (i := 0) C dL_law_1985 (n := 1986) rfl rfl rfl ?_
  refine dw_iload (i := 5) C dL_law_1986 (n := 1988) rfl rfl ?_
  refine dw_iconst (v := 1) C dL_law_1988 (n := 1989) rfl (by decide) ?_
  refine dw_iadd C dL_law_1989 (n := 1990) rfl ?_
  refine dw_sld C hX hb hbA (dl_in hi hLs (j := 1) (by decide) (by decide)) dL_law_1990 (n := 1991) rfl ?_
  refine dw_aload_n (i := 3) C dL_law_1991 (n := 1992) rfl rfl rfl ?_
  have hz : dz_C k (wf_X8_nameOf (xs (nI i + 1).toNatClampNeg)) (wf_X9_nameOf (xs (nI i + 1).toNatClampNeg)) [(eIO, 1), (eIS, 2)] σ := dz_nameOf hI
  obtain ⟨K, X, hwK, hXt, hM⟩ := dl_both hz (by decide +kernel)
  refine dw_callW C [] (cw_L_nameOf hD hl hri hg hXt hwK) yw_L_nameOf dk_wm_L_235 rfl (by decide) hRc rfl (by decide) rfl dL_law_1992 (n := 1995) rfl (fun r σ' fO' fD' hp => ?_)
  have hm := hM Int32.toInt64 fD r σ' fO' fD' hp
  refine dw_istore (i := 6) (L' := [some (.ref b), some (dk_r G 0 40), some (dk_r G 4 60), some (.ref O.2.1), some (.ref O.2.2.1), some (.int (nI i)), some (.int r), none, none]) C dL_law_1995 (n := 1997) rfl (dk_nc_of rfl) (Nat.le_of_ble_eq_true rfl) rfl ?_
  refine dw_aload_n (i := 2) C dL_law_1997 (n := 1998) rfl rfl rfl ?_
  refine dw_aload_n (i := 0) C dL_law_1998 (n := 1999) rfl rfl rfl ?_
  refine dw_iload (i := 5) C dL_law_1999 (n := 2001) rfl rfl ?_
  refine dw_iconst (v := 1) C dL_law_2001 (n := 2002) rfl (by decide) ?_
  refine dw_iadd C dL_law_2002 (n := 2003) rfl ?_
  refine dw_sld C hX hb hbA (dl_in hi hLs (j := 1) (by decide) (by decide)) dL_law_2003 (n := 2004) rfl ?_
  refine dw_callV C [] (cc_X9_nameOf hD hmi hm) yy_X9_nameOf dk_wm_L_237 rfl (by decide) hRc dk_sh60 rfl (hmi 60 (by decide) (by decide)) rfl (by decide) rfl dL_law_2004 (n := 2007) rfl (fun v u hv => ?_)
  obtain ⟨b1, rfl, hu, h0, hb1⟩ := hv
  refine dw_istore (i := 7) (L' := [some (.ref b), some (dk_r G 0 40), some (dk_r G 4 60), some (.ref O.2.1), some (.ref O.2.2.1), some (.int (nI i)), some (.int r), some (.int b1), none]) C dL_law_2007 (n := 2009) rfl (dk_nc_of rfl) (Nat.le_of_ble_eq_true rfl) rfl ?_
  refine dw_aload_n (i := 2) C dL_law_2009 (n := 2010) rfl rfl rfl ?_
  refine dw_callV C [] (cc_X9_thrown hD hmi (dl_thr h0)) yy_X9_thrown dk_wm_L_140 rfl (by decide) hRc dk_sh60 rfl (hmi 60 (by decide) (by decide)) rfl (by decide) rfl dL_law_2010 (n := 2013) rfl (fun v w hv => ?_)
  obtain ⟨x1, rfl, e1, e2⟩ := hv
  subst e2
  refine dw_iload (i := 6) C dL_law_2013 (n := 2015) rfl rfl ?_
  refine dw_icmp_eq (t := 2020) C dL_law_2015 (n := 2018) rfl (by decide) (fun _ => ?_) (fun hc => absurd e1 hc)
  refine dw_iload (i := 6) C dL_law_2020 (n := 2022) rfl rfl ?_
  have hex : dw_W G O p l e room_1 s m args below meth c (cells + 1) (slots + 6) Q 2037 [some (.ref b), some (dk_r G 0 40), some (dk_r G 4 60), some (.ref O.2.1), some (.ref O.2.2.1), some (.int (nI i)), some (.int r), some (.int b1), none] [] w fO' fD' := dw_goto (t := 2297) C dL_law_2037 (by decide) (dw_sub (L0 := dl_L G O b i) ⟨rfl, rfl, rfl, rfl, rfl, rfl, trivial⟩ (kk w fO' fD' hu))
  refine dw_if_ne (t := 2037) C dL_law_2022 (n := 2025) rfl (by decide) (fun _ => hex) (fun hc => ?_)
  refine dw_aload_n (i := 3) C dL_law_2025 (n := 2026) rfl rfl rfl ?_
  refine dw_iconst (v := 0) C dL_law_2026 (n := 2027) rfl (by decide) ?_
  refine dw_lald C dL_law_2027 (n := 2028) rfl ?_
  refine dw_iload (i := 7) C dL_law_2028 (n := 2030) rfl rfl ?_
  refine dw_i2l C dL_law_2030 (n := 2031) rfl ?_
  refine dw_lcmp C dL_law_2031 (n := 2032) rfl ?_
  exact dw_if_eq (t := 2037) C dL_law_2032 (n := 2035) rfl (by decide) (fun _ => hex) (fun hn => absurd (dl_cmp0 (hb1 hc)) hn)
set_option maxRecDepth 20000 in
set_option maxHeartbeats 4000000 in
theorem dl_case_29 {G : dk_G} {O : dl_T} {p : Program} {l : Launch} {e : Env} {s : State} {m : MethodId} {args : Array Value} {below : List Frame} {meth : Method} {c : Code} {cells slots : Nat} {Q : State → Prop} {b Ls : Nat} {xs : Nat → Int32} (hD : dk_D G) (hl : l.stackTraces = false) (hri : dk_RI G) (hmi : dk_MI G) (hg : dl_G G O) (C : dw_C G O p s m args c cL_law 9 RL) (hX : va_X b Ls xs s s.heap) (hb : b < s.heap.size) (hbA : ¬ dl_A O b) (hLs : Ls ≤ 3072) (hRc : cells + 1 ≤ room_1.cells ∧ slots + 6 ≤ room_1.slots) {i k : Nat} (hi : i + 6 ≤ Ls) (hk : k < 512) {σ : dk_S} {fO : Nat → Int64} {fD : Nat → UInt64} (hI : dq_I k σ) (kk : ∀ (u : dk_S) (fO' : Nat → Int64) (fD' : Nat → UInt64), dq_I (k + 1) u → dw_W G O p l e room_1 s m args below meth c (cells + 1) (slots + 6) Q 2297 (dl_L G O b i) [] u fO' fD') : dw_W G O p l e room_1 s m args below meth c cells slots Q 2040 (dl_L G O b i) [] σ fO fD := by
  refine dw_aload_n (i := 1) C dL_law_2040 (n := 2041) rfl rfl rfl ?_
  refine dw_aload_n (i := 0) C dL_law_2041 (n := 2042) rfl rfl rfl ?_
  refine dw_iload (i := 5) C dL_law_2042 (n := 2044) rfl rfl ?_
  refine dw_iconst (v := 1) C dL_law_2044 (n := 2045) rfl (by decide) ?_
  refine dw_iadd C dL_law_2045 (n := 2046) rfl ?_
  refine dw_sld C hX hb hbA (dl_in hi hLs (j := 1) (by decide) (by decide)) dL_law_2046 (n := 2047) rfl ?_
  refine dw_aload_n (i := 0) C dL_law_2047 (n := 2048) rfl rfl rfl ?_
  refine dw_iload (i := 5) C dL_law_2048 (n := 2050) rfl rfl ?_
  refine dw_iconst (v := 2) C dL_law_2050 (n := 2051) rfl (by decide) ?_
  refine dw_iadd C dL_law_2051 (n := 2052) rfl ?_
  refine dw_sld C hX hb hbA (dl_in hi hLs (j := 2) (by decide) (by decide)) dL_law_2052 (n := 2053) rfl ?_
  refine dw_aload_n (i := 3) C dL_law_2053 (n := 2054) rfl rfl rfl ?_
  have hz : dz_C k (wf_X8_isReachable (xs (nI i + 1).toNatClampNeg) (xs (nI i + 2).toNatClampNeg)) (wf_X9_isReachable (xs (nI i + 1).toNatClampNeg) (xs (nI i + 2).toNatClampNeg)) [(eIO, 1), (eIS, 2)] σ := dz_isReachable hI
  obtain ⟨K, X, hwK, hXt, hM⟩ := dl_both hz (by decide +kernel)
  refine dw_callW C [] (cw_L_isReachable hD hl hri hg hXt hwK) yw_L_isReachable dk_wm_L_238 rfl (by decide) hRc rfl (by decide) rfl dL_law_2054 (n := 2057) rfl (fun r σ' fO' fD' hp => ?_)
  have hm := hM dl_bl fD r σ' fO' fD' hp
  refine dw_istore (i := 6) (L' := [some (.ref b), some (dk_r G 0 40), some (dk_r G 4 60), some (.ref O.2.1), some (.ref O.2.2.1), some (.int (nI i)), some (.int r), none, none]) C dL_law_2057 (n := 2059) rfl (dk_nc_of rfl) (Nat.le_of_ble_eq_true rfl) rfl ?_
  refine dw_aload_n (i := 2) C dL_law_2059 (n := 2060) rfl rfl rfl ?_
  refine dw_aload_n (i := 0) C dL_law_2060 (n := 2061) rfl rfl rfl ?_
  refine dw_iload (i := 5) C dL_law_2061 (n := 2063) rfl rfl ?_
  refine dw_iconst (v := 1) C dL_law_2063 (n := 2064) rfl (by decide) ?_
  refine dw_iadd C dL_law_2064 (n := 2065) rfl ?_
  refine dw_sld C hX hb hbA (dl_in hi hLs (j := 1) (by decide) (by decide)) dL_law_2065 (n := 2066) rfl ?_
  refine dw_aload_n (i := 0) C dL_law_2066 (n := 2067) rfl rfl rfl ?_
  refine dw_iload (i := 5) C dL_law_2067 (n := 2069) rfl rfl ?_
  refine dw_iconst (v := 2) C dL_law_2069 (n := 2070) rfl (by decide) ?_
  refine dw_iadd C dL_law_2070 (n := 2071) rfl ?_
  refine dw_sld C hX hb hbA (dl_in hi hLs (j := 2) (by decide) (by decide)) dL_law_2071 (n := 2072) rfl ?_
  refine dw_callV C [] (cc_X9_isReachable hD hmi hm) yy_X9_isReachable dk_wm_L_240 rfl (by decide) hRc dk_sh60 rfl (hmi 60 (by decide) (by decide)) rfl (by decide) rfl dL_law_2072 (n := 2075) rfl (fun v u hv => ?_)
  obtain ⟨b1, rfl, hu, h0, hb1⟩ := hv
  refine dw_istore (i := 7) (L' := [some (.ref b), some (dk_r G 0 40), some (dk_r G 4 60), some (.ref O.2.1), some (.ref O.2.2.1), some (.int (nI i)), some (.int r), some (.int b1), none]) C dL_law_2075 (n := 2077) rfl (dk_nc_of rfl) (Nat.le_of_ble_eq_true rfl) rfl ?_
  refine dw_aload_n (i := 2) C dL_law_2077 (n := 2078) rfl rfl rfl ?_
  refine dw_callV C [] (cc_X9_thrown hD hmi (dl_thr h0)) yy_X9_thrown dk_wm_L_140 rfl (by decide) hRc dk_sh60 rfl (hmi 60 (by decide) (by decide)) rfl (by decide) rfl dL_law_2078 (n := 2081) rfl (fun v w hv => ?_)
  obtain ⟨x1, rfl, e1, e2⟩ := hv
  subst e2
  refine dw_iload (i := 6) C dL_law_2081 (n := 2083) rfl rfl ?_
  refine dw_icmp_eq (t := 2088) C dL_law_2083 (n := 2086) rfl (by decide) (fun _ => ?_) (fun hc => absurd e1 hc)
  refine dw_iload (i := 6) C dL_law_2088 (n := 2090) rfl rfl ?_
  have hex : dw_W G O p l e room_1 s m args below meth c (cells + 1) (slots + 6) Q 2112 [some (.ref b), some (dk_r G 0 40), some (dk_r G 4 60), some (.ref O.2.1), some (.ref O.2.2.1), some (.int (nI i)), some (.int r), some (.int b1), none] [] w fO' fD' := dw_goto (t := 2297) C dL_law_2112 (by decide) (dw_sub (L0 := dl_L G O b i) ⟨rfl, rfl, rfl, rfl, rfl, rfl, trivial⟩ (kk w fO' fD' hu))
  refine dw_if_ne (t := 2112) C dL_law_2090 (n := 2093) rfl (by decide) (fun _ => hex) (fun hc => ?_)
  refine dw_aload_n (i := 3) C dL_law_2093 (n := 2094) rfl rfl rfl ?_
  refine dw_iconst (v := 0) C dL_law_2094 (n := 2095) rfl (by decide) ?_
  refine dw_lald C dL_law_2095 (n := 2096) rfl ?_
  refine dw_iload (i := 7) C dL_law_2096 (n := 2098) rfl rfl ?_
  refine dw_boolL C dL_law_2098 dL_law_2101 dL_law_2102 dL_law_2105 (n := 2106) (by decide) (by decide) rfl ?_
  refine dw_lcmp C dL_law_2106 (n := 2107) rfl ?_
  exact dw_if_eq (t := 2112) C dL_law_2107 (n := 2110) rfl (by decide) (fun _ => hex) (fun hn => absurd (dl_cmp0 (hb1 hc)) hn)
set_option maxRecDepth 20000 in
set_option maxHeartbeats 4000000 in
theorem dl_case_30 {G : dk_G} {O : dl_T} {p : Program} {l : Launch} {e : Env} {s : State} {m : MethodId} {args : Array Value} {below : List Frame} {meth : Method} {c : Code} {cells slots : Nat} {Q : State → Prop} {b Ls : Nat} {xs : Nat → Int32} (hD : dk_D G) (hl : l.stackTraces = false) (hri : dk_RI G) (hmi : dk_MI G) (hg : dl_G G O) (C : dw_C G O p s m args c cL_law 9 RL) (hX : va_X b Ls xs s s.heap) (hb : b < s.heap.size) (hbA : ¬ dl_A O b) (hLs : Ls ≤ 3072) (hRc : cells + 1 ≤ room_1.cells ∧ slots + 6 ≤ room_1.slots) {i k : Nat} (hi : i + 6 ≤ Ls) (hk : k < 512) {σ : dk_S} {fO : Nat → Int64} {fD : Nat → UInt64} (hI : dq_I k σ) (kk : ∀ (u : dk_S) (fO' : Nat → Int64) (fD' : Nat → UInt64), dq_I (k + 1) u → dw_W G O p l e room_1 s m args below meth c (cells + 1) (slots + 6) Q 2297 (dl_L G O b i) [] u fO' fD') : dw_W G O p l e room_1 s m args below meth c cells slots Q 2115 (dl_L G O b i) [] σ fO fD := by
  refine dw_aload_n (i := 1) C dL_law_2115 (n := 2116) rfl rfl rfl ?_
  refine dw_aload_n (i := 3) C dL_law_2116 (n := 2117) rfl rfl rfl ?_
  have hz : dz_C k (wf_X8_isSame) (wf_X9_isSame) [(eIS, 1)] σ := dz_isSame hI
  obtain ⟨K, X, hwK, hXt, hM⟩ := dl_both hz (by decide +kernel)
  refine dw_callW C [] (cw_L_isSame hD hl hri hg hXt hwK) yw_L_isSame dk_wm_L_241 rfl (by decide) hRc rfl (by decide) rfl dL_law_2117 (n := 2120) rfl (fun r σ' fO' fD' hp => ?_)
  have hm := hM dl_bl fD r σ' fO' fD' hp
  refine dw_istore (i := 6) (L' := [some (.ref b), some (dk_r G 0 40), some (dk_r G 4 60), some (.ref O.2.1), some (.ref O.2.2.1), some (.int (nI i)), some (.int r), none, none]) C dL_law_2120 (n := 2122) rfl (dk_nc_of rfl) (Nat.le_of_ble_eq_true rfl) rfl ?_
  refine dw_aload_n (i := 2) C dL_law_2122 (n := 2123) rfl rfl rfl ?_
  refine dw_callV C [] (cc_X9_isSame hD hmi hm) yy_X9_isSame dk_wm_L_243 rfl (by decide) hRc dk_sh60 rfl (hmi 60 (by decide) (by decide)) rfl (by decide) rfl dL_law_2123 (n := 2126) rfl (fun v u hv => ?_)
  obtain ⟨b1, rfl, hu, h0, hb1⟩ := hv
  refine dw_istore (i := 7) (L' := [some (.ref b), some (dk_r G 0 40), some (dk_r G 4 60), some (.ref O.2.1), some (.ref O.2.2.1), some (.int (nI i)), some (.int r), some (.int b1), none]) C dL_law_2126 (n := 2128) rfl (dk_nc_of rfl) (Nat.le_of_ble_eq_true rfl) rfl ?_
  refine dw_aload_n (i := 2) C dL_law_2128 (n := 2129) rfl rfl rfl ?_
  refine dw_callV C [] (cc_X9_thrown hD hmi (dl_thr h0)) yy_X9_thrown dk_wm_L_140 rfl (by decide) hRc dk_sh60 rfl (hmi 60 (by decide) (by decide)) rfl (by decide) rfl dL_law_2129 (n := 2132) rfl (fun v w hv => ?_)
  obtain ⟨x1, rfl, e1, e2⟩ := hv
  subst e2
  refine dw_iload (i := 6) C dL_law_2132 (n := 2134) rfl rfl ?_
  refine dw_icmp_eq (t := 2139) C dL_law_2134 (n := 2137) rfl (by decide) (fun _ => ?_) (fun hc => absurd e1 hc)
  refine dw_iload (i := 6) C dL_law_2139 (n := 2141) rfl rfl ?_
  have hex : dw_W G O p l e room_1 s m args below meth c (cells + 1) (slots + 6) Q 2163 [some (.ref b), some (dk_r G 0 40), some (dk_r G 4 60), some (.ref O.2.1), some (.ref O.2.2.1), some (.int (nI i)), some (.int r), some (.int b1), none] [] w fO' fD' := dw_goto (t := 2297) C dL_law_2163 (by decide) (dw_sub (L0 := dl_L G O b i) ⟨rfl, rfl, rfl, rfl, rfl, rfl, trivial⟩ (kk w fO' fD' hu))
  refine dw_if_ne (t := 2163) C dL_law_2141 (n := 2144) rfl (by decide) (fun _ => hex) (fun hc => ?_)
  refine dw_aload_n (i := 3) C dL_law_2144 (n := 2145) rfl rfl rfl ?_
  refine dw_iconst (v := 0) C dL_law_2145 (n := 2146) rfl (by decide) ?_
  refine dw_lald C dL_law_2146 (n := 2147) rfl ?_
  refine dw_iload (i := 7) C dL_law_2147 (n := 2149) rfl rfl ?_
  refine dw_boolL C dL_law_2149 dL_law_2152 dL_law_2153 dL_law_2156 (n := 2157) (by decide) (by decide) rfl ?_
  refine dw_lcmp C dL_law_2157 (n := 2158) rfl ?_
  exact dw_if_eq (t := 2163) C dL_law_2158 (n := 2161) rfl (by decide) (fun _ => hex) (fun hn => absurd (dl_cmp0 (hb1 hc)) hn)
set_option maxRecDepth 20000 in
set_option maxHeartbeats 4000000 in
theorem dl_case_31 {G : dk_G} {O : dl_T} {p : Program} {l : Launch} {e : Env} {s : State} {m : MethodId} {args : Array Value} {below : List Frame} {meth : Method} {c : Code} {cells slots : Nat} {Q : State → Prop} {b Ls : Nat} {xs : Nat → Int32} (hD : dk_D G) (hl : l.stackTraces = false) (hri : dk_RI G) (hmi : dk_MI G) (hg : dl_G G O) (C : dw_C G O p s m args c cL_law 9 RL) (hX : va_X b Ls xs s s.heap) (hb : b < s.heap.size) (hbA : ¬ dl_A O b) (hLs : Ls ≤ 3072) (hRc : cells + 1 ≤ room_1.cells ∧ slots + 6 ≤ room_1.slots) {i k : Nat} (hi : i + 6 ≤ Ls) (hk : k < 512) {σ : dk_S} {fO : Nat → Int64} {fD : Nat → UInt64} (hI : dq_I k σ) (kk : ∀ (u : dk_S) (fO' : Nat → Int64) (fD' : Nat → UInt64), dq_I (k + 1) u → dw_W G O p l e room_1 s m args below meth c (cells + 1) (slots + 6) Q 2297 (dl_L G O b i) [] u fO' fD') : dw_W G O p l e room_1 s m args below meth c cells slots Q 2166 (dl_L G O b i) [] σ fO fD := by
  refine dw_aload_n (i := 1) C dL_law_2166 (n := 2167) rfl rfl rfl ?_
  refine dw_aload (i := 4) C dL_law_2167 (n := 2169) rfl rfl ?_
  obtain ⟨K, X, hwK, hXt, hKN, hM⟩ := dl_bothF (dz_livingShare hI)
  refine dw_callW C [] (cw_L_livingShare hD hl hri hg hXt (fun r σ' h => (hKN r σ' h).1) hwK) yw_L_livingShare dk_wm_L_244 rfl (by decide) hRc rfl (by decide) rfl dL_law_2169 (n := 2172) rfl (fun r σ' fO' fD' hp => ?_)
  have hm := hM FP.f2d fO r σ' fO' fD' hp
  refine dw_istore (i := 6) (L' := [some (.ref b), some (dk_r G 0 40), some (dk_r G 4 60), some (.ref O.2.1), some (.ref O.2.2.1), some (.int (nI i)), some (.int r), none, none]) C dL_law_2172 (n := 2174) rfl (dk_nc_of rfl) (Nat.le_of_ble_eq_true rfl) rfl ?_
  refine dw_aload_n (i := 2) C dL_law_2174 (n := 2175) rfl rfl rfl ?_
  refine dw_callV C [] (cc_X9_livingShare hD hmi hm) yy_X9_livingShare dk_wm_L_247 rfl (by decide) hRc dk_sh60 rfl (hmi 60 (by decide) (by decide)) rfl (by decide) rfl dL_law_2175 (n := 2178) rfl (fun v u hv => ?_)
  obtain ⟨b1, rfl, hu, h0, hb1⟩ := hv
  refine dw_fstore (i := 7) (L' := [some (.ref b), some (dk_r G 0 40), some (dk_r G 4 60), some (.ref O.2.1), some (.ref O.2.2.1), some (.int (nI i)), some (.int r), some (.float b1), none]) C dL_law_2178 (n := 2180) rfl (dk_nc_of rfl) (Nat.le_of_ble_eq_true rfl) rfl ?_
  refine dw_aload_n (i := 2) C dL_law_2180 (n := 2181) rfl rfl rfl ?_
  refine dw_callV C [] (cc_X9_thrown hD hmi (dl_thr h0)) yy_X9_thrown dk_wm_L_140 rfl (by decide) hRc dk_sh60 rfl (hmi 60 (by decide) (by decide)) rfl (by decide) rfl dL_law_2181 (n := 2184) rfl (fun v w hv => ?_)
  obtain ⟨x1, rfl, e1, e2⟩ := hv
  subst e2
  refine dw_iload (i := 6) C dL_law_2184 (n := 2186) rfl rfl ?_
  refine dw_icmp_eq (t := 2191) C dL_law_2186 (n := 2189) rfl (by decide) (fun _ => ?_) (fun hc => absurd e1 hc)
  refine dw_iload (i := 6) C dL_law_2191 (n := 2193) rfl rfl ?_
  have hex : dw_W G O p l e room_1 s m args below meth c (cells + 1) (slots + 6) Q 2229 [some (.ref b), some (dk_r G 0 40), some (dk_r G 4 60), some (.ref O.2.1), some (.ref O.2.2.1), some (.int (nI i)), some (.int r), some (.float b1), none] [] w fO' fD' := dw_goto (t := 2297) C dL_law_2229 (by decide) (dw_sub (L0 := dl_L G O b i) ⟨rfl, rfl, rfl, rfl, rfl, rfl, trivial⟩ (kk w fO' fD' hu))
  refine dw_if_ne (t := 2229) C dL_law_2193 (n := 2196) rfl (by decide) (fun _ => hex) (fun hc => ?_)
  refine dw_aload (i := 4) C dL_law_2196 (n := 2198) rfl rfl ?_
  refine dw_iconst (v := 0) C dL_law_2198 (n := 2199) rfl (by decide) ?_
  refine dw_dald C dL_law_2199 (n := 2200) rfl ?_
  refine dw_fload (i := 7) C dL_law_2200 (n := 2202) rfl rfl ?_
  refine dw_f2d C dL_law_2202 (hb1 hc).1.1 (n := 2203) rfl ?_
  refine dw_dcmp C dL_law_2203 (n := 2204) rfl ?_
  exact dw_if_eq (t := 2229) C dL_law_2204 (n := 2207) rfl (by decide) (fun _ => hex) (fun hn => absurd (by rw [(hb1 hc).2, (hb1 hc).1.2]; rfl) hn)
set_option maxRecDepth 20000 in
set_option maxHeartbeats 4000000 in
theorem dl_case_32 {G : dk_G} {O : dl_T} {p : Program} {l : Launch} {e : Env} {s : State} {m : MethodId} {args : Array Value} {below : List Frame} {meth : Method} {c : Code} {cells slots : Nat} {Q : State → Prop} {b Ls : Nat} {xs : Nat → Int32} (hD : dk_D G) (hl : l.stackTraces = false) (hri : dk_RI G) (hmi : dk_MI G) (hg : dl_G G O) (C : dw_C G O p s m args c cL_law 9 RL) (hX : va_X b Ls xs s s.heap) (hb : b < s.heap.size) (hbA : ¬ dl_A O b) (hLs : Ls ≤ 3072) (hRc : cells + 1 ≤ room_1.cells ∧ slots + 6 ≤ room_1.slots) {i k : Nat} (hi : i + 6 ≤ Ls) (hk : k < 512) {σ : dk_S} {fO : Nat → Int64} {fD : Nat → UInt64} (hI : dq_I k σ) (kk : ∀ (u : dk_S) (fO' : Nat → Int64) (fD' : Nat → UInt64), dq_I (k + 1) u → dw_W G O p l e room_1 s m args below meth c (cells + 1) (slots + 6) Q 2297 (dl_L G O b i) [] u fO' fD') : dw_W G O p l e room_1 s m args below meth c cells slots Q 2232 (dl_L G O b i) [] σ fO fD := by
  refine dw_aload_n (i := 1) C dL_law_2232 (n := 2233) rfl rfl rfl ?_
  refine dw_aload (i := 4) C dL_law_2233 (n := 2235) rfl rfl ?_
  obtain ⟨K, X, hwK, hXt, hKN, hM⟩ := dl_bothF (dz_meanHealth hI)
  refine dw_callW C [] (cw_L_meanHealth hD hl hri hg hXt hwK) yw_L_meanHealth dk_wm_L_248 rfl (by decide) hRc rfl (by decide) rfl dL_law_2235 (n := 2238) rfl (fun r σ' fO' fD' hp => ?_)
  have hm := hM (fun r => r) fO r σ' fO' fD' hp
  refine dw_istore (i := 6) (L' := [some (.ref b), some (dk_r G 0 40), some (dk_r G 4 60), some (.ref O.2.1), some (.ref O.2.2.1), some (.int (nI i)), some (.int r), none, none]) C dL_law_2238 (n := 2240) rfl (dk_nc_of rfl) (Nat.le_of_ble_eq_true rfl) rfl ?_
  refine dw_aload_n (i := 2) C dL_law_2240 (n := 2241) rfl rfl rfl ?_
  refine dw_callV C [] (cc_X9_meanHealth hD hmi hm) yy_X9_meanHealth dk_wm_L_250 rfl (by decide) hRc dk_sh60 rfl (hmi 60 (by decide) (by decide)) rfl (by decide) rfl dL_law_2241 (n := 2244) rfl (fun v u hv => ?_)
  obtain ⟨b1, rfl, hu, h0, hb1⟩ := hv
  refine dw_dstore (i := 7) (L' := [some (.ref b), some (dk_r G 0 40), some (dk_r G 4 60), some (.ref O.2.1), some (.ref O.2.2.1), some (.int (nI i)), some (.int r), some (.double b1), none]) C dL_law_2244 (n := 2246) rfl (dk_nc_of rfl) (Nat.le_of_ble_eq_true rfl) rfl rfl ?_
  refine dw_aload_n (i := 2) C dL_law_2246 (n := 2247) rfl rfl rfl ?_
  refine dw_callV C [] (cc_X9_thrown hD hmi (dl_thr h0)) yy_X9_thrown dk_wm_L_140 rfl (by decide) hRc dk_sh60 rfl (hmi 60 (by decide) (by decide)) rfl (by decide) rfl dL_law_2247 (n := 2250) rfl (fun v w hv => ?_)
  obtain ⟨x1, rfl, e1, e2⟩ := hv
  subst e2
  refine dw_iload (i := 6) C dL_law_2250 (n := 2252) rfl rfl ?_
  refine dw_icmp_eq (t := 2257) C dL_law_2252 (n := 2255) rfl (by decide) (fun _ => ?_) (fun hc => absurd e1 hc)
  refine dw_iload (i := 6) C dL_law_2257 (n := 2259) rfl rfl ?_
  have hex : dw_W G O p l e room_1 s m args below meth c (cells + 1) (slots + 6) Q 2294 [some (.ref b), some (dk_r G 0 40), some (dk_r G 4 60), some (.ref O.2.1), some (.ref O.2.2.1), some (.int (nI i)), some (.int r), some (.double b1), none] [] w fO' fD' := dw_goto (t := 2297) C dL_law_2294 (by decide) (dw_sub (L0 := dl_L G O b i) ⟨rfl, rfl, rfl, rfl, rfl, rfl, trivial⟩ (kk w fO' fD' hu))
  refine dw_if_ne (t := 2294) C dL_law_2259 (n := 2262) rfl (by decide) (fun _ => hex) (fun hc => ?_)
  refine dw_aload (i := 4) C dL_law_2262 (n := 2264) rfl rfl ?_
  refine dw_iconst (v := 0) C dL_law_2264 (n := 2265) rfl (by decide) ?_
  refine dw_dald C dL_law_2265 (n := 2266) rfl ?_
  refine dw_dload (i := 7) C dL_law_2266 (n := 2268) rfl rfl ?_
  refine dw_dcmp C dL_law_2268 (n := 2269) rfl ?_
  exact dw_if_eq (t := 2294) C dL_law_2269 (n := 2272) rfl (by decide) (fun _ => hex) (fun hn => absurd (by rw [(hb1 hc).2, (hb1 hc).1]; rfl) hn)
