set_option maxRecDepth 100000 in
set_option maxHeartbeats 4000000 in
theorem cL_c26 {Δ : AmbT} {Γ : CtxT} (B : Bd Δ Γ RL cL_law 9 2048 84000 601024 7293034) {Lx : Nat} {xs : Nat → Int32} (hX : Scr Δ Γ Lx xs) (hN : NCs Γ.2.2.2.2.1) {v1 v2 v3 v4 : Option Nat} {v5 : Int32} {σ σ' : HpT} {u : Unit} {a b kc ks A9 B9 : Nat} (h : fL_c26 Lx xs v1 v2 v3 v4 v5 σ = some (.ok u, σ', a, b)) (hka : kc + a = A9) (hkb : ks + b = B9) (hla : A9 ≤ 601024) (hlb : B9 ≤ 7293034) (kk : GW Δ Γ A9 B9 3319 [(0, va_rf (some (BIG + 203))), (1, va_rf v1), (2, va_rf v2), (3, va_rf v3), (4, va_rf v4), (5, .int v5)] [] σ') : GW Δ Γ kc ks 1779 [(0, va_rf (some (BIG + 203))), (1, va_rf v1), (2, va_rf v2), (3, va_rf v3), (4, va_rf v4), (5, .int v5)] [] σ := by
  unfold fL_c26 at h
  refine g_aload_n B 1 dL_law_1779 rfl rfl ?_
  refine g_aload_n B 0 dL_law_1780 rfl rfl ?_
  refine g_iload B 5 dL_law_1781 rfl ?_
  refine g_iconst (v := 1) B dL_law_1783 (by decide) ?_
  refine g_iadd B dL_law_1784 ?_
  replace h := bnP_s h
  obtain ⟨x1, h2, h⟩ := h
  refine g_sld B hX dL_law_1785 h2 ?_
  refine g_aload_n B 0 dL_law_1786 rfl rfl ?_
  refine g_iload B 5 dL_law_1787 rfl ?_
  refine g_iconst (v := 2) B dL_law_1789 (by decide) ?_
  refine g_iadd B dL_law_1790 ?_
  replace h := bnP_s h
  obtain ⟨x3, h4, h⟩ := h
  refine g_sld B hX dL_law_1791 h4 ?_
  replace h := bnP_s h
  obtain ⟨j5, h6, h⟩ := h
  have k8 : GW Δ Γ (kc) (ks) 1800 [(0, va_rf (some (BIG + 203))), (1, va_rf v1), (2, va_rf v2), (3, va_rf v3), (4, va_rf v4), (5, .int v5)] [.int j5.2.2, .int j5.2.1, va_rf j5.1] σ := by
    refine g_aload_n B 3 dL_law_1800 rfl rfl ?_
    replace h := bnO_s h
    obtain ⟨x10, s12, a13, b14, a15, b16, h11, h, ea, eb⟩ := h
    subst ea; subst eb
    have hka := bk hka
    have hkb := bk hkb
    refine g_callSWs (st := []) B hN (cL_standingIfc (o := .ok x10) h11) miw_L_standingIf lk_RL_265 ⟨Nat.le_of_ble_eq_true rfl, Nat.le_of_ble_eq_true rfl⟩ rfl rfl (Nat.le_of_ble_eq_true rfl) dL_law_1801 (Nat.le_trans (bm hka) hla) (Nat.le_trans (bm hkb) hlb) ?_
    refine g_istore B dL_law_1804 (Nat.le_of_ble_eq_true rfl) (s1_c (f1_k rfl (f1_k rfl (f1_k rfl (f1_k rfl (f1_k rfl (f1_1 rfl rfl f1_n))))))) ?_
    refine g_aload_n B 3 dL_law_1806 rfl rfl ?_
    refine g_aload_n B 1 dL_law_1807 rfl rfl ?_
    refine g_iload B 6 dL_law_1808 rfl ?_
    refine g_iconst (v := 1) B dL_law_1810 (by decide) ?_
    refine g_iadd B dL_law_1811 ?_
    replace h := bnP_s h
    obtain ⟨x17, h18, h⟩ := h
    refine g_sld B hX dL_law_1812 h18 ?_
    refine g_aload_n B 1 dL_law_1813 rfl rfl ?_
    refine g_iload B 6 dL_law_1814 rfl ?_
    refine g_iconst (v := 2) B dL_law_1816 (by decide) ?_
    refine g_iadd B dL_law_1817 ?_
    replace h := bnP_s h
    obtain ⟨x19, h20, h⟩ := h
    refine g_sld B hX dL_law_1818 h20 ?_
    replace h := bnP_s h
    obtain ⟨j21, h22, h⟩ := h
    have k24 : GW Δ Γ (kc + a13) (ks + b14) 1827 [(0, va_rf (some (BIG + 203))), (1, va_rf v1), (2, va_rf v2), (3, va_rf v3), (4, va_rf v4), (5, .int v5), (6, .int x10)] [.int j21.2.2, .int j21.2.1, va_rf j21.1] s12 := by
      replace h := bnS_s h
      obtain ⟨x26, s28, h27, h⟩ := h
      refine g_callVs0 (st := []) B (cX10_standingIfc h27) (Nat.le_of_ble_eq_true rfl) rfl rfl mi_X10_standingIf lk_RL_268 ⟨Nat.le_of_ble_eq_true rfl, Nat.le_of_ble_eq_true rfl⟩ rfl rfl (Nat.le_of_ble_eq_true rfl) dL_law_1827 (Nat.le_trans (bm hka) hla) (Nat.le_trans (bm hkb) hlb) ?_
      refine g_istore B dL_law_1830 (Nat.le_of_ble_eq_true rfl) (s1_c (f1_k rfl (f1_k rfl (f1_k rfl (f1_k rfl (f1_k rfl (f1_k rfl (f1_1 rfl rfl f1_n)))))))) ?_
      refine g_aload_n B 3 dL_law_1832 rfl rfl ?_
      replace h := bnP_s h
      obtain ⟨x29, h30, h⟩ := h
      refine g_callVs0 (st := []) B (cX10_thrownc h30) (Nat.le_of_ble_eq_true rfl) rfl rfl mi_X10_thrown lk_RL_183 ⟨Nat.le_of_ble_eq_true rfl, Nat.le_of_ble_eq_true rfl⟩ rfl rfl (Nat.le_of_ble_eq_true rfl) dL_law_1833 (Nat.le_trans (bm hka) hla) (Nat.le_trans (bm hkb) hlb) ?_
      refine g_iload B 7 dL_law_1836 rfl ?_
      refine g_icmp_eq B 1843 dL_law_1838 (by decide) (fun hc => ?_) (fun hc => ?_)
      · replace h := ifp hc h
        refine g_iload B 7 dL_law_1843 rfl ?_
        refine g_if_ne B 1860 dL_law_1845 (by decide) (fun hc => ?_) (fun hc => ?_)
        · replace h := ifn hc h
          refine g_goto B 3319 dL_law_1860 (by decide) ?_
          obtain ⟨w1, w2, w3, w4⟩ := inA h
          clear h
          cases w1
          subst w2
          subst w3
          subst w4
          refine g_cost hka hkb ?_
          exact g_sub [1, 2, 3, 4, 5, 6] rfl kk
        · replace h := ifp hc h
          refine g_aload_n B 4 dL_law_1848 rfl rfl ?_
          refine g_iconst (v := 0) B dL_law_1849 (by decide) ?_
          replace h := bnP_s h
          obtain ⟨x31, h32, h⟩ := h
          refine g_lald B dL_law_1850 h32 ?_
          refine g_iload B 0 dL_law_1851 rfl ?_
          refine g_i2l B dL_law_1853 ?_
          refine g_lcmp B dL_law_1854 ?_
          refine g_if_eq B 1860 dL_law_1855 (by decide) (fun hc => ?_) (fun hc => ?_)
          · replace h := ifp hc h
            refine g_goto B 3319 dL_law_1860 (by decide) ?_
            obtain ⟨w1, w2, w3, w4⟩ := inA h
            clear h
            cases w1
            subst w2
            subst w3
            subst w4
            refine g_cost hka hkb ?_
            exact g_sub [1, 2, 3, 4, 5, 6] rfl kk
          · replace h := ifn hc h
            refine g_iconst (v := 0) B dL_law_1858 (by decide) ?_
            cases h
      · replace h := ifn hc h
        refine g_iconst (v := 0) B dL_law_1841 (by decide) ?_
        cases h
    clear h
    have h := h22
    clear h22
    refine g_if_eq B 1826 dL_law_1819 (by decide) (fun hc => ?_) (fun hc => ?_)
    · replace h := ifp hc h
      refine g_iconst (v := 0) B dL_law_1826 (by decide) ?_
      replace h := Option.some.inj h
      subst h
      exact g_sub [1, 2, 3, 4, 5, 6, 0] rfl k24
    · replace h := ifn hc h
      refine g_iconst (v := 1) B dL_law_1822 (by decide) ?_
      refine g_goto B 1827 dL_law_1823 (by decide) ?_
      replace h := Option.some.inj h
      subst h
      exact g_sub [1, 2, 3, 4, 5, 6, 0] rfl k24
  clear h
  have h := h6
  clear h6
  refine g_if_eq B 1799 dL_law_1792 (by decide) (fun hc => ?_) (fun hc => ?_)
  · replace h := ifp hc h
    refine g_iconst (v := 0) B dL_law_1799 (by decide) ?_
    replace h := Option.some.inj h
    subst h
    exact g_sub [0, 1, 2, 3, 4, 5] rfl k8
  · replace h := ifn hc h
    refine g_iconst (v := 1) B dL_law_1795 (by decide) ?_
    refine g_goto B 1800 dL_law_1796 (by decide) ?_
    replace h := Option.some.inj h
    subst h
    exact g_sub [0, 1, 2, 3, 4, 5] rfl k8
set_option maxRecDepth 100000 in
set_option maxHeartbeats 4000000 in
theorem cL_c27 {Δ : AmbT} {Γ : CtxT} (B : Bd Δ Γ RL cL_law 9 2048 84000 601024 7293034) {Lx : Nat} {xs : Nat → Int32} (hX : Scr Δ Γ Lx xs) (hN : NCs Γ.2.2.2.2.1) {v1 v2 v3 v4 : Option Nat} {v5 : Int32} {σ σ' : HpT} {u : Unit} {a b kc ks A9 B9 : Nat} (h : fL_c27 Lx xs v1 v2 v3 v4 v5 σ = some (.ok u, σ', a, b)) (hka : kc + a = A9) (hkb : ks + b = B9) (hla : A9 ≤ 601024) (hlb : B9 ≤ 7293034) (kk : GW Δ Γ A9 B9 3319 [(0, va_rf (some (BIG + 203))), (1, va_rf v1), (2, va_rf v2), (3, va_rf v3), (4, va_rf v4), (5, .int v5)] [] σ') : GW Δ Γ kc ks 1863 [(0, va_rf (some (BIG + 203))), (1, va_rf v1), (2, va_rf v2), (3, va_rf v3), (4, va_rf v4), (5, .int v5)] [] σ := by
  unfold fL_c27 at h
  refine g_aload_n B 1 dL_law_1863 rfl rfl ?_
  refine g_aload_n B 0 dL_law_1864 rfl rfl ?_
  refine g_iload B 5 dL_law_1865 rfl ?_
  refine g_iconst (v := 1) B dL_law_1867 (by decide) ?_
  refine g_iadd B dL_law_1868 ?_
  replace h := bnP_s h
  obtain ⟨x1, h2, h⟩ := h
  refine g_sld B hX dL_law_1869 h2 ?_
  refine g_aload_n B 3 dL_law_1870 rfl rfl ?_
  replace h := bnO_s h
  obtain ⟨x3, s5, a6, b7, a8, b9, h4, h, ea, eb⟩ := h
  subst ea; subst eb
  have hka := bk hka
  have hkb := bk hkb
  refine g_callSWs (st := []) B hN (cL_findWordc (o := .ok x3) h4) miw_L_findWord lk_RL_269 ⟨Nat.le_of_ble_eq_true rfl, Nat.le_of_ble_eq_true rfl⟩ rfl rfl (Nat.le_of_ble_eq_true rfl) dL_law_1871 (Nat.le_trans (bm hka) hla) (Nat.le_trans (bm hkb) hlb) ?_
  refine g_istore B dL_law_1874 (Nat.le_of_ble_eq_true rfl) (s1_c (f1_k rfl (f1_k rfl (f1_k rfl (f1_k rfl (f1_k rfl (f1_1 rfl rfl f1_n))))))) ?_
  refine g_aload_n B 3 dL_law_1876 rfl rfl ?_
  refine g_aload_n B 1 dL_law_1877 rfl rfl ?_
  refine g_iload B 6 dL_law_1878 rfl ?_
  refine g_iconst (v := 1) B dL_law_1880 (by decide) ?_
  refine g_iadd B dL_law_1881 ?_
  replace h := bnP_s h
  obtain ⟨x10, h11, h⟩ := h
  refine g_sld B hX dL_law_1882 h11 ?_
  replace h := bnS_s h
  obtain ⟨x12, s14, h13, h⟩ := h
  refine g_callVs0 (st := []) B (cX10_findWordc h13) (Nat.le_of_ble_eq_true rfl) rfl rfl mi_X10_findWord lk_RL_271 ⟨Nat.le_of_ble_eq_true rfl, Nat.le_of_ble_eq_true rfl⟩ rfl rfl (Nat.le_of_ble_eq_true rfl) dL_law_1883 (Nat.le_trans (bm hka) hla) (Nat.le_trans (bm hkb) hlb) ?_
  refine g_istore B dL_law_1886 (Nat.le_of_ble_eq_true rfl) (s1_c (f1_1 rfl rfl (f1_k rfl (f1_k rfl (f1_k rfl (f1_k rfl (f1_k rfl (f1_k rfl f1_n)))))))) ?_
  refine g_aload_n B 4 dL_law_1888 rfl rfl ?_
  replace h := bnP_s h
  obtain ⟨x15, h16, h⟩ := h
  refine g_callVs0 (st := []) B (cX10_thrownc h16) (Nat.le_of_ble_eq_true rfl) rfl rfl mi_X10_thrown lk_RL_183 ⟨Nat.le_of_ble_eq_true rfl, Nat.le_of_ble_eq_true rfl⟩ rfl rfl (Nat.le_of_ble_eq_true rfl) dL_law_1889 (Nat.le_trans (bm hka) hla) (Nat.le_trans (bm hkb) hlb) ?_
  refine g_iload B 1 dL_law_1892 rfl ?_
  refine g_icmp_eq B 1899 dL_law_1894 (by decide) (fun hc => ?_) (fun hc => ?_)
  · replace h := ifp hc h
    refine g_iload B 1 dL_law_1899 rfl ?_
    refine g_if_ne B 1916 dL_law_1901 (by decide) (fun hc => ?_) (fun hc => ?_)
    · replace h := ifn hc h
      refine g_goto B 3319 dL_law_1916 (by decide) ?_
      obtain ⟨w1, w2, w3, w4⟩ := inA h
      clear h
      cases w1
      subst w2
      subst w3
      subst w4
      refine g_cost hka hkb ?_
      exact g_sub [2, 3, 4, 5, 6, 7] rfl kk
    · replace h := ifp hc h
      refine g_aload_n B 5 dL_law_1904 rfl rfl ?_
      refine g_iconst (v := 0) B dL_law_1905 (by decide) ?_
      replace h := bnP_s h
      obtain ⟨x17, h18, h⟩ := h
      refine g_lald B dL_law_1906 h18 ?_
      refine g_iload B 0 dL_law_1907 rfl ?_
      refine g_i2l B dL_law_1909 ?_
      refine g_lcmp B dL_law_1910 ?_
      refine g_if_eq B 1916 dL_law_1911 (by decide) (fun hc => ?_) (fun hc => ?_)
      · replace h := ifp hc h
        refine g_goto B 3319 dL_law_1916 (by decide) ?_
        obtain ⟨w1, w2, w3, w4⟩ := inA h
        clear h
        cases w1
        subst w2
        subst w3
        subst w4
        refine g_cost hka hkb ?_
        exact g_sub [2, 3, 4, 5, 6, 7] rfl kk
      · replace h := ifn hc h
        refine g_iconst (v := 0) B dL_law_1914 (by decide) ?_
        cases h
  · replace h := ifn hc h
    refine g_iconst (v := 0) B dL_law_1897 (by decide) ?_
    cases h
set_option maxRecDepth 100000 in
set_option maxHeartbeats 4000000 in
theorem cL_c28 {Δ : AmbT} {Γ : CtxT} (B : Bd Δ Γ RL cL_law 9 2048 84000 601024 7293034) {Lx : Nat} {xs : Nat → Int32} (hX : Scr Δ Γ Lx xs) (hN : NCs Γ.2.2.2.2.1) {v1 v2 v3 v4 : Option Nat} {v5 : Int32} {σ σ' : HpT} {u : Unit} {a b kc ks A9 B9 : Nat} (h : fL_c28 Lx xs v1 v2 v3 v4 v5 σ = some (.ok u, σ', a, b)) (hka : kc + a = A9) (hkb : ks + b = B9) (hla : A9 ≤ 601024) (hlb : B9 ≤ 7293034) (kk : GW Δ Γ A9 B9 3319 [(0, va_rf (some (BIG + 203))), (1, va_rf v1), (2, va_rf v2), (3, va_rf v3), (4, va_rf v4), (5, .int v5)] [] σ') : GW Δ Γ kc ks 1919 [(0, va_rf (some (BIG + 203))), (1, va_rf v1), (2, va_rf v2), (3, va_rf v3), (4, va_rf v4), (5, .int v5)] [] σ := by
  unfold fL_c28 at h
  refine g_aload_n B 1 dL_law_1919 rfl rfl ?_
  refine g_aload_n B 0 dL_law_1920 rfl rfl ?_
  refine g_iload B 5 dL_law_1921 rfl ?_
  refine g_iconst (v := 1) B dL_law_1923 (by decide) ?_
  refine g_iadd B dL_law_1924 ?_
  replace h := bnP_s h
  obtain ⟨x1, h2, h⟩ := h
  refine g_sld B hX dL_law_1925 h2 ?_
  refine g_aload_n B 3 dL_law_1926 rfl rfl ?_
  replace h := bnO_s h
  obtain ⟨x3, s5, a6, b7, a8, b9, h4, h, ea, eb⟩ := h
  subst ea; subst eb
  have hka := bk hka
  have hkb := bk hkb
  refine g_callSWs (st := []) B hN (cL_longestc (o := .ok x3) h4) miw_L_longest lk_RL_272 ⟨Nat.le_of_ble_eq_true rfl, Nat.le_of_ble_eq_true rfl⟩ rfl rfl (Nat.le_of_ble_eq_true rfl) dL_law_1927 (Nat.le_trans (bm hka) hla) (Nat.le_trans (bm hkb) hlb) ?_
  refine g_istore B dL_law_1930 (Nat.le_of_ble_eq_true rfl) (s1_c (f1_k rfl (f1_k rfl (f1_k rfl (f1_k rfl (f1_k rfl (f1_1 rfl rfl f1_n))))))) ?_
  refine g_aload_n B 3 dL_law_1932 rfl rfl ?_
  refine g_aload_n B 1 dL_law_1933 rfl rfl ?_
  refine g_iload B 6 dL_law_1934 rfl ?_
  refine g_iconst (v := 1) B dL_law_1936 (by decide) ?_
  refine g_iadd B dL_law_1937 ?_
  replace h := bnP_s h
  obtain ⟨x10, h11, h⟩ := h
  refine g_sld B hX dL_law_1938 h11 ?_
  replace h := bnS_s h
  obtain ⟨x12, s14, h13, h⟩ := h
  refine g_callVs0 (st := []) B (cX10_longestc h13) (Nat.le_of_ble_eq_true rfl) rfl rfl mi_X10_longest lk_RL_274 ⟨Nat.le_of_ble_eq_true rfl, Nat.le_of_ble_eq_true rfl⟩ rfl rfl (Nat.le_of_ble_eq_true rfl) dL_law_1939 (Nat.le_trans (bm hka) hla) (Nat.le_trans (bm hkb) hlb) ?_
  refine g_istore B dL_law_1942 (Nat.le_of_ble_eq_true rfl) (s1_c (f1_1 rfl rfl (f1_k rfl (f1_k rfl (f1_k rfl (f1_k rfl (f1_k rfl (f1_k rfl f1_n)))))))) ?_
  refine g_aload_n B 4 dL_law_1944 rfl rfl ?_
  replace h := bnP_s h
  obtain ⟨x15, h16, h⟩ := h
  refine g_callVs0 (st := []) B (cX10_thrownc h16) (Nat.le_of_ble_eq_true rfl) rfl rfl mi_X10_thrown lk_RL_183 ⟨Nat.le_of_ble_eq_true rfl, Nat.le_of_ble_eq_true rfl⟩ rfl rfl (Nat.le_of_ble_eq_true rfl) dL_law_1945 (Nat.le_trans (bm hka) hla) (Nat.le_trans (bm hkb) hlb) ?_
  refine g_iload B 1 dL_law_1948 rfl ?_
  refine g_icmp_eq B 1955 dL_law_1950 (by decide) (fun hc => ?_) (fun hc => ?_)
  · replace h := ifp hc h
    refine g_iload B 1 dL_law_1955 rfl ?_
    refine g_if_ne B 1972 dL_law_1957 (by decide) (fun hc => ?_) (fun hc => ?_)
    · replace h := ifn hc h
      refine g_goto B 3319 dL_law_1972 (by decide) ?_
      obtain ⟨w1, w2, w3, w4⟩ := inA h
      clear h
      cases w1
      subst w2
      subst w3
      subst w4
      refine g_cost hka hkb ?_
      exact g_sub [2, 3, 4, 5, 6, 7] rfl kk
    · replace h := ifp hc h
      refine g_aload_n B 5 dL_law_1960 rfl rfl ?_
      refine g_iconst (v := 0) B dL_law_1961 (by decide) ?_
      replace h := bnP_s h
      obtain ⟨x17, h18, h⟩ := h
      refine g_lald B dL_law_1962 h18 ?_
      refine g_iload B 0 dL_law_1963 rfl ?_
      refine g_i2l B dL_law_1965 ?_
      refine g_lcmp B dL_law_1966 ?_
      refine g_if_eq B 1972 dL_law_1967 (by decide) (fun hc => ?_) (fun hc => ?_)
      · replace h := ifp hc h
        refine g_goto B 3319 dL_law_1972 (by decide) ?_
        obtain ⟨w1, w2, w3, w4⟩ := inA h
        clear h
        cases w1
        subst w2
        subst w3
        subst w4
        refine g_cost hka hkb ?_
        exact g_sub [2, 3, 4, 5, 6, 7] rfl kk
      · replace h := ifn hc h
        refine g_iconst (v := 0) B dL_law_1970 (by decide) ?_
        cases h
  · replace h := ifn hc h
    refine g_iconst (v := 0) B dL_law_1953 (by decide) ?_
    cases h
set_option maxRecDepth 100000 in
set_option maxHeartbeats 4000000 in
theorem cL_c29 {Δ : AmbT} {Γ : CtxT} (B : Bd Δ Γ RL cL_law 9 2048 84000 601024 7293034) {Lx : Nat} {xs : Nat → Int32} (hX : Scr Δ Γ Lx xs) (hN : NCs Γ.2.2.2.2.1) {v1 v2 v3 v4 : Option Nat} {v5 : Int32} {σ σ' : HpT} {u : Unit} {a b kc ks A9 B9 : Nat} (h : fL_c29 Lx xs v1 v2 v3 v4 v5 σ = some (.ok u, σ', a, b)) (hka : kc + a = A9) (hkb : ks + b = B9) (hla : A9 ≤ 601024) (hlb : B9 ≤ 7293034) (kk : GW Δ Γ A9 B9 3319 [(0, va_rf (some (BIG + 203))), (1, va_rf v1), (2, va_rf v2), (3, va_rf v3), (4, va_rf v4), (5, .int v5)] [] σ') : GW Δ Γ kc ks 1975 [(0, va_rf (some (BIG + 203))), (1, va_rf v1), (2, va_rf v2), (3, va_rf v3), (4, va_rf v4), (5, .int v5)] [] σ := by
  unfold fL_c29 at h
  refine g_aload_n B 1 dL_law_1975 rfl rfl ?_
  refine g_aload_n B 0 dL_law_1976 rfl rfl ?_
  refine g_iload B 5 dL_law_1977 rfl ?_
  refine g_iconst (v := 1) B dL_law_1979 (by decide) ?_
  refine g_iadd B dL_law_1980 ?_
  replace h := bnP_s h
  obtain ⟨x1, h2, h⟩ := h
  refine g_sld B hX dL_law_1981 h2 ?_
  refine g_aload_n B 0 dL_law_1982 rfl rfl ?_
  refine g_iload B 5 dL_law_1983 rfl ?_
  refine g_iconst (v := 2) B dL_law_1985 (by decide) ?_
  refine g_iadd B dL_law_1986 ?_
  replace h := bnP_s h
  obtain ⟨x3, h4, h⟩ := h
  refine g_sld B hX dL_law_1987 h4 ?_
  refine g_aload_n B 3 dL_law_1988 rfl rfl ?_
  replace h := bnO_s h
  obtain ⟨x5, s7, a8, b9, a10, b11, h6, h, ea, eb⟩ := h
  subst ea; subst eb
  have hka := bk hka
  have hkb := bk hkb
  refine g_callSWs (st := []) B hN (cL_commonc (o := .ok x5) h6) miw_L_common lk_RL_275 ⟨Nat.le_of_ble_eq_true rfl, Nat.le_of_ble_eq_true rfl⟩ rfl rfl (Nat.le_of_ble_eq_true rfl) dL_law_1989 (Nat.le_trans (bm hka) hla) (Nat.le_trans (bm hkb) hlb) ?_
  refine g_istore B dL_law_1992 (Nat.le_of_ble_eq_true rfl) (s1_c (f1_k rfl (f1_k rfl (f1_k rfl (f1_k rfl (f1_k rfl (f1_1 rfl rfl f1_n))))))) ?_
  refine g_aload_n B 3 dL_law_1994 rfl rfl ?_
  refine g_aload_n B 1 dL_law_1995 rfl rfl ?_
  refine g_iload B 6 dL_law_1996 rfl ?_
  refine g_iconst (v := 1) B dL_law_1998 (by decide) ?_
  refine g_iadd B dL_law_1999 ?_
  replace h := bnP_s h
  obtain ⟨x12, h13, h⟩ := h
  refine g_sld B hX dL_law_2000 h13 ?_
  refine g_aload_n B 1 dL_law_2001 rfl rfl ?_
  refine g_iload B 6 dL_law_2002 rfl ?_
  refine g_iconst (v := 2) B dL_law_2004 (by decide) ?_
  refine g_iadd B dL_law_2005 ?_
  replace h := bnP_s h
  obtain ⟨x14, h15, h⟩ := h
  refine g_sld B hX dL_law_2006 h15 ?_
  replace h := bnS_s h
  obtain ⟨x16, s18, h17, h⟩ := h
  refine g_callVs0 (st := []) B (cX10_commonc h17) (Nat.le_of_ble_eq_true rfl) rfl rfl mi_X10_common lk_RL_277 ⟨Nat.le_of_ble_eq_true rfl, Nat.le_of_ble_eq_true rfl⟩ rfl rfl (Nat.le_of_ble_eq_true rfl) dL_law_2007 (Nat.le_trans (bm hka) hla) (Nat.le_trans (bm hkb) hlb) ?_
  refine g_istore B dL_law_2010 (Nat.le_of_ble_eq_true rfl) (s1_c (f1_1 rfl rfl (f1_k rfl (f1_k rfl (f1_k rfl (f1_k rfl (f1_k rfl (f1_k rfl f1_n)))))))) ?_
  refine g_aload_n B 4 dL_law_2012 rfl rfl ?_
  replace h := bnP_s h
  obtain ⟨x19, h20, h⟩ := h
  refine g_callVs0 (st := []) B (cX10_thrownc h20) (Nat.le_of_ble_eq_true rfl) rfl rfl mi_X10_thrown lk_RL_183 ⟨Nat.le_of_ble_eq_true rfl, Nat.le_of_ble_eq_true rfl⟩ rfl rfl (Nat.le_of_ble_eq_true rfl) dL_law_2013 (Nat.le_trans (bm hka) hla) (Nat.le_trans (bm hkb) hlb) ?_
  refine g_iload B 1 dL_law_2016 rfl ?_
  refine g_icmp_eq B 2023 dL_law_2018 (by decide) (fun hc => ?_) (fun hc => ?_)
  · replace h := ifp hc h
    refine g_iload B 1 dL_law_2023 rfl ?_
    refine g_if_ne B 2040 dL_law_2025 (by decide) (fun hc => ?_) (fun hc => ?_)
    · replace h := ifn hc h
      refine g_goto B 3319 dL_law_2040 (by decide) ?_
      obtain ⟨w1, w2, w3, w4⟩ := inA h
      clear h
      cases w1
      subst w2
      subst w3
      subst w4
      refine g_cost hka hkb ?_
      exact g_sub [2, 3, 4, 5, 6, 7] rfl kk
    · replace h := ifp hc h
      refine g_aload_n B 5 dL_law_2028 rfl rfl ?_
      refine g_iconst (v := 0) B dL_law_2029 (by decide) ?_
      replace h := bnP_s h
      obtain ⟨x21, h22, h⟩ := h
      refine g_lald B dL_law_2030 h22 ?_
      refine g_iload B 0 dL_law_2031 rfl ?_
      refine g_i2l B dL_law_2033 ?_
      refine g_lcmp B dL_law_2034 ?_
      refine g_if_eq B 2040 dL_law_2035 (by decide) (fun hc => ?_) (fun hc => ?_)
      · replace h := ifp hc h
        refine g_goto B 3319 dL_law_2040 (by decide) ?_
        obtain ⟨w1, w2, w3, w4⟩ := inA h
        clear h
        cases w1
        subst w2
        subst w3
        subst w4
        refine g_cost hka hkb ?_
        exact g_sub [2, 3, 4, 5, 6, 7] rfl kk
      · replace h := ifn hc h
        refine g_iconst (v := 0) B dL_law_2038 (by decide) ?_
        cases h
  · replace h := ifn hc h
    refine g_iconst (v := 0) B dL_law_2021 (by decide) ?_
    cases h
set_option maxRecDepth 100000 in
set_option maxHeartbeats 4000000 in
theorem cL_c30 {Δ : AmbT} {Γ : CtxT} (B : Bd Δ Γ RL cL_law 9 2048 84000 601024 7293034) {Lx : Nat} {xs : Nat → Int32} (hX : Scr Δ Γ Lx xs) (hN : NCs Γ.2.2.2.2.1) {v1 v2 v3 v4 : Option Nat} {v5 : Int32} {σ σ' : HpT} {u : Unit} {a b kc ks A9 B9 : Nat} (h : fL_c30 Lx xs v1 v2 v3 v4 v5 σ = some (.ok u, σ', a, b)) (hka : kc + a = A9) (hkb : ks + b = B9) (hla : A9 ≤ 601024) (hlb : B9 ≤ 7293034) (kk : GW Δ Γ A9 B9 3319 [(0, va_rf (some (BIG + 203))), (1, va_rf v1), (2, va_rf v2), (3, va_rf v3), (4, va_rf v4), (5, .int v5)] [] σ') : GW Δ Γ kc ks 2043 [(0, va_rf (some (BIG + 203))), (1, va_rf v1), (2, va_rf v2), (3, va_rf v3), (4, va_rf v4), (5, .int v5)] [] σ := by
  unfold fL_c30 at h
  refine g_aload_n B 1 dL_law_2043 rfl rfl ?_
  refine g_aload B 4 dL_law_2044 rfl ?_
  replace h := bnO_s h
  obtain ⟨x1, s3, a4, b5, a6, b7, h2, h, ea, eb⟩ := h
  subst ea; subst eb
  have hka := bk hka
  have hkb := bk hkb
  refine g_callSWs (st := []) B hN (cL_knownSharec (o := .ok x1) h2) miw_L_knownShare lk_RL_278 ⟨Nat.le_of_ble_eq_true rfl, Nat.le_of_ble_eq_true rfl⟩ rfl rfl (Nat.le_of_ble_eq_true rfl) dL_law_2046 (Nat.le_trans (bm hka) hla) (Nat.le_trans (bm hkb) hlb) ?_
  refine g_istore B dL_law_2049 (Nat.le_of_ble_eq_true rfl) (s1_c (f1_k rfl (f1_k rfl (f1_k rfl (f1_k rfl (f1_k rfl (f1_1 rfl rfl f1_n))))))) ?_
  refine g_aload_n B 3 dL_law_2051 rfl rfl ?_
  replace h := bnS_s h
  obtain ⟨x8, s10, h9, h⟩ := h
  refine g_callVs0 (st := []) B (cX10_knownSharec h9) (Nat.le_of_ble_eq_true rfl) rfl rfl mi_X10_knownShare lk_RL_281 ⟨Nat.le_of_ble_eq_true rfl, Nat.le_of_ble_eq_true rfl⟩ rfl rfl (Nat.le_of_ble_eq_true rfl) dL_law_2052 (Nat.le_trans (bm hka) hla) (Nat.le_trans (bm hkb) hlb) ?_
  refine g_fstore B dL_law_2055 (Nat.le_of_ble_eq_true rfl) (s1_c (f1_1 rfl rfl (f1_k rfl (f1_k rfl (f1_k rfl (f1_k rfl (f1_k rfl (f1_k rfl f1_n)))))))) ?_
  refine g_aload_n B 4 dL_law_2057 rfl rfl ?_
  replace h := bnP_s h
  obtain ⟨x11, h12, h⟩ := h
  refine g_callVs0 (st := []) B (cX10_thrownc h12) (Nat.le_of_ble_eq_true rfl) rfl rfl mi_X10_thrown lk_RL_183 ⟨Nat.le_of_ble_eq_true rfl, Nat.le_of_ble_eq_true rfl⟩ rfl rfl (Nat.le_of_ble_eq_true rfl) dL_law_2058 (Nat.le_trans (bm hka) hla) (Nat.le_trans (bm hkb) hlb) ?_
  refine g_iload B 1 dL_law_2061 rfl ?_
  refine g_icmp_eq B 2068 dL_law_2063 (by decide) (fun hc => ?_) (fun hc => ?_)
  · replace h := ifp hc h
    refine g_iload B 1 dL_law_2068 rfl ?_
    refine g_if_ne B 2106 dL_law_2070 (by decide) (fun hc => ?_) (fun hc => ?_)
    · replace h := ifn hc h
      refine g_goto B 3319 dL_law_2106 (by decide) ?_
      obtain ⟨w1, w2, w3, w4⟩ := inA h
      clear h
      cases w1
      subst w2
      subst w3
      subst w4
      refine g_cost hka hkb ?_
      exact g_sub [2, 3, 4, 5, 6, 7] rfl kk
    · replace h := ifp hc h
      refine g_aload B 6 dL_law_2073 rfl ?_
      refine g_iconst (v := 0) B dL_law_2075 (by decide) ?_
      replace h := bnP_s h
      obtain ⟨x13, h14, h⟩ := h
      refine g_dald B dL_law_2076 h14 ?_
      refine g_fload B 0 dL_law_2077 rfl ?_
      replace h := bnP_s h
      obtain ⟨u15, h16, h⟩ := h
      refine g_f2d B dL_law_2079 (chD_s h16) ?_
      refine g_dcmp B dL_law_2080 ?_
      refine g_if_eq B 2106 dL_law_2081 (by decide) (fun hc => ?_) (fun hc => ?_)
      · replace h := ifp hc h
        refine g_goto B 3319 dL_law_2106 (by decide) ?_
        obtain ⟨w1, w2, w3, w4⟩ := inA h
        clear h
        cases w1
        subst w2
        subst w3
        subst w4
        refine g_cost hka hkb ?_
        exact g_sub [2, 3, 4, 5, 6, 7] rfl kk
      · replace h := ifn hc h
        refine g_aload B 6 dL_law_2084 rfl ?_
        refine g_iconst (v := 0) B dL_law_2086 (by decide) ?_
        replace h := bnP_s h
        obtain ⟨x17, h18, h⟩ := h
        refine g_dald B dL_law_2087 h18 ?_
        refine g_aload B 6 dL_law_2088 rfl ?_
        refine g_iconst (v := 0) B dL_law_2090 (by decide) ?_
        replace h := bnP_s h
        obtain ⟨x19, h20, h⟩ := h
        refine g_dald B dL_law_2091 h20 ?_
        refine g_dcmp B dL_law_2092 ?_
        refine g_if_eq B 2104 dL_law_2093 (by decide) (fun hc => ?_) (fun hc => ?_)
        · replace h := ifp hc h
          refine g_iconst (v := 0) B dL_law_2104 (by decide) ?_
          cases h
        · replace h := ifn hc h
          refine g_fload B 0 dL_law_2096 rfl ?_
          refine g_fload B 0 dL_law_2098 rfl ?_
          refine g_fcmp B dL_law_2100 ?_
          refine g_if_ne B 2106 dL_law_2101 (by decide) (fun hc => ?_) (fun hc => ?_)
          · replace h := ifn hc h
            refine g_goto B 3319 dL_law_2106 (by decide) ?_
            obtain ⟨w1, w2, w3, w4⟩ := inA h
            clear h
            cases w1
            subst w2
            subst w3
            subst w4
            refine g_cost hka hkb ?_
            exact g_sub [2, 3, 4, 5, 6, 7] rfl kk
          · replace h := ifp hc h
            refine g_iconst (v := 0) B dL_law_2104 (by decide) ?_
            cases h
  · replace h := ifn hc h
    refine g_iconst (v := 0) B dL_law_2066 (by decide) ?_
    cases h
set_option maxRecDepth 100000 in
set_option maxHeartbeats 4000000 in
theorem cL_c31 {Δ : AmbT} {Γ : CtxT} (B : Bd Δ Γ RL cL_law 9 2048 84000 601024 7293034) {Lx : Nat} {xs : Nat → Int32} (hX : Scr Δ Γ Lx xs) (hN : NCs Γ.2.2.2.2.1) {v1 v2 v3 v4 : Option Nat} {v5 : Int32} {σ σ' : HpT} {u : Unit} {a b kc ks A9 B9 : Nat} (h : fL_c31 Lx xs v1 v2 v3 v4 v5 σ = some (.ok u, σ', a, b)) (hka : kc + a = A9) (hkb : ks + b = B9) (hla : A9 ≤ 601024) (hlb : B9 ≤ 7293034) (kk : GW Δ Γ A9 B9 3319 [(0, va_rf (some (BIG + 203))), (1, va_rf v1), (2, va_rf v2), (3, va_rf v3), (4, va_rf v4), (5, .int v5)] [] σ') : GW Δ Γ kc ks 2109 [(0, va_rf (some (BIG + 203))), (1, va_rf v1), (2, va_rf v2), (3, va_rf v3), (4, va_rf v4), (5, .int v5)] [] σ := by
  unfold fL_c31 at h
  refine g_aload_n B 1 dL_law_2109 rfl rfl ?_
  refine g_aload B 4 dL_law_2110 rfl ?_
  replace h := bnO_s h
  obtain ⟨x1, s3, a4, b5, a6, b7, h2, h, ea, eb⟩ := h
  subst ea; subst eb
  have hka := bk hka
  have hkb := bk hkb
  refine g_callSWs (st := []) B hN (cL_meanWordsc (o := .ok x1) h2) miw_L_meanWords lk_RL_282 ⟨Nat.le_of_ble_eq_true rfl, Nat.le_of_ble_eq_true rfl⟩ rfl rfl (Nat.le_of_ble_eq_true rfl) dL_law_2112 (Nat.le_trans (bm hka) hla) (Nat.le_trans (bm hkb) hlb) ?_
  refine g_istore B dL_law_2115 (Nat.le_of_ble_eq_true rfl) (s1_c (f1_k rfl (f1_k rfl (f1_k rfl (f1_k rfl (f1_k rfl (f1_1 rfl rfl f1_n))))))) ?_
  refine g_aload_n B 3 dL_law_2117 rfl rfl ?_
  replace h := bnS_s h
  obtain ⟨x8, s10, h9, h⟩ := h
  refine g_callVs0 (st := []) B (cX10_meanWordsc h9) (Nat.le_of_ble_eq_true rfl) rfl rfl mi_X10_meanWords lk_RL_284 ⟨Nat.le_of_ble_eq_true rfl, Nat.le_of_ble_eq_true rfl⟩ rfl rfl (Nat.le_of_ble_eq_true rfl) dL_law_2118 (Nat.le_trans (bm hka) hla) (Nat.le_trans (bm hkb) hlb) ?_
  refine g_dstore B dL_law_2121 (Nat.le_of_ble_eq_true rfl) (s2_c (f2_1 rfl rfl (f2_k rfl (f2_k rfl (f2_k rfl (f2_k rfl (f2_k rfl (f2_k rfl f2_n)))))))) ?_
  refine g_aload_n B 4 dL_law_2123 rfl rfl ?_
  replace h := bnP_s h
  obtain ⟨x11, h12, h⟩ := h
  refine g_callVs0 (st := []) B (cX10_thrownc h12) (Nat.le_of_ble_eq_true rfl) rfl rfl mi_X10_thrown lk_RL_183 ⟨Nat.le_of_ble_eq_true rfl, Nat.le_of_ble_eq_true rfl⟩ rfl rfl (Nat.le_of_ble_eq_true rfl) dL_law_2124 (Nat.le_trans (bm hka) hla) (Nat.le_trans (bm hkb) hlb) ?_
  refine g_iload B 1 dL_law_2127 rfl ?_
  refine g_icmp_eq B 2134 dL_law_2129 (by decide) (fun hc => ?_) (fun hc => ?_)
  · replace h := ifp hc h
    refine g_iload B 1 dL_law_2134 rfl ?_
    refine g_if_ne B 2171 dL_law_2136 (by decide) (fun hc => ?_) (fun hc => ?_)
    · replace h := ifn hc h
      refine g_goto B 3319 dL_law_2171 (by decide) ?_
      obtain ⟨w1, w2, w3, w4⟩ := inA h
      clear h
      cases w1
      subst w2
      subst w3
      subst w4
      refine g_cost hka hkb ?_
      exact g_sub [2, 3, 4, 5, 6, 7] rfl kk
    · replace h := ifp hc h
      refine g_aload B 6 dL_law_2139 rfl ?_
      refine g_iconst (v := 0) B dL_law_2141 (by decide) ?_
      replace h := bnP_s h
      obtain ⟨x13, h14, h⟩ := h
      refine g_dald B dL_law_2142 h14 ?_
      refine g_dload B 0 dL_law_2143 rfl ?_
      refine g_dcmp B dL_law_2145 ?_
      refine g_if_eq B 2171 dL_law_2146 (by decide) (fun hc => ?_) (fun hc => ?_)
      · replace h := ifp hc h
        refine g_goto B 3319 dL_law_2171 (by decide) ?_
        obtain ⟨w1, w2, w3, w4⟩ := inA h
        clear h
        cases w1
        subst w2
        subst w3
        subst w4
        refine g_cost hka hkb ?_
        exact g_sub [2, 3, 4, 5, 6, 7] rfl kk
      · replace h := ifn hc h
        refine g_aload B 6 dL_law_2149 rfl ?_
        refine g_iconst (v := 0) B dL_law_2151 (by decide) ?_
        replace h := bnP_s h
        obtain ⟨x15, h16, h⟩ := h
        refine g_dald B dL_law_2152 h16 ?_
        refine g_aload B 6 dL_law_2153 rfl ?_
        refine g_iconst (v := 0) B dL_law_2155 (by decide) ?_
        replace h := bnP_s h
        obtain ⟨x17, h18, h⟩ := h
        refine g_dald B dL_law_2156 h18 ?_
        refine g_dcmp B dL_law_2157 ?_
        refine g_if_eq B 2169 dL_law_2158 (by decide) (fun hc => ?_) (fun hc => ?_)
        · replace h := ifp hc h
          refine g_iconst (v := 0) B dL_law_2169 (by decide) ?_
          cases h
        · replace h := ifn hc h
          refine g_dload B 0 dL_law_2161 rfl ?_
          refine g_dload B 0 dL_law_2163 rfl ?_
          refine g_dcmp B dL_law_2165 ?_
          refine g_if_ne B 2171 dL_law_2166 (by decide) (fun hc => ?_) (fun hc => ?_)
          · replace h := ifn hc h
            refine g_goto B 3319 dL_law_2171 (by decide) ?_
            obtain ⟨w1, w2, w3, w4⟩ := inA h
            clear h
            cases w1
            subst w2
            subst w3
            subst w4
            refine g_cost hka hkb ?_
            exact g_sub [2, 3, 4, 5, 6, 7] rfl kk
          · replace h := ifp hc h
            refine g_iconst (v := 0) B dL_law_2169 (by decide) ?_
            cases h
  · replace h := ifn hc h
    refine g_iconst (v := 0) B dL_law_2132 (by decide) ?_
    cases h
set_option maxRecDepth 100000 in
set_option maxHeartbeats 4000000 in
theorem cL_c32 {Δ : AmbT} {Γ : CtxT} (B : Bd Δ Γ RL cL_law 9 2048 84000 601024 7293034) {Lx : Nat} {xs : Nat → Int32} (hX : Scr Δ Γ Lx xs) (hN : NCs Γ.2.2.2.2.1) {v1 v2 v3 v4 : Option Nat} {v5 : Int32} {σ σ' : HpT} {u : Unit} {a b kc ks A9 B9 : Nat} (h : fL_c32 Lx xs v1 v2 v3 v4 v5 σ = some (.ok u, σ', a, b)) (hka : kc + a = A9) (hkb : ks + b = B9) (hla : A9 ≤ 601024) (hlb : B9 ≤ 7293034) (kk : GW Δ Γ A9 B9 3319 [(0, va_rf (some (BIG + 203))), (1, va_rf v1), (2, va_rf v2), (3, va_rf v3), (4, va_rf v4), (5, .int v5)] [] σ') : GW Δ Γ kc ks 2174 [(0, va_rf (some (BIG + 203))), (1, va_rf v1), (2, va_rf v2), (3, va_rf v3), (4, va_rf v4), (5, .int v5)] [] σ := by
  unfold fL_c32 at h
  refine g_aload_n B 1 dL_law_2174 rfl rfl ?_
  refine g_aload_n B 0 dL_law_2175 rfl rfl ?_
  refine g_iload B 5 dL_law_2176 rfl ?_
  refine g_iconst (v := 1) B dL_law_2178 (by decide) ?_
  refine g_iadd B dL_law_2179 ?_
  replace h := bnP_s h
  obtain ⟨x1, h2, h⟩ := h
  refine g_sld B hX dL_law_2180 h2 ?_
  refine g_aload_n B 3 dL_law_2181 rfl rfl ?_
  replace h := bnO_s h
  obtain ⟨x3, s5, a6, b7, a8, b9, h4, h, ea, eb⟩ := h
  subst ea; subst eb
  have hka := bk hka
  have hkb := bk hkb
  refine g_callSWs (st := []) B hN (cL_writeActc (o := .ok x3) h4) miw_L_writeAct lk_RL_285 ⟨Nat.le_of_ble_eq_true rfl, Nat.le_of_ble_eq_true rfl⟩ rfl rfl (Nat.le_of_ble_eq_true rfl) dL_law_2182 (Nat.le_trans (bm hka) hla) (Nat.le_trans (bm hkb) hlb) ?_
  refine g_istore B dL_law_2185 (Nat.le_of_ble_eq_true rfl) (s1_c (f1_k rfl (f1_k rfl (f1_k rfl (f1_k rfl (f1_k rfl (f1_1 rfl rfl f1_n))))))) ?_
  refine g_aload_n B 3 dL_law_2187 rfl rfl ?_
  refine g_aload_n B 1 dL_law_2188 rfl rfl ?_
  refine g_iload B 6 dL_law_2189 rfl ?_
  refine g_iconst (v := 1) B dL_law_2191 (by decide) ?_
  refine g_iadd B dL_law_2192 ?_
  replace h := bnP_s h
  obtain ⟨x10, h11, h⟩ := h
  refine g_sld B hX dL_law_2193 h11 ?_
  replace h := bnS_s h
  obtain ⟨x12, s14, h13, h⟩ := h
  refine g_callVs0 (st := []) B (cX10_writeActc h13) (Nat.le_of_ble_eq_true rfl) rfl rfl mi_X10_writeAct lk_RL_287 ⟨Nat.le_of_ble_eq_true rfl, Nat.le_of_ble_eq_true rfl⟩ rfl rfl (Nat.le_of_ble_eq_true rfl) dL_law_2194 (Nat.le_trans (bm hka) hla) (Nat.le_trans (bm hkb) hlb) ?_
  refine g_istore B dL_law_2197 (Nat.le_of_ble_eq_true rfl) (s1_c (f1_1 rfl rfl (f1_k rfl (f1_k rfl (f1_k rfl (f1_k rfl (f1_k rfl (f1_k rfl f1_n)))))))) ?_
  refine g_aload_n B 4 dL_law_2199 rfl rfl ?_
  replace h := bnP_s h
  obtain ⟨x15, h16, h⟩ := h
  refine g_callVs0 (st := []) B (cX10_thrownc h16) (Nat.le_of_ble_eq_true rfl) rfl rfl mi_X10_thrown lk_RL_183 ⟨Nat.le_of_ble_eq_true rfl, Nat.le_of_ble_eq_true rfl⟩ rfl rfl (Nat.le_of_ble_eq_true rfl) dL_law_2200 (Nat.le_trans (bm hka) hla) (Nat.le_trans (bm hkb) hlb) ?_
  refine g_iload B 1 dL_law_2203 rfl ?_
  refine g_icmp_eq B 2210 dL_law_2205 (by decide) (fun hc => ?_) (fun hc => ?_)
  · replace h := ifp hc h
    refine g_iload B 1 dL_law_2210 rfl ?_
    refine g_if_ne B 2227 dL_law_2212 (by decide) (fun hc => ?_) (fun hc => ?_)
    · replace h := ifn hc h
      refine g_goto B 3319 dL_law_2227 (by decide) ?_
      obtain ⟨w1, w2, w3, w4⟩ := inA h
      clear h
      cases w1
      subst w2
      subst w3
      subst w4
      refine g_cost hka hkb ?_
      exact g_sub [2, 3, 4, 5, 6, 7] rfl kk
    · replace h := ifp hc h
      refine g_aload_n B 5 dL_law_2215 rfl rfl ?_
      refine g_iconst (v := 0) B dL_law_2216 (by decide) ?_
      replace h := bnP_s h
      obtain ⟨x17, h18, h⟩ := h
      refine g_lald B dL_law_2217 h18 ?_
      refine g_iload B 0 dL_law_2218 rfl ?_
      refine g_i2l B dL_law_2220 ?_
      refine g_lcmp B dL_law_2221 ?_
      refine g_if_eq B 2227 dL_law_2222 (by decide) (fun hc => ?_) (fun hc => ?_)
      · replace h := ifp hc h
        refine g_goto B 3319 dL_law_2227 (by decide) ?_
        obtain ⟨w1, w2, w3, w4⟩ := inA h
        clear h
        cases w1
        subst w2
        subst w3
        subst w4
        refine g_cost hka hkb ?_
        exact g_sub [2, 3, 4, 5, 6, 7] rfl kk
      · replace h := ifn hc h
        refine g_iconst (v := 0) B dL_law_2225 (by decide) ?_
        cases h
  · replace h := ifn hc h
    refine g_iconst (v := 0) B dL_law_2208 (by decide) ?_
    cases h
set_option maxRecDepth 100000 in
set_option maxHeartbeats 4000000 in
theorem cL_c33 {Δ : AmbT} {Γ : CtxT} (B : Bd Δ Γ RL cL_law 9 2048 84000 601024 7293034) {Lx : Nat} {xs : Nat → Int32} (hX : Scr Δ Γ Lx xs) (hN : NCs Γ.2.2.2.2.1) {v1 v2 v3 v4 : Option Nat} {v5 : Int32} {σ σ' : HpT} {u : Unit} {a b kc ks A9 B9 : Nat} (h : fL_c33 Lx xs v1 v2 v3 v4 v5 σ = some (.ok u, σ', a, b)) (hka : kc + a = A9) (hkb : ks + b = B9) (hla : A9 ≤ 601024) (hlb : B9 ≤ 7293034) (kk : GW Δ Γ A9 B9 3319 [(0, va_rf (some (BIG + 203))), (1, va_rf v1), (2, va_rf v2), (3, va_rf v3), (4, va_rf v4), (5, .int v5)] [] σ') : GW Δ Γ kc ks 2230 [(0, va_rf (some (BIG + 203))), (1, va_rf v1), (2, va_rf v2), (3, va_rf v3), (4, va_rf v4), (5, .int v5)] [] σ := by
  unfold fL_c33 at h
  refine g_aload_n B 1 dL_law_2230 rfl rfl ?_
  refine g_aload_n B 0 dL_law_2231 rfl rfl ?_
  refine g_iload B 5 dL_law_2232 rfl ?_
  refine g_iconst (v := 1) B dL_law_2234 (by decide) ?_
  refine g_iadd B dL_law_2235 ?_
  replace h := bnP_s h
  obtain ⟨x1, h2, h⟩ := h
  refine g_sld B hX dL_law_2236 h2 ?_
  refine g_aload_n B 3 dL_law_2237 rfl rfl ?_
  replace h := bnO_s h
  obtain ⟨x3, s5, a6, b7, a8, b9, h4, h, ea, eb⟩ := h
  subst ea; subst eb
  have hka := bk hka
  have hkb := bk hkb
  refine g_callSWs (st := []) B hN (cL_writeStandingc (o := .ok x3) h4) miw_L_writeStanding lk_RL_288 ⟨Nat.le_of_ble_eq_true rfl, Nat.le_of_ble_eq_true rfl⟩ rfl rfl (Nat.le_of_ble_eq_true rfl) dL_law_2238 (Nat.le_trans (bm hka) hla) (Nat.le_trans (bm hkb) hlb) ?_
  refine g_istore B dL_law_2241 (Nat.le_of_ble_eq_true rfl) (s1_c (f1_k rfl (f1_k rfl (f1_k rfl (f1_k rfl (f1_k rfl (f1_1 rfl rfl f1_n))))))) ?_
  refine g_aload_n B 3 dL_law_2243 rfl rfl ?_
  refine g_aload_n B 1 dL_law_2244 rfl rfl ?_
  refine g_iload B 6 dL_law_2245 rfl ?_
  refine g_iconst (v := 1) B dL_law_2247 (by decide) ?_
  refine g_iadd B dL_law_2248 ?_
  replace h := bnP_s h
  obtain ⟨x10, h11, h⟩ := h
  refine g_sld B hX dL_law_2249 h11 ?_
  replace h := bnS_s h
  obtain ⟨x12, s14, h13, h⟩ := h
  refine g_callVs0 (st := []) B (cX10_writeStandingc h13) (Nat.le_of_ble_eq_true rfl) rfl rfl mi_X10_writeStanding lk_RL_290 ⟨Nat.le_of_ble_eq_true rfl, Nat.le_of_ble_eq_true rfl⟩ rfl rfl (Nat.le_of_ble_eq_true rfl) dL_law_2250 (Nat.le_trans (bm hka) hla) (Nat.le_trans (bm hkb) hlb) ?_
  refine g_istore B dL_law_2253 (Nat.le_of_ble_eq_true rfl) (s1_c (f1_1 rfl rfl (f1_k rfl (f1_k rfl (f1_k rfl (f1_k rfl (f1_k rfl (f1_k rfl f1_n)))))))) ?_
  refine g_aload_n B 4 dL_law_2255 rfl rfl ?_
  replace h := bnP_s h
  obtain ⟨x15, h16, h⟩ := h
  refine g_callVs0 (st := []) B (cX10_thrownc h16) (Nat.le_of_ble_eq_true rfl) rfl rfl mi_X10_thrown lk_RL_183 ⟨Nat.le_of_ble_eq_true rfl, Nat.le_of_ble_eq_true rfl⟩ rfl rfl (Nat.le_of_ble_eq_true rfl) dL_law_2256 (Nat.le_trans (bm hka) hla) (Nat.le_trans (bm hkb) hlb) ?_
  refine g_iload B 1 dL_law_2259 rfl ?_
  refine g_icmp_eq B 2266 dL_law_2261 (by decide) (fun hc => ?_) (fun hc => ?_)
  · replace h := ifp hc h
    refine g_iload B 1 dL_law_2266 rfl ?_
    refine g_if_ne B 2283 dL_law_2268 (by decide) (fun hc => ?_) (fun hc => ?_)
    · replace h := ifn hc h
      refine g_goto B 3319 dL_law_2283 (by decide) ?_
      obtain ⟨w1, w2, w3, w4⟩ := inA h
      clear h
      cases w1
      subst w2
      subst w3
      subst w4
      refine g_cost hka hkb ?_
      exact g_sub [2, 3, 4, 5, 6, 7] rfl kk
    · replace h := ifp hc h
      refine g_aload_n B 5 dL_law_2271 rfl rfl ?_
      refine g_iconst (v := 0) B dL_law_2272 (by decide) ?_
      replace h := bnP_s h
      obtain ⟨x17, h18, h⟩ := h
      refine g_lald B dL_law_2273 h18 ?_
      refine g_iload B 0 dL_law_2274 rfl ?_
      refine g_i2l B dL_law_2276 ?_
      refine g_lcmp B dL_law_2277 ?_
      refine g_if_eq B 2283 dL_law_2278 (by decide) (fun hc => ?_) (fun hc => ?_)
      · replace h := ifp hc h
        refine g_goto B 3319 dL_law_2283 (by decide) ?_
        obtain ⟨w1, w2, w3, w4⟩ := inA h
        clear h
        cases w1
        subst w2
        subst w3
        subst w4
        refine g_cost hka hkb ?_
        exact g_sub [2, 3, 4, 5, 6, 7] rfl kk
      · replace h := ifn hc h
        refine g_iconst (v := 0) B dL_law_2281 (by decide) ?_
        cases h
  · replace h := ifn hc h
    refine g_iconst (v := 0) B dL_law_2264 (by decide) ?_
    cases h
set_option maxRecDepth 100000 in
set_option maxHeartbeats 4000000 in
theorem cL_c34 {Δ : AmbT} {Γ : CtxT} (B : Bd Δ Γ RL cL_law 9 2048 84000 601024 7293034) {Lx : Nat} {xs : Nat → Int32} (hX : Scr Δ Γ Lx xs) (hN : NCs Γ.2.2.2.2.1) {v1 v2 v3 v4 : Option Nat} {v5 : Int32} {σ σ' : HpT} {u : Unit} {a b kc ks A9 B9 : Nat} (h : fL_c34 Lx xs v1 v2 v3 v4 v5 σ = some (.ok u, σ', a, b)) (hka : kc + a = A9) (hkb : ks + b = B9) (hla : A9 ≤ 601024) (hlb : B9 ≤ 7293034) (kk : GW Δ Γ A9 B9 3319 [(0, va_rf (some (BIG + 203))), (1, va_rf v1), (2, va_rf v2), (3, va_rf v3), (4, va_rf v4), (5, .int v5)] [] σ') : GW Δ Γ kc ks 2286 [(0, va_rf (some (BIG + 203))), (1, va_rf v1), (2, va_rf v2), (3, va_rf v3), (4, va_rf v4), (5, .int v5)] [] σ := by
  unfold fL_c34 at h
  refine g_aload_n B 1 dL_law_2286 rfl rfl ?_
  refine g_aload_n B 0 dL_law_2287 rfl rfl ?_
  refine g_iload B 5 dL_law_2288 rfl ?_
  refine g_iconst (v := 1) B dL_law_2290 (by decide) ?_
  refine g_iadd B dL_law_2291 ?_
  replace h := bnP_s h
  obtain ⟨x1, h2, h⟩ := h
  refine g_sld B hX dL_law_2292 h2 ?_
  refine g_aload_n B 3 dL_law_2293 rfl rfl ?_
  replace h := bnO_s h
  obtain ⟨x3, s5, a6, b7, a8, b9, h4, h, ea, eb⟩ := h
  subst ea; subst eb
  have hka := bk hka
  have hkb := bk hkb
  refine g_callSWs (st := []) B hN (cL_writeLeafc (o := .ok x3) h4) miw_L_writeLeaf lk_RL_291 ⟨Nat.le_of_ble_eq_true rfl, Nat.le_of_ble_eq_true rfl⟩ rfl rfl (Nat.le_of_ble_eq_true rfl) dL_law_2294 (Nat.le_trans (bm hka) hla) (Nat.le_trans (bm hkb) hlb) ?_
  refine g_istore B dL_law_2297 (Nat.le_of_ble_eq_true rfl) (s1_c (f1_k rfl (f1_k rfl (f1_k rfl (f1_k rfl (f1_k rfl (f1_1 rfl rfl f1_n))))))) ?_
  refine g_aload_n B 3 dL_law_2299 rfl rfl ?_
  refine g_aload_n B 1 dL_law_2300 rfl rfl ?_
  refine g_iload B 6 dL_law_2301 rfl ?_
  refine g_iconst (v := 1) B dL_law_2303 (by decide) ?_
  refine g_iadd B dL_law_2304 ?_
  replace h := bnP_s h
  obtain ⟨x10, h11, h⟩ := h
  refine g_sld B hX dL_law_2305 h11 ?_
  replace h := bnS_s h
  obtain ⟨x12, s14, h13, h⟩ := h
  refine g_callVs0 (st := []) B (cX10_writeLeafc h13) (Nat.le_of_ble_eq_true rfl) rfl rfl mi_X10_writeLeaf lk_RL_293 ⟨Nat.le_of_ble_eq_true rfl, Nat.le_of_ble_eq_true rfl⟩ rfl rfl (Nat.le_of_ble_eq_true rfl) dL_law_2306 (Nat.le_trans (bm hka) hla) (Nat.le_trans (bm hkb) hlb) ?_
  refine g_istore B dL_law_2309 (Nat.le_of_ble_eq_true rfl) (s1_c (f1_1 rfl rfl (f1_k rfl (f1_k rfl (f1_k rfl (f1_k rfl (f1_k rfl (f1_k rfl f1_n)))))))) ?_
  refine g_aload_n B 4 dL_law_2311 rfl rfl ?_
  replace h := bnP_s h
  obtain ⟨x15, h16, h⟩ := h
  refine g_callVs0 (st := []) B (cX10_thrownc h16) (Nat.le_of_ble_eq_true rfl) rfl rfl mi_X10_thrown lk_RL_183 ⟨Nat.le_of_ble_eq_true rfl, Nat.le_of_ble_eq_true rfl⟩ rfl rfl (Nat.le_of_ble_eq_true rfl) dL_law_2312 (Nat.le_trans (bm hka) hla) (Nat.le_trans (bm hkb) hlb) ?_
  refine g_iload B 1 dL_law_2315 rfl ?_
  refine g_icmp_eq B 2322 dL_law_2317 (by decide) (fun hc => ?_) (fun hc => ?_)
  · replace h := ifp hc h
    refine g_iload B 1 dL_law_2322 rfl ?_
    refine g_if_ne B 2339 dL_law_2324 (by decide) (fun hc => ?_) (fun hc => ?_)
    · replace h := ifn hc h
      refine g_goto B 3319 dL_law_2339 (by decide) ?_
      obtain ⟨w1, w2, w3, w4⟩ := inA h
      clear h
      cases w1
      subst w2
      subst w3
      subst w4
      refine g_cost hka hkb ?_
      exact g_sub [2, 3, 4, 5, 6, 7] rfl kk
    · replace h := ifp hc h
      refine g_aload_n B 5 dL_law_2327 rfl rfl ?_
      refine g_iconst (v := 0) B dL_law_2328 (by decide) ?_
      replace h := bnP_s h
      obtain ⟨x17, h18, h⟩ := h
      refine g_lald B dL_law_2329 h18 ?_
      refine g_iload B 0 dL_law_2330 rfl ?_
      refine g_i2l B dL_law_2332 ?_
      refine g_lcmp B dL_law_2333 ?_
      refine g_if_eq B 2339 dL_law_2334 (by decide) (fun hc => ?_) (fun hc => ?_)
      · replace h := ifp hc h
        refine g_goto B 3319 dL_law_2339 (by decide) ?_
        obtain ⟨w1, w2, w3, w4⟩ := inA h
        clear h
        cases w1
        subst w2
        subst w3
        subst w4
        refine g_cost hka hkb ?_
        exact g_sub [2, 3, 4, 5, 6, 7] rfl kk
      · replace h := ifn hc h
        refine g_iconst (v := 0) B dL_law_2337 (by decide) ?_
        cases h
  · replace h := ifn hc h
    refine g_iconst (v := 0) B dL_law_2320 (by decide) ?_
    cases h
set_option maxRecDepth 100000 in
set_option maxHeartbeats 4000000 in
theorem cL_c35 {Δ : AmbT} {Γ : CtxT} (B : Bd Δ Γ RL cL_law 9 2048 84000 601024 7293034) {Lx : Nat} {xs : Nat → Int32} (hX : Scr Δ Γ Lx xs) (hN : NCs Γ.2.2.2.2.1) {v1 v2 v3 v4 : Option Nat} {v5 : Int32} {σ σ' : HpT} {u : Unit} {a b kc ks A9 B9 : Nat} (h : fL_c35 Lx xs v1 v2 v3 v4 v5 σ = some (.ok u, σ', a, b)) (hka : kc + a = A9) (hkb : ks + b = B9) (hla : A9 ≤ 601024) (hlb : B9 ≤ 7293034) (kk : GW Δ Γ A9 B9 3319 [(0, va_rf (some (BIG + 203))), (1, va_rf v1), (2, va_rf v2), (3, va_rf v3), (4, va_rf v4), (5, .int v5)] [] σ') : GW Δ Γ kc ks 2342 [(0, va_rf (some (BIG + 203))), (1, va_rf v1), (2, va_rf v2), (3, va_rf v3), (4, va_rf v4), (5, .int v5)] [] σ := by
  unfold fL_c35 at h
  refine g_aload_n B 1 dL_law_2342 rfl rfl ?_
  refine g_aload_n B 0 dL_law_2343 rfl rfl ?_
  refine g_iload B 5 dL_law_2344 rfl ?_
  refine g_iconst (v := 1) B dL_law_2346 (by decide) ?_
  refine g_iadd B dL_law_2347 ?_
  replace h := bnP_s h
  obtain ⟨x1, h2, h⟩ := h
  refine g_sld B hX dL_law_2348 h2 ?_
  refine g_aload_n B 3 dL_law_2349 rfl rfl ?_
  replace h := bnO_s h
  obtain ⟨x3, s5, a6, b7, a8, b9, h4, h, ea, eb⟩ := h
  subst ea; subst eb
  have hka := bk hka
  have hkb := bk hkb
  refine g_callSWs (st := []) B hN (cL_writeCopyc (o := .ok x3) h4) miw_L_writeCopy lk_RL_294 ⟨Nat.le_of_ble_eq_true rfl, Nat.le_of_ble_eq_true rfl⟩ rfl rfl (Nat.le_of_ble_eq_true rfl) dL_law_2350 (Nat.le_trans (bm hka) hla) (Nat.le_trans (bm hkb) hlb) ?_
  refine g_istore B dL_law_2353 (Nat.le_of_ble_eq_true rfl) (s1_c (f1_k rfl (f1_k rfl (f1_k rfl (f1_k rfl (f1_k rfl (f1_1 rfl rfl f1_n))))))) ?_
  refine g_aload_n B 3 dL_law_2355 rfl rfl ?_
  refine g_aload_n B 1 dL_law_2356 rfl rfl ?_
  refine g_iload B 6 dL_law_2357 rfl ?_
  refine g_iconst (v := 1) B dL_law_2359 (by decide) ?_
  refine g_iadd B dL_law_2360 ?_
  replace h := bnP_s h
  obtain ⟨x10, h11, h⟩ := h
  refine g_sld B hX dL_law_2361 h11 ?_
  replace h := bnS_s h
  obtain ⟨x12, s14, h13, h⟩ := h
  refine g_callVs0 (st := []) B (cX10_writeCopyc h13) (Nat.le_of_ble_eq_true rfl) rfl rfl mi_X10_writeCopy lk_RL_296 ⟨Nat.le_of_ble_eq_true rfl, Nat.le_of_ble_eq_true rfl⟩ rfl rfl (Nat.le_of_ble_eq_true rfl) dL_law_2362 (Nat.le_trans (bm hka) hla) (Nat.le_trans (bm hkb) hlb) ?_
  refine g_istore B dL_law_2365 (Nat.le_of_ble_eq_true rfl) (s1_c (f1_1 rfl rfl (f1_k rfl (f1_k rfl (f1_k rfl (f1_k rfl (f1_k rfl (f1_k rfl f1_n)))))))) ?_
  refine g_aload_n B 4 dL_law_2367 rfl rfl ?_
  replace h := bnP_s h
  obtain ⟨x15, h16, h⟩ := h
  refine g_callVs0 (st := []) B (cX10_thrownc h16) (Nat.le_of_ble_eq_true rfl) rfl rfl mi_X10_thrown lk_RL_183 ⟨Nat.le_of_ble_eq_true rfl, Nat.le_of_ble_eq_true rfl⟩ rfl rfl (Nat.le_of_ble_eq_true rfl) dL_law_2368 (Nat.le_trans (bm hka) hla) (Nat.le_trans (bm hkb) hlb) ?_
  refine g_iload B 1 dL_law_2371 rfl ?_
  refine g_icmp_eq B 2378 dL_law_2373 (by decide) (fun hc => ?_) (fun hc => ?_)
  · replace h := ifp hc h
    refine g_iload B 1 dL_law_2378 rfl ?_
    refine g_if_ne B 2395 dL_law_2380 (by decide) (fun hc => ?_) (fun hc => ?_)
    · replace h := ifn hc h
      refine g_goto B 3319 dL_law_2395 (by decide) ?_
      obtain ⟨w1, w2, w3, w4⟩ := inA h
      clear h
      cases w1
      subst w2
      subst w3
      subst w4
      refine g_cost hka hkb ?_
      exact g_sub [2, 3, 4, 5, 6, 7] rfl kk
    · replace h := ifp hc h
      refine g_aload_n B 5 dL_law_2383 rfl rfl ?_
      refine g_iconst (v := 0) B dL_law_2384 (by decide) ?_
      replace h := bnP_s h
      obtain ⟨x17, h18, h⟩ := h
      refine g_lald B dL_law_2385 h18 ?_
      refine g_iload B 0 dL_law_2386 rfl ?_
      refine g_i2l B dL_law_2388 ?_
      refine g_lcmp B dL_law_2389 ?_
      refine g_if_eq B 2395 dL_law_2390 (by decide) (fun hc => ?_) (fun hc => ?_)
      · replace h := ifp hc h
        refine g_goto B 3319 dL_law_2395 (by decide) ?_
        obtain ⟨w1, w2, w3, w4⟩ := inA h
        clear h
        cases w1
        subst w2
        subst w3
        subst w4
        refine g_cost hka hkb ?_
        exact g_sub [2, 3, 4, 5, 6, 7] rfl kk
      · replace h := ifn hc h
        refine g_iconst (v := 0) B dL_law_2393 (by decide) ?_
        cases h
  · replace h := ifn hc h
    refine g_iconst (v := 0) B dL_law_2376 (by decide) ?_
    cases h
set_option maxRecDepth 100000 in
set_option maxHeartbeats 4000000 in
theorem cL_c36 {Δ : AmbT} {Γ : CtxT} (B : Bd Δ Γ RL cL_law 9 2048 84000 601024 7293034) {Lx : Nat} {xs : Nat → Int32} (hX : Scr Δ Γ Lx xs) (hN : NCs Γ.2.2.2.2.1) {v1 v2 v3 v4 : Option Nat} {v5 : Int32} {σ σ' : HpT} {u : Unit} {a b kc ks A9 B9 : Nat} (h : fL_c36 Lx xs v1 v2 v3 v4 v5 σ = some (.ok u, σ', a, b)) (hka : kc + a = A9) (hkb : ks + b = B9) (hla : A9 ≤ 601024) (hlb : B9 ≤ 7293034) (kk : GW Δ Γ A9 B9 3319 [(0, va_rf (some (BIG + 203))), (1, va_rf v1), (2, va_rf v2), (3, va_rf v3), (4, va_rf v4), (5, .int v5)] [] σ') : GW Δ Γ kc ks 2398 [(0, va_rf (some (BIG + 203))), (1, va_rf v1), (2, va_rf v2), (3, va_rf v3), (4, va_rf v4), (5, .int v5)] [] σ := by
  unfold fL_c36 at h
  refine g_aload_n B 1 dL_law_2398 rfl rfl ?_
  refine g_aload_n B 0 dL_law_2399 rfl rfl ?_
  refine g_iload B 5 dL_law_2400 rfl ?_
  refine g_iconst (v := 1) B dL_law_2402 (by decide) ?_
  refine g_iadd B dL_law_2403 ?_
  replace h := bnP_s h
  obtain ⟨x1, h2, h⟩ := h
  refine g_sld B hX dL_law_2404 h2 ?_
  refine g_aload_n B 3 dL_law_2405 rfl rfl ?_
  replace h := bnO_s h
  obtain ⟨x3, s5, a6, b7, a8, b9, h4, h, ea, eb⟩ := h
  subst ea; subst eb
  have hka := bk hka
  have hkb := bk hkb
  refine g_callSWs (st := []) B hN (cL_textBytec (o := .ok x3) h4) miw_L_textByte lk_RL_297 ⟨Nat.le_of_ble_eq_true rfl, Nat.le_of_ble_eq_true rfl⟩ rfl rfl (Nat.le_of_ble_eq_true rfl) dL_law_2406 (Nat.le_trans (bm hka) hla) (Nat.le_trans (bm hkb) hlb) ?_
  refine g_istore B dL_law_2409 (Nat.le_of_ble_eq_true rfl) (s1_c (f1_k rfl (f1_k rfl (f1_k rfl (f1_k rfl (f1_k rfl (f1_1 rfl rfl f1_n))))))) ?_
  refine g_aload_n B 3 dL_law_2411 rfl rfl ?_
  refine g_aload_n B 1 dL_law_2412 rfl rfl ?_
  refine g_iload B 6 dL_law_2413 rfl ?_
  refine g_iconst (v := 1) B dL_law_2415 (by decide) ?_
  refine g_iadd B dL_law_2416 ?_
  replace h := bnP_s h
  obtain ⟨x10, h11, h⟩ := h
  refine g_sld B hX dL_law_2417 h11 ?_
  replace h := bnS_s h
  obtain ⟨x12, s14, h13, h⟩ := h
  refine g_callVs0 (st := []) B (cX10_textBytec h13) (Nat.le_of_ble_eq_true rfl) rfl rfl mi_X10_textByte lk_RL_299 ⟨Nat.le_of_ble_eq_true rfl, Nat.le_of_ble_eq_true rfl⟩ rfl rfl (Nat.le_of_ble_eq_true rfl) dL_law_2418 (Nat.le_trans (bm hka) hla) (Nat.le_trans (bm hkb) hlb) ?_
  refine g_istore B dL_law_2421 (Nat.le_of_ble_eq_true rfl) (s1_c (f1_1 rfl rfl (f1_k rfl (f1_k rfl (f1_k rfl (f1_k rfl (f1_k rfl (f1_k rfl f1_n)))))))) ?_
  refine g_aload_n B 4 dL_law_2423 rfl rfl ?_
  replace h := bnP_s h
  obtain ⟨x15, h16, h⟩ := h
  refine g_callVs0 (st := []) B (cX10_thrownc h16) (Nat.le_of_ble_eq_true rfl) rfl rfl mi_X10_thrown lk_RL_183 ⟨Nat.le_of_ble_eq_true rfl, Nat.le_of_ble_eq_true rfl⟩ rfl rfl (Nat.le_of_ble_eq_true rfl) dL_law_2424 (Nat.le_trans (bm hka) hla) (Nat.le_trans (bm hkb) hlb) ?_
  refine g_iload B 1 dL_law_2427 rfl ?_
  refine g_icmp_eq B 2434 dL_law_2429 (by decide) (fun hc => ?_) (fun hc => ?_)
  · replace h := ifp hc h
    refine g_iload B 1 dL_law_2434 rfl ?_
    refine g_if_ne B 2451 dL_law_2436 (by decide) (fun hc => ?_) (fun hc => ?_)
    · replace h := ifn hc h
      refine g_goto B 3319 dL_law_2451 (by decide) ?_
      obtain ⟨w1, w2, w3, w4⟩ := inA h
      clear h
      cases w1
      subst w2
      subst w3
      subst w4
      refine g_cost hka hkb ?_
      exact g_sub [2, 3, 4, 5, 6, 7] rfl kk
    · replace h := ifp hc h
      refine g_aload_n B 5 dL_law_2439 rfl rfl ?_
      refine g_iconst (v := 0) B dL_law_2440 (by decide) ?_
      replace h := bnP_s h
      obtain ⟨x17, h18, h⟩ := h
      refine g_lald B dL_law_2441 h18 ?_
      refine g_iload B 0 dL_law_2442 rfl ?_
      refine g_i2l B dL_law_2444 ?_
      refine g_lcmp B dL_law_2445 ?_
      refine g_if_eq B 2451 dL_law_2446 (by decide) (fun hc => ?_) (fun hc => ?_)
      · replace h := ifp hc h
        refine g_goto B 3319 dL_law_2451 (by decide) ?_
        obtain ⟨w1, w2, w3, w4⟩ := inA h
        clear h
        cases w1
        subst w2
        subst w3
        subst w4
        refine g_cost hka hkb ?_
        exact g_sub [2, 3, 4, 5, 6, 7] rfl kk
      · replace h := ifn hc h
        refine g_iconst (v := 0) B dL_law_2449 (by decide) ?_
        cases h
  · replace h := ifn hc h
    refine g_iconst (v := 0) B dL_law_2432 (by decide) ?_
    cases h
set_option maxRecDepth 100000 in
set_option maxHeartbeats 4000000 in
theorem cL_c37 {Δ : AmbT} {Γ : CtxT} (B : Bd Δ Γ RL cL_law 9 2048 84000 601024 7293034) {Lx : Nat} {xs : Nat → Int32} (hX : Scr Δ Γ Lx xs) (hN : NCs Γ.2.2.2.2.1) {v1 v2 v3 v4 : Option Nat} {v5 : Int32} {σ σ' : HpT} {u : Unit} {a b kc ks A9 B9 : Nat} (h : fL_c37 Lx xs v1 v2 v3 v4 v5 σ = some (.ok u, σ', a, b)) (hka : kc + a = A9) (hkb : ks + b = B9) (hla : A9 ≤ 601024) (hlb : B9 ≤ 7293034) (kk : GW Δ Γ A9 B9 3319 [(0, va_rf (some (BIG + 203))), (1, va_rf v1), (2, va_rf v2), (3, va_rf v3), (4, va_rf v4), (5, .int v5)] [] σ') : GW Δ Γ kc ks 2454 [(0, va_rf (some (BIG + 203))), (1, va_rf v1), (2, va_rf v2), (3, va_rf v3), (4, va_rf v4), (5, .int v5)] [] σ := by
  unfold fL_c37 at h
  refine g_aload_n B 1 dL_law_2454 rfl rfl ?_
  refine g_aload_n B 0 dL_law_2455 rfl rfl ?_
  refine g_iload B 5 dL_law_2456 rfl ?_
  refine g_iconst (v := 1) B dL_law_2458 (by decide) ?_
  refine g_iadd B dL_law_2459 ?_
  replace h := bnP_s h
  obtain ⟨x1, h2, h⟩ := h
  refine g_sld B hX dL_law_2460 h2 ?_
  refine g_aload_n B 0 dL_law_2461 rfl rfl ?_
  refine g_iload B 5 dL_law_2462 rfl ?_
  refine g_iconst (v := 2) B dL_law_2464 (by decide) ?_
  refine g_iadd B dL_law_2465 ?_
  replace h := bnP_s h
  obtain ⟨x3, h4, h⟩ := h
  refine g_sld B hX dL_law_2466 h4 ?_
  refine g_aload_n B 3 dL_law_2467 rfl rfl ?_
  replace h := bnO_s h
  obtain ⟨x5, s7, a8, b9, a10, b11, h6, h, ea, eb⟩ := h
  subst ea; subst eb
  have hka := bk hka
  have hkb := bk hkb
  refine g_callSWs (st := []) B hN (cL_beginc (o := .ok x5) h6) miw_L_begin lk_RL_300 ⟨Nat.le_of_ble_eq_true rfl, Nat.le_of_ble_eq_true rfl⟩ rfl rfl (Nat.le_of_ble_eq_true rfl) dL_law_2468 (Nat.le_trans (bm hka) hla) (Nat.le_trans (bm hkb) hlb) ?_
  refine g_istore B dL_law_2471 (Nat.le_of_ble_eq_true rfl) (s1_c (f1_k rfl (f1_k rfl (f1_k rfl (f1_k rfl (f1_k rfl (f1_1 rfl rfl f1_n))))))) ?_
  refine g_aload_n B 3 dL_law_2473 rfl rfl ?_
  refine g_aload_n B 1 dL_law_2474 rfl rfl ?_
  refine g_iload B 6 dL_law_2475 rfl ?_
  refine g_iconst (v := 1) B dL_law_2477 (by decide) ?_
  refine g_iadd B dL_law_2478 ?_
  replace h := bnP_s h
  obtain ⟨x12, h13, h⟩ := h
  refine g_sld B hX dL_law_2479 h13 ?_
  refine g_aload_n B 1 dL_law_2480 rfl rfl ?_
  refine g_iload B 6 dL_law_2481 rfl ?_
  refine g_iconst (v := 2) B dL_law_2483 (by decide) ?_
  refine g_iadd B dL_law_2484 ?_
  replace h := bnP_s h
  obtain ⟨x14, h15, h⟩ := h
  refine g_sld B hX dL_law_2485 h15 ?_
  replace h := bnS_s h
  obtain ⟨x16, s18, h17, h⟩ := h
  refine g_callVs0 (st := []) B (cX10_beginc h17) (Nat.le_of_ble_eq_true rfl) rfl rfl mi_X10_begin lk_RL_302 ⟨Nat.le_of_ble_eq_true rfl, Nat.le_of_ble_eq_true rfl⟩ rfl rfl (Nat.le_of_ble_eq_true rfl) dL_law_2486 (Nat.le_trans (bm hka) hla) (Nat.le_trans (bm hkb) hlb) ?_
  refine g_istore B dL_law_2489 (Nat.le_of_ble_eq_true rfl) (s1_c (f1_1 rfl rfl (f1_k rfl (f1_k rfl (f1_k rfl (f1_k rfl (f1_k rfl (f1_k rfl f1_n)))))))) ?_
  refine g_aload_n B 4 dL_law_2491 rfl rfl ?_
  replace h := bnP_s h
  obtain ⟨x19, h20, h⟩ := h
  refine g_callVs0 (st := []) B (cX10_thrownc h20) (Nat.le_of_ble_eq_true rfl) rfl rfl mi_X10_thrown lk_RL_183 ⟨Nat.le_of_ble_eq_true rfl, Nat.le_of_ble_eq_true rfl⟩ rfl rfl (Nat.le_of_ble_eq_true rfl) dL_law_2492 (Nat.le_trans (bm hka) hla) (Nat.le_trans (bm hkb) hlb) ?_
  refine g_iload B 1 dL_law_2495 rfl ?_
  refine g_icmp_eq B 2502 dL_law_2497 (by decide) (fun hc => ?_) (fun hc => ?_)
  · replace h := ifp hc h
    refine g_iload B 1 dL_law_2502 rfl ?_
    refine g_if_ne B 2519 dL_law_2504 (by decide) (fun hc => ?_) (fun hc => ?_)
    · replace h := ifn hc h
      refine g_goto B 3319 dL_law_2519 (by decide) ?_
      obtain ⟨w1, w2, w3, w4⟩ := inA h
      clear h
      cases w1
      subst w2
      subst w3
      subst w4
      refine g_cost hka hkb ?_
      exact g_sub [2, 3, 4, 5, 6, 7] rfl kk
    · replace h := ifp hc h
      refine g_aload_n B 5 dL_law_2507 rfl rfl ?_
      refine g_iconst (v := 0) B dL_law_2508 (by decide) ?_
      replace h := bnP_s h
      obtain ⟨x21, h22, h⟩ := h
      refine g_lald B dL_law_2509 h22 ?_
      refine g_iload B 0 dL_law_2510 rfl ?_
      refine g_i2l B dL_law_2512 ?_
      refine g_lcmp B dL_law_2513 ?_
      refine g_if_eq B 2519 dL_law_2514 (by decide) (fun hc => ?_) (fun hc => ?_)
      · replace h := ifp hc h
        refine g_goto B 3319 dL_law_2519 (by decide) ?_
        obtain ⟨w1, w2, w3, w4⟩ := inA h
        clear h
        cases w1
        subst w2
        subst w3
        subst w4
        refine g_cost hka hkb ?_
        exact g_sub [2, 3, 4, 5, 6, 7] rfl kk
      · replace h := ifn hc h
        refine g_iconst (v := 0) B dL_law_2517 (by decide) ?_
        cases h
  · replace h := ifn hc h
    refine g_iconst (v := 0) B dL_law_2500 (by decide) ?_
    cases h
set_option maxRecDepth 100000 in
set_option maxHeartbeats 4000000 in
theorem cL_c38 {Δ : AmbT} {Γ : CtxT} (B : Bd Δ Γ RL cL_law 9 2048 84000 601024 7293034) {Lx : Nat} {xs : Nat → Int32} (hX : Scr Δ Γ Lx xs) (hN : NCs Γ.2.2.2.2.1) {v1 v2 v3 v4 : Option Nat} {v5 : Int32} {σ σ' : HpT} {u : Unit} {a b kc ks A9 B9 : Nat} (h : fL_c38 Lx xs v1 v2 v3 v4 v5 σ = some (.ok u, σ', a, b)) (hka : kc + a = A9) (hkb : ks + b = B9) (hla : A9 ≤ 601024) (hlb : B9 ≤ 7293034) (kk : GW Δ Γ A9 B9 3319 [(0, va_rf (some (BIG + 203))), (1, va_rf v1), (2, va_rf v2), (3, va_rf v3), (4, va_rf v4), (5, .int v5)] [] σ') : GW Δ Γ kc ks 2522 [(0, va_rf (some (BIG + 203))), (1, va_rf v1), (2, va_rf v2), (3, va_rf v3), (4, va_rf v4), (5, .int v5)] [] σ := by
  unfold fL_c38 at h
  refine g_aload_n B 1 dL_law_2522 rfl rfl ?_
  refine g_aload_n B 0 dL_law_2523 rfl rfl ?_
  refine g_iload B 5 dL_law_2524 rfl ?_
  refine g_iconst (v := 1) B dL_law_2526 (by decide) ?_
  refine g_iadd B dL_law_2527 ?_
  replace h := bnP_s h
  obtain ⟨x1, h2, h⟩ := h
  refine g_sld B hX dL_law_2528 h2 ?_
  refine g_aload_n B 3 dL_law_2529 rfl rfl ?_
  replace h := bnO_s h
  obtain ⟨x3, s5, a6, b7, a8, b9, h4, h, ea, eb⟩ := h
  subst ea; subst eb
  have hka := bk hka
  have hkb := bk hkb
  refine g_callSWs (st := []) B hN (cL_strikec (o := .ok x3) h4) miw_L_strike lk_RL_303 ⟨Nat.le_of_ble_eq_true rfl, Nat.le_of_ble_eq_true rfl⟩ rfl rfl (Nat.le_of_ble_eq_true rfl) dL_law_2530 (Nat.le_trans (bm hka) hla) (Nat.le_trans (bm hkb) hlb) ?_
  refine g_istore B dL_law_2533 (Nat.le_of_ble_eq_true rfl) (s1_c (f1_k rfl (f1_k rfl (f1_k rfl (f1_k rfl (f1_k rfl (f1_1 rfl rfl f1_n))))))) ?_
  refine g_aload_n B 3 dL_law_2535 rfl rfl ?_
  refine g_aload_n B 1 dL_law_2536 rfl rfl ?_
  refine g_iload B 6 dL_law_2537 rfl ?_
  refine g_iconst (v := 1) B dL_law_2539 (by decide) ?_
  refine g_iadd B dL_law_2540 ?_
  replace h := bnP_s h
  obtain ⟨x10, h11, h⟩ := h
  refine g_sld B hX dL_law_2541 h11 ?_
  replace h := bnS_s h
  obtain ⟨x12, s14, h13, h⟩ := h
  refine g_callVs0 (st := []) B (cX10_strikec h13) (Nat.le_of_ble_eq_true rfl) rfl rfl mi_X10_strike lk_RL_305 ⟨Nat.le_of_ble_eq_true rfl, Nat.le_of_ble_eq_true rfl⟩ rfl rfl (Nat.le_of_ble_eq_true rfl) dL_law_2542 (Nat.le_trans (bm hka) hla) (Nat.le_trans (bm hkb) hlb) ?_
  refine g_istore B dL_law_2545 (Nat.le_of_ble_eq_true rfl) (s1_c (f1_1 rfl rfl (f1_k rfl (f1_k rfl (f1_k rfl (f1_k rfl (f1_k rfl (f1_k rfl f1_n)))))))) ?_
  refine g_aload_n B 4 dL_law_2547 rfl rfl ?_
  replace h := bnP_s h
  obtain ⟨x15, h16, h⟩ := h
  refine g_callVs0 (st := []) B (cX10_thrownc h16) (Nat.le_of_ble_eq_true rfl) rfl rfl mi_X10_thrown lk_RL_183 ⟨Nat.le_of_ble_eq_true rfl, Nat.le_of_ble_eq_true rfl⟩ rfl rfl (Nat.le_of_ble_eq_true rfl) dL_law_2548 (Nat.le_trans (bm hka) hla) (Nat.le_trans (bm hkb) hlb) ?_
  refine g_iload B 1 dL_law_2551 rfl ?_
  refine g_icmp_eq B 2558 dL_law_2553 (by decide) (fun hc => ?_) (fun hc => ?_)
  · replace h := ifp hc h
    refine g_iload B 1 dL_law_2558 rfl ?_
    refine g_if_ne B 2575 dL_law_2560 (by decide) (fun hc => ?_) (fun hc => ?_)
    · replace h := ifn hc h
      refine g_goto B 3319 dL_law_2575 (by decide) ?_
      obtain ⟨w1, w2, w3, w4⟩ := inA h
      clear h
      cases w1
      subst w2
      subst w3
      subst w4
      refine g_cost hka hkb ?_
      exact g_sub [2, 3, 4, 5, 6, 7] rfl kk
    · replace h := ifp hc h
      refine g_aload_n B 5 dL_law_2563 rfl rfl ?_
      refine g_iconst (v := 0) B dL_law_2564 (by decide) ?_
      replace h := bnP_s h
      obtain ⟨x17, h18, h⟩ := h
      refine g_lald B dL_law_2565 h18 ?_
      refine g_iload B 0 dL_law_2566 rfl ?_
      refine g_i2l B dL_law_2568 ?_
      refine g_lcmp B dL_law_2569 ?_
      refine g_if_eq B 2575 dL_law_2570 (by decide) (fun hc => ?_) (fun hc => ?_)
      · replace h := ifp hc h
        refine g_goto B 3319 dL_law_2575 (by decide) ?_
        obtain ⟨w1, w2, w3, w4⟩ := inA h
        clear h
        cases w1
        subst w2
        subst w3
        subst w4
        refine g_cost hka hkb ?_
        exact g_sub [2, 3, 4, 5, 6, 7] rfl kk
      · replace h := ifn hc h
        refine g_iconst (v := 0) B dL_law_2573 (by decide) ?_
        cases h
  · replace h := ifn hc h
    refine g_iconst (v := 0) B dL_law_2556 (by decide) ?_
    cases h
set_option maxRecDepth 100000 in
set_option maxHeartbeats 4000000 in
theorem cL_c39 {Δ : AmbT} {Γ : CtxT} (B : Bd Δ Γ RL cL_law 9 2048 84000 601024 7293034) {Lx : Nat} {xs : Nat → Int32} (hX : Scr Δ Γ Lx xs) (hN : NCs Γ.2.2.2.2.1) {v1 v2 v3 v4 : Option Nat} {v5 : Int32} {σ σ' : HpT} {u : Unit} {a b kc ks A9 B9 : Nat} (h : fL_c39 Lx xs v1 v2 v3 v4 v5 σ = some (.ok u, σ', a, b)) (hka : kc + a = A9) (hkb : ks + b = B9) (hla : A9 ≤ 601024) (hlb : B9 ≤ 7293034) (kk : GW Δ Γ A9 B9 3319 [(0, va_rf (some (BIG + 203))), (1, va_rf v1), (2, va_rf v2), (3, va_rf v3), (4, va_rf v4), (5, .int v5)] [] σ') : GW Δ Γ kc ks 2578 [(0, va_rf (some (BIG + 203))), (1, va_rf v1), (2, va_rf v2), (3, va_rf v3), (4, va_rf v4), (5, .int v5)] [] σ := by
  unfold fL_c39 at h
  refine g_aload_n B 1 dL_law_2578 rfl rfl ?_
  refine g_aload_n B 0 dL_law_2579 rfl rfl ?_
  refine g_iload B 5 dL_law_2580 rfl ?_
  refine g_iconst (v := 1) B dL_law_2582 (by decide) ?_
  refine g_iadd B dL_law_2583 ?_
  replace h := bnP_s h
  obtain ⟨x1, h2, h⟩ := h
  refine g_sld B hX dL_law_2584 h2 ?_
  refine g_aload_n B 3 dL_law_2585 rfl rfl ?_
  replace h := bnO_s h
  obtain ⟨x3, s5, a6, b7, a8, b9, h4, h, ea, eb⟩ := h
  subst ea; subst eb
  have hka := bk hka
  have hkb := bk hkb
  refine g_callSWs (st := []) B hN (cL_strikeClausec (o := .ok x3) h4) miw_L_strikeClause lk_RL_306 ⟨Nat.le_of_ble_eq_true rfl, Nat.le_of_ble_eq_true rfl⟩ rfl rfl (Nat.le_of_ble_eq_true rfl) dL_law_2586 (Nat.le_trans (bm hka) hla) (Nat.le_trans (bm hkb) hlb) ?_
  refine g_istore B dL_law_2589 (Nat.le_of_ble_eq_true rfl) (s1_c (f1_k rfl (f1_k rfl (f1_k rfl (f1_k rfl (f1_k rfl (f1_1 rfl rfl f1_n))))))) ?_
  refine g_aload_n B 3 dL_law_2591 rfl rfl ?_
  refine g_aload_n B 1 dL_law_2592 rfl rfl ?_
  refine g_iload B 6 dL_law_2593 rfl ?_
  refine g_iconst (v := 1) B dL_law_2595 (by decide) ?_
  refine g_iadd B dL_law_2596 ?_
  replace h := bnP_s h
  obtain ⟨x10, h11, h⟩ := h
  refine g_sld B hX dL_law_2597 h11 ?_
  replace h := bnS_s h
  obtain ⟨x12, s14, h13, h⟩ := h
  refine g_callVs0 (st := []) B (cX10_strikeClausec h13) (Nat.le_of_ble_eq_true rfl) rfl rfl mi_X10_strikeClause lk_RL_308 ⟨Nat.le_of_ble_eq_true rfl, Nat.le_of_ble_eq_true rfl⟩ rfl rfl (Nat.le_of_ble_eq_true rfl) dL_law_2598 (Nat.le_trans (bm hka) hla) (Nat.le_trans (bm hkb) hlb) ?_
  refine g_istore B dL_law_2601 (Nat.le_of_ble_eq_true rfl) (s1_c (f1_1 rfl rfl (f1_k rfl (f1_k rfl (f1_k rfl (f1_k rfl (f1_k rfl (f1_k rfl f1_n)))))))) ?_
  refine g_aload_n B 4 dL_law_2603 rfl rfl ?_
  replace h := bnP_s h
  obtain ⟨x15, h16, h⟩ := h
  refine g_callVs0 (st := []) B (cX10_thrownc h16) (Nat.le_of_ble_eq_true rfl) rfl rfl mi_X10_thrown lk_RL_183 ⟨Nat.le_of_ble_eq_true rfl, Nat.le_of_ble_eq_true rfl⟩ rfl rfl (Nat.le_of_ble_eq_true rfl) dL_law_2604 (Nat.le_trans (bm hka) hla) (Nat.le_trans (bm hkb) hlb) ?_
  refine g_iload B 1 dL_law_2607 rfl ?_
  refine g_icmp_eq B 2614 dL_law_2609 (by decide) (fun hc => ?_) (fun hc => ?_)
  · replace h := ifp hc h
    refine g_iload B 1 dL_law_2614 rfl ?_
    refine g_if_ne B 2631 dL_law_2616 (by decide) (fun hc => ?_) (fun hc => ?_)
    · replace h := ifn hc h
      refine g_goto B 3319 dL_law_2631 (by decide) ?_
      obtain ⟨w1, w2, w3, w4⟩ := inA h
      clear h
      cases w1
      subst w2
      subst w3
      subst w4
      refine g_cost hka hkb ?_
      exact g_sub [2, 3, 4, 5, 6, 7] rfl kk
    · replace h := ifp hc h
      refine g_aload_n B 5 dL_law_2619 rfl rfl ?_
      refine g_iconst (v := 0) B dL_law_2620 (by decide) ?_
      replace h := bnP_s h
      obtain ⟨x17, h18, h⟩ := h
      refine g_lald B dL_law_2621 h18 ?_
      refine g_iload B 0 dL_law_2622 rfl ?_
      refine g_i2l B dL_law_2624 ?_
      refine g_lcmp B dL_law_2625 ?_
      refine g_if_eq B 2631 dL_law_2626 (by decide) (fun hc => ?_) (fun hc => ?_)
      · replace h := ifp hc h
        refine g_goto B 3319 dL_law_2631 (by decide) ?_
        obtain ⟨w1, w2, w3, w4⟩ := inA h
        clear h
        cases w1
        subst w2
        subst w3
        subst w4
        refine g_cost hka hkb ?_
        exact g_sub [2, 3, 4, 5, 6, 7] rfl kk
      · replace h := ifn hc h
        refine g_iconst (v := 0) B dL_law_2629 (by decide) ?_
        cases h
  · replace h := ifn hc h
    refine g_iconst (v := 0) B dL_law_2612 (by decide) ?_
    cases h
set_option maxRecDepth 100000 in
set_option maxHeartbeats 4000000 in
theorem cL_c40 {Δ : AmbT} {Γ : CtxT} (B : Bd Δ Γ RL cL_law 9 2048 84000 601024 7293034) {Lx : Nat} {xs : Nat → Int32} (hX : Scr Δ Γ Lx xs) (hN : NCs Γ.2.2.2.2.1) {v1 v2 v3 v4 : Option Nat} {v5 : Int32} {σ σ' : HpT} {u : Unit} {a b kc ks A9 B9 : Nat} (h : fL_c40 Lx xs v1 v2 v3 v4 v5 σ = some (.ok u, σ', a, b)) (hka : kc + a = A9) (hkb : ks + b = B9) (hla : A9 ≤ 601024) (hlb : B9 ≤ 7293034) (kk : GW Δ Γ A9 B9 3319 [(0, va_rf (some (BIG + 203))), (1, va_rf v1), (2, va_rf v2), (3, va_rf v3), (4, va_rf v4), (5, .int v5)] [] σ') : GW Δ Γ kc ks 2634 [(0, va_rf (some (BIG + 203))), (1, va_rf v1), (2, va_rf v2), (3, va_rf v3), (4, va_rf v4), (5, .int v5)] [] σ := by
  unfold fL_c40 at h
  refine g_aload_n B 1 dL_law_2634 rfl rfl ?_
  refine g_aload_n B 0 dL_law_2635 rfl rfl ?_
  refine g_iload B 5 dL_law_2636 rfl ?_
  refine g_iconst (v := 1) B dL_law_2638 (by decide) ?_
  refine g_iadd B dL_law_2639 ?_
  replace h := bnP_s h
  obtain ⟨x1, h2, h⟩ := h
  refine g_sld B hX dL_law_2640 h2 ?_
  refine g_aload_n B 0 dL_law_2641 rfl rfl ?_
  refine g_iload B 5 dL_law_2642 rfl ?_
  refine g_iconst (v := 2) B dL_law_2644 (by decide) ?_
  refine g_iadd B dL_law_2645 ?_
  replace h := bnP_s h
  obtain ⟨x3, h4, h⟩ := h
  refine g_sld B hX dL_law_2646 h4 ?_
  refine g_aload_n B 3 dL_law_2647 rfl rfl ?_
  replace h := bnO_s h
  obtain ⟨x5, s7, a8, b9, a10, b11, h6, h, ea, eb⟩ := h
  subst ea; subst eb
  have hka := bk hka
  have hkb := bk hkb
  refine g_callSWs (st := []) B hN (cL_interlinec (o := .ok x5) h6) miw_L_interline lk_RL_309 ⟨Nat.le_of_ble_eq_true rfl, Nat.le_of_ble_eq_true rfl⟩ rfl rfl (Nat.le_of_ble_eq_true rfl) dL_law_2648 (Nat.le_trans (bm hka) hla) (Nat.le_trans (bm hkb) hlb) ?_
  refine g_istore B dL_law_2651 (Nat.le_of_ble_eq_true rfl) (s1_c (f1_k rfl (f1_k rfl (f1_k rfl (f1_k rfl (f1_k rfl (f1_1 rfl rfl f1_n))))))) ?_
  refine g_aload_n B 3 dL_law_2653 rfl rfl ?_
  refine g_aload_n B 1 dL_law_2654 rfl rfl ?_
  refine g_iload B 6 dL_law_2655 rfl ?_
  refine g_iconst (v := 1) B dL_law_2657 (by decide) ?_
  refine g_iadd B dL_law_2658 ?_
  replace h := bnP_s h
  obtain ⟨x12, h13, h⟩ := h
  refine g_sld B hX dL_law_2659 h13 ?_
  refine g_aload_n B 1 dL_law_2660 rfl rfl ?_
  refine g_iload B 6 dL_law_2661 rfl ?_
  refine g_iconst (v := 2) B dL_law_2663 (by decide) ?_
  refine g_iadd B dL_law_2664 ?_
  replace h := bnP_s h
  obtain ⟨x14, h15, h⟩ := h
  refine g_sld B hX dL_law_2665 h15 ?_
  replace h := bnS_s h
  obtain ⟨x16, s18, h17, h⟩ := h
  refine g_callVs0 (st := []) B (cX10_interlinec h17) (Nat.le_of_ble_eq_true rfl) rfl rfl mi_X10_interline lk_RL_311 ⟨Nat.le_of_ble_eq_true rfl, Nat.le_of_ble_eq_true rfl⟩ rfl rfl (Nat.le_of_ble_eq_true rfl) dL_law_2666 (Nat.le_trans (bm hka) hla) (Nat.le_trans (bm hkb) hlb) ?_
  refine g_istore B dL_law_2669 (Nat.le_of_ble_eq_true rfl) (s1_c (f1_1 rfl rfl (f1_k rfl (f1_k rfl (f1_k rfl (f1_k rfl (f1_k rfl (f1_k rfl f1_n)))))))) ?_
  refine g_aload_n B 4 dL_law_2671 rfl rfl ?_
  replace h := bnP_s h
  obtain ⟨x19, h20, h⟩ := h
  refine g_callVs0 (st := []) B (cX10_thrownc h20) (Nat.le_of_ble_eq_true rfl) rfl rfl mi_X10_thrown lk_RL_183 ⟨Nat.le_of_ble_eq_true rfl, Nat.le_of_ble_eq_true rfl⟩ rfl rfl (Nat.le_of_ble_eq_true rfl) dL_law_2672 (Nat.le_trans (bm hka) hla) (Nat.le_trans (bm hkb) hlb) ?_
  refine g_iload B 1 dL_law_2675 rfl ?_
  refine g_icmp_eq B 2682 dL_law_2677 (by decide) (fun hc => ?_) (fun hc => ?_)
  · replace h := ifp hc h
    refine g_iload B 1 dL_law_2682 rfl ?_
    refine g_if_ne B 2699 dL_law_2684 (by decide) (fun hc => ?_) (fun hc => ?_)
    · replace h := ifn hc h
      refine g_goto B 3319 dL_law_2699 (by decide) ?_
      obtain ⟨w1, w2, w3, w4⟩ := inA h
      clear h
      cases w1
      subst w2
      subst w3
      subst w4
      refine g_cost hka hkb ?_
      exact g_sub [2, 3, 4, 5, 6, 7] rfl kk
    · replace h := ifp hc h
      refine g_aload_n B 5 dL_law_2687 rfl rfl ?_
      refine g_iconst (v := 0) B dL_law_2688 (by decide) ?_
      replace h := bnP_s h
      obtain ⟨x21, h22, h⟩ := h
      refine g_lald B dL_law_2689 h22 ?_
      refine g_iload B 0 dL_law_2690 rfl ?_
      refine g_i2l B dL_law_2692 ?_
      refine g_lcmp B dL_law_2693 ?_
      refine g_if_eq B 2699 dL_law_2694 (by decide) (fun hc => ?_) (fun hc => ?_)
      · replace h := ifp hc h
        refine g_goto B 3319 dL_law_2699 (by decide) ?_
        obtain ⟨w1, w2, w3, w4⟩ := inA h
        clear h
        cases w1
        subst w2
        subst w3
        subst w4
        refine g_cost hka hkb ?_
        exact g_sub [2, 3, 4, 5, 6, 7] rfl kk
      · replace h := ifn hc h
        refine g_iconst (v := 0) B dL_law_2697 (by decide) ?_
        cases h
  · replace h := ifn hc h
    refine g_iconst (v := 0) B dL_law_2680 (by decide) ?_
    cases h
set_option maxRecDepth 100000 in
set_option maxHeartbeats 4000000 in
theorem cL_c41 {Δ : AmbT} {Γ : CtxT} (B : Bd Δ Γ RL cL_law 9 2048 84000 601024 7293034) {Lx : Nat} {xs : Nat → Int32} (hX : Scr Δ Γ Lx xs) (hN : NCs Γ.2.2.2.2.1) {v1 v2 v3 v4 : Option Nat} {v5 : Int32} {σ σ' : HpT} {u : Unit} {a b kc ks A9 B9 : Nat} (h : fL_c41 Lx xs v1 v2 v3 v4 v5 σ = some (.ok u, σ', a, b)) (hka : kc + a = A9) (hkb : ks + b = B9) (hla : A9 ≤ 601024) (hlb : B9 ≤ 7293034) (kk : GW Δ Γ A9 B9 3319 [(0, va_rf (some (BIG + 203))), (1, va_rf v1), (2, va_rf v2), (3, va_rf v3), (4, va_rf v4), (5, .int v5)] [] σ') : GW Δ Γ kc ks 2702 [(0, va_rf (some (BIG + 203))), (1, va_rf v1), (2, va_rf v2), (3, va_rf v3), (4, va_rf v4), (5, .int v5)] [] σ := by
  unfold fL_c41 at h
  refine g_aload_n B 1 dL_law_2702 rfl rfl ?_
  refine g_aload_n B 0 dL_law_2703 rfl rfl ?_
  refine g_iload B 5 dL_law_2704 rfl ?_
  refine g_iconst (v := 1) B dL_law_2706 (by decide) ?_
  refine g_iadd B dL_law_2707 ?_
  replace h := bnP_s h
  obtain ⟨x1, h2, h⟩ := h
  refine g_sld B hX dL_law_2708 h2 ?_
  refine g_aload_n B 0 dL_law_2709 rfl rfl ?_
  refine g_iload B 5 dL_law_2710 rfl ?_
  refine g_iconst (v := 2) B dL_law_2712 (by decide) ?_
  refine g_iadd B dL_law_2713 ?_
  replace h := bnP_s h
  obtain ⟨x3, h4, h⟩ := h
  refine g_sld B hX dL_law_2714 h4 ?_
  refine g_aload_n B 3 dL_law_2715 rfl rfl ?_
  replace h := bnO_s h
  obtain ⟨x5, s7, a8, b9, a10, b11, h6, h, ea, eb⟩ := h
  subst ea; subst eb
  have hka := bk hka
  have hkb := bk hkb
  refine g_callSWs (st := []) B hN (cL_sealc (o := .ok x5) h6) miw_L_seal lk_RL_312 ⟨Nat.le_of_ble_eq_true rfl, Nat.le_of_ble_eq_true rfl⟩ rfl rfl (Nat.le_of_ble_eq_true rfl) dL_law_2716 (Nat.le_trans (bm hka) hla) (Nat.le_trans (bm hkb) hlb) ?_
  refine g_istore B dL_law_2719 (Nat.le_of_ble_eq_true rfl) (s1_c (f1_k rfl (f1_k rfl (f1_k rfl (f1_k rfl (f1_k rfl (f1_1 rfl rfl f1_n))))))) ?_
  refine g_aload_n B 3 dL_law_2721 rfl rfl ?_
  refine g_aload_n B 1 dL_law_2722 rfl rfl ?_
  refine g_iload B 6 dL_law_2723 rfl ?_
  refine g_iconst (v := 1) B dL_law_2725 (by decide) ?_
  refine g_iadd B dL_law_2726 ?_
  replace h := bnP_s h
  obtain ⟨x12, h13, h⟩ := h
  refine g_sld B hX dL_law_2727 h13 ?_
  refine g_aload_n B 1 dL_law_2728 rfl rfl ?_
  refine g_iload B 6 dL_law_2729 rfl ?_
  refine g_iconst (v := 2) B dL_law_2731 (by decide) ?_
  refine g_iadd B dL_law_2732 ?_
  replace h := bnP_s h
  obtain ⟨x14, h15, h⟩ := h
  refine g_sld B hX dL_law_2733 h15 ?_
  replace h := bnS_s h
  obtain ⟨x16, s18, h17, h⟩ := h
  refine g_callVs0 (st := []) B (cX10_sealc h17) (Nat.le_of_ble_eq_true rfl) rfl rfl mi_X10_seal lk_RL_314 ⟨Nat.le_of_ble_eq_true rfl, Nat.le_of_ble_eq_true rfl⟩ rfl rfl (Nat.le_of_ble_eq_true rfl) dL_law_2734 (Nat.le_trans (bm hka) hla) (Nat.le_trans (bm hkb) hlb) ?_
  refine g_istore B dL_law_2737 (Nat.le_of_ble_eq_true rfl) (s1_c (f1_1 rfl rfl (f1_k rfl (f1_k rfl (f1_k rfl (f1_k rfl (f1_k rfl (f1_k rfl f1_n)))))))) ?_
  refine g_aload_n B 4 dL_law_2739 rfl rfl ?_
  replace h := bnP_s h
  obtain ⟨x19, h20, h⟩ := h
  refine g_callVs0 (st := []) B (cX10_thrownc h20) (Nat.le_of_ble_eq_true rfl) rfl rfl mi_X10_thrown lk_RL_183 ⟨Nat.le_of_ble_eq_true rfl, Nat.le_of_ble_eq_true rfl⟩ rfl rfl (Nat.le_of_ble_eq_true rfl) dL_law_2740 (Nat.le_trans (bm hka) hla) (Nat.le_trans (bm hkb) hlb) ?_
  refine g_iload B 1 dL_law_2743 rfl ?_
  refine g_icmp_eq B 2750 dL_law_2745 (by decide) (fun hc => ?_) (fun hc => ?_)
  · replace h := ifp hc h
    refine g_iload B 1 dL_law_2750 rfl ?_
    refine g_if_ne B 2767 dL_law_2752 (by decide) (fun hc => ?_) (fun hc => ?_)
    · replace h := ifn hc h
      refine g_goto B 3319 dL_law_2767 (by decide) ?_
      obtain ⟨w1, w2, w3, w4⟩ := inA h
      clear h
      cases w1
      subst w2
      subst w3
      subst w4
      refine g_cost hka hkb ?_
      exact g_sub [2, 3, 4, 5, 6, 7] rfl kk
    · replace h := ifp hc h
      refine g_aload_n B 5 dL_law_2755 rfl rfl ?_
      refine g_iconst (v := 0) B dL_law_2756 (by decide) ?_
      replace h := bnP_s h
      obtain ⟨x21, h22, h⟩ := h
      refine g_lald B dL_law_2757 h22 ?_
      refine g_iload B 0 dL_law_2758 rfl ?_
      refine g_i2l B dL_law_2760 ?_
      refine g_lcmp B dL_law_2761 ?_
      refine g_if_eq B 2767 dL_law_2762 (by decide) (fun hc => ?_) (fun hc => ?_)
      · replace h := ifp hc h
        refine g_goto B 3319 dL_law_2767 (by decide) ?_
        obtain ⟨w1, w2, w3, w4⟩ := inA h
        clear h
        cases w1
        subst w2
        subst w3
        subst w4
        refine g_cost hka hkb ?_
        exact g_sub [2, 3, 4, 5, 6, 7] rfl kk
      · replace h := ifn hc h
        refine g_iconst (v := 0) B dL_law_2765 (by decide) ?_
        cases h
  · replace h := ifn hc h
    refine g_iconst (v := 0) B dL_law_2748 (by decide) ?_
    cases h
set_option maxRecDepth 100000 in
set_option maxHeartbeats 4000000 in
theorem cL_c42 {Δ : AmbT} {Γ : CtxT} (B : Bd Δ Γ RL cL_law 9 2048 84000 601024 7293034) {Lx : Nat} {xs : Nat → Int32} (hX : Scr Δ Γ Lx xs) (hN : NCs Γ.2.2.2.2.1) {v1 v2 v3 v4 : Option Nat} {v5 : Int32} {σ σ' : HpT} {u : Unit} {a b kc ks A9 B9 : Nat} (h : fL_c42 Lx xs v1 v2 v3 v4 v5 σ = some (.ok u, σ', a, b)) (hka : kc + a = A9) (hkb : ks + b = B9) (hla : A9 ≤ 601024) (hlb : B9 ≤ 7293034) (kk : GW Δ Γ A9 B9 3319 [(0, va_rf (some (BIG + 203))), (1, va_rf v1), (2, va_rf v2), (3, va_rf v3), (4, va_rf v4), (5, .int v5)] [] σ') : GW Δ Γ kc ks 2770 [(0, va_rf (some (BIG + 203))), (1, va_rf v1), (2, va_rf v2), (3, va_rf v3), (4, va_rf v4), (5, .int v5)] [] σ := by
  unfold fL_c42 at h
  refine g_aload_n B 1 dL_law_2770 rfl rfl ?_
  refine g_aload_n B 3 dL_law_2771 rfl rfl ?_
  replace h := bnO_s h
  obtain ⟨x1, s3, a4, b5, a6, b7, h2, h, ea, eb⟩ := h
  subst ea; subst eb
  have hka := bk hka
  have hkb := bk hkb
  refine g_callSWs (st := []) B hN (cL_cancelc (o := .ok x1) h2) miw_L_cancel lk_RL_315 ⟨Nat.le_of_ble_eq_true rfl, Nat.le_of_ble_eq_true rfl⟩ rfl rfl (Nat.le_of_ble_eq_true rfl) dL_law_2772 (Nat.le_trans (bm hka) hla) (Nat.le_trans (bm hkb) hlb) ?_
  refine g_istore B dL_law_2775 (Nat.le_of_ble_eq_true rfl) (s1_c (f1_k rfl (f1_k rfl (f1_k rfl (f1_k rfl (f1_k rfl (f1_1 rfl rfl f1_n))))))) ?_
  refine g_aload_n B 3 dL_law_2777 rfl rfl ?_
  replace h := bnS_s h
  obtain ⟨x8, s10, h9, h⟩ := h
  refine g_callVs0 (st := []) B (cX10_cancelc h9) (Nat.le_of_ble_eq_true rfl) rfl rfl mi_X10_cancel lk_RL_317 ⟨Nat.le_of_ble_eq_true rfl, Nat.le_of_ble_eq_true rfl⟩ rfl rfl (Nat.le_of_ble_eq_true rfl) dL_law_2778 (Nat.le_trans (bm hka) hla) (Nat.le_trans (bm hkb) hlb) ?_
  refine g_istore B dL_law_2781 (Nat.le_of_ble_eq_true rfl) (s1_c (f1_1 rfl rfl (f1_k rfl (f1_k rfl (f1_k rfl (f1_k rfl (f1_k rfl (f1_k rfl f1_n)))))))) ?_
  refine g_aload_n B 4 dL_law_2783 rfl rfl ?_
  replace h := bnP_s h
  obtain ⟨x11, h12, h⟩ := h
  refine g_callVs0 (st := []) B (cX10_thrownc h12) (Nat.le_of_ble_eq_true rfl) rfl rfl mi_X10_thrown lk_RL_183 ⟨Nat.le_of_ble_eq_true rfl, Nat.le_of_ble_eq_true rfl⟩ rfl rfl (Nat.le_of_ble_eq_true rfl) dL_law_2784 (Nat.le_trans (bm hka) hla) (Nat.le_trans (bm hkb) hlb) ?_
  refine g_iload B 1 dL_law_2787 rfl ?_
  refine g_icmp_eq B 2794 dL_law_2789 (by decide) (fun hc => ?_) (fun hc => ?_)
  · replace h := ifp hc h
    refine g_iload B 1 dL_law_2794 rfl ?_
    refine g_if_ne B 2811 dL_law_2796 (by decide) (fun hc => ?_) (fun hc => ?_)
    · replace h := ifn hc h
      refine g_goto B 3319 dL_law_2811 (by decide) ?_
      obtain ⟨w1, w2, w3, w4⟩ := inA h
      clear h
      cases w1
      subst w2
      subst w3
      subst w4
      refine g_cost hka hkb ?_
      exact g_sub [2, 3, 4, 5, 6, 7] rfl kk
    · replace h := ifp hc h
      refine g_aload_n B 5 dL_law_2799 rfl rfl ?_
      refine g_iconst (v := 0) B dL_law_2800 (by decide) ?_
      replace h := bnP_s h
      obtain ⟨x13, h14, h⟩ := h
      refine g_lald B dL_law_2801 h14 ?_
      refine g_iload B 0 dL_law_2802 rfl ?_
      refine g_i2l B dL_law_2804 ?_
      refine g_lcmp B dL_law_2805 ?_
      refine g_if_eq B 2811 dL_law_2806 (by decide) (fun hc => ?_) (fun hc => ?_)
      · replace h := ifp hc h
        refine g_goto B 3319 dL_law_2811 (by decide) ?_
        obtain ⟨w1, w2, w3, w4⟩ := inA h
        clear h
        cases w1
        subst w2
        subst w3
        subst w4
        refine g_cost hka hkb ?_
        exact g_sub [2, 3, 4, 5, 6, 7] rfl kk
      · replace h := ifn hc h
        refine g_iconst (v := 0) B dL_law_2809 (by decide) ?_
        cases h
  · replace h := ifn hc h
    refine g_iconst (v := 0) B dL_law_2792 (by decide) ?_
    cases h
set_option maxRecDepth 100000 in
set_option maxHeartbeats 4000000 in
theorem cL_c43 {Δ : AmbT} {Γ : CtxT} (B : Bd Δ Γ RL cL_law 9 2048 84000 601024 7293034) {Lx : Nat} {xs : Nat → Int32} (hX : Scr Δ Γ Lx xs) (hN : NCs Γ.2.2.2.2.1) {v1 v2 v3 v4 : Option Nat} {v5 : Int32} {σ σ' : HpT} {u : Unit} {a b kc ks A9 B9 : Nat} (h : fL_c43 Lx xs v1 v2 v3 v4 v5 σ = some (.ok u, σ', a, b)) (hka : kc + a = A9) (hkb : ks + b = B9) (hla : A9 ≤ 601024) (hlb : B9 ≤ 7293034) (kk : GW Δ Γ A9 B9 3319 [(0, va_rf (some (BIG + 203))), (1, va_rf v1), (2, va_rf v2), (3, va_rf v3), (4, va_rf v4), (5, .int v5)] [] σ') : GW Δ Γ kc ks 2814 [(0, va_rf (some (BIG + 203))), (1, va_rf v1), (2, va_rf v2), (3, va_rf v3), (4, va_rf v4), (5, .int v5)] [] σ := by
  unfold fL_c43 at h
  refine g_aload_n B 1 dL_law_2814 rfl rfl ?_
  refine g_aload_n B 0 dL_law_2815 rfl rfl ?_
  refine g_iload B 5 dL_law_2816 rfl ?_
  refine g_iconst (v := 1) B dL_law_2818 (by decide) ?_
  refine g_iadd B dL_law_2819 ?_
  replace h := bnP_s h
  obtain ⟨x1, h2, h⟩ := h
  refine g_sld B hX dL_law_2820 h2 ?_
  refine g_aload_n B 0 dL_law_2821 rfl rfl ?_
  refine g_iload B 5 dL_law_2822 rfl ?_
  refine g_iconst (v := 2) B dL_law_2824 (by decide) ?_
  refine g_iadd B dL_law_2825 ?_
  replace h := bnP_s h
  obtain ⟨x3, h4, h⟩ := h
  refine g_sld B hX dL_law_2826 h4 ?_
  refine g_aload_n B 3 dL_law_2827 rfl rfl ?_
  replace h := bnO_s h
  obtain ⟨x5, s7, a8, b9, a10, b11, h6, h, ea, eb⟩ := h
  subst ea; subst eb
  have hka := bk hka
  have hkb := bk hkb
  refine g_callSWs (st := []) B hN (cL_addCopyc (o := .ok x5) h6) miw_L_addCopy lk_RL_318 ⟨Nat.le_of_ble_eq_true rfl, Nat.le_of_ble_eq_true rfl⟩ rfl rfl (Nat.le_of_ble_eq_true rfl) dL_law_2828 (Nat.le_trans (bm hka) hla) (Nat.le_trans (bm hkb) hlb) ?_
  refine g_istore B dL_law_2831 (Nat.le_of_ble_eq_true rfl) (s1_c (f1_k rfl (f1_k rfl (f1_k rfl (f1_k rfl (f1_k rfl (f1_1 rfl rfl f1_n))))))) ?_
  refine g_aload_n B 3 dL_law_2833 rfl rfl ?_
  refine g_aload_n B 1 dL_law_2834 rfl rfl ?_
  refine g_iload B 6 dL_law_2835 rfl ?_
  refine g_iconst (v := 1) B dL_law_2837 (by decide) ?_
  refine g_iadd B dL_law_2838 ?_
  replace h := bnP_s h
  obtain ⟨x12, h13, h⟩ := h
  refine g_sld B hX dL_law_2839 h13 ?_
  refine g_aload_n B 1 dL_law_2840 rfl rfl ?_
  refine g_iload B 6 dL_law_2841 rfl ?_
  refine g_iconst (v := 2) B dL_law_2843 (by decide) ?_
  refine g_iadd B dL_law_2844 ?_
  replace h := bnP_s h
  obtain ⟨x14, h15, h⟩ := h
  refine g_sld B hX dL_law_2845 h15 ?_
  replace h := bnS_s h
  obtain ⟨x16, s18, h17, h⟩ := h
  refine g_callVs0 (st := []) B (cX10_addCopyc h17) (Nat.le_of_ble_eq_true rfl) rfl rfl mi_X10_addCopy lk_RL_320 ⟨Nat.le_of_ble_eq_true rfl, Nat.le_of_ble_eq_true rfl⟩ rfl rfl (Nat.le_of_ble_eq_true rfl) dL_law_2846 (Nat.le_trans (bm hka) hla) (Nat.le_trans (bm hkb) hlb) ?_
  refine g_istore B dL_law_2849 (Nat.le_of_ble_eq_true rfl) (s1_c (f1_1 rfl rfl (f1_k rfl (f1_k rfl (f1_k rfl (f1_k rfl (f1_k rfl (f1_k rfl f1_n)))))))) ?_
  refine g_aload_n B 4 dL_law_2851 rfl rfl ?_
  replace h := bnP_s h
  obtain ⟨x19, h20, h⟩ := h
  refine g_callVs0 (st := []) B (cX10_thrownc h20) (Nat.le_of_ble_eq_true rfl) rfl rfl mi_X10_thrown lk_RL_183 ⟨Nat.le_of_ble_eq_true rfl, Nat.le_of_ble_eq_true rfl⟩ rfl rfl (Nat.le_of_ble_eq_true rfl) dL_law_2852 (Nat.le_trans (bm hka) hla) (Nat.le_trans (bm hkb) hlb) ?_
  refine g_iload B 1 dL_law_2855 rfl ?_
  refine g_icmp_eq B 2862 dL_law_2857 (by decide) (fun hc => ?_) (fun hc => ?_)
  · replace h := ifp hc h
    refine g_iload B 1 dL_law_2862 rfl ?_
    refine g_if_ne B 2879 dL_law_2864 (by decide) (fun hc => ?_) (fun hc => ?_)
    · replace h := ifn hc h
      refine g_goto B 3319 dL_law_2879 (by decide) ?_
      obtain ⟨w1, w2, w3, w4⟩ := inA h
      clear h
      cases w1
      subst w2
      subst w3
      subst w4
      refine g_cost hka hkb ?_
      exact g_sub [2, 3, 4, 5, 6, 7] rfl kk
    · replace h := ifp hc h
      refine g_aload_n B 5 dL_law_2867 rfl rfl ?_
      refine g_iconst (v := 0) B dL_law_2868 (by decide) ?_
      replace h := bnP_s h
      obtain ⟨x21, h22, h⟩ := h
      refine g_lald B dL_law_2869 h22 ?_
      refine g_iload B 0 dL_law_2870 rfl ?_
      refine g_i2l B dL_law_2872 ?_
      refine g_lcmp B dL_law_2873 ?_
      refine g_if_eq B 2879 dL_law_2874 (by decide) (fun hc => ?_) (fun hc => ?_)
      · replace h := ifp hc h
        refine g_goto B 3319 dL_law_2879 (by decide) ?_
        obtain ⟨w1, w2, w3, w4⟩ := inA h
        clear h
        cases w1
        subst w2
        subst w3
        subst w4
        refine g_cost hka hkb ?_
        exact g_sub [2, 3, 4, 5, 6, 7] rfl kk
      · replace h := ifn hc h
        refine g_iconst (v := 0) B dL_law_2877 (by decide) ?_
        cases h
  · replace h := ifn hc h
    refine g_iconst (v := 0) B dL_law_2860 (by decide) ?_
    cases h
set_option maxRecDepth 100000 in
set_option maxHeartbeats 4000000 in
theorem cL_c44 {Δ : AmbT} {Γ : CtxT} (B : Bd Δ Γ RL cL_law 9 2048 84000 601024 7293034) {Lx : Nat} {xs : Nat → Int32} (hX : Scr Δ Γ Lx xs) (hN : NCs Γ.2.2.2.2.1) {v1 v2 v3 v4 : Option Nat} {v5 : Int32} {σ σ' : HpT} {u : Unit} {a b kc ks A9 B9 : Nat} (h : fL_c44 Lx xs v1 v2 v3 v4 v5 σ = some (.ok u, σ', a, b)) (hka : kc + a = A9) (hkb : ks + b = B9) (hla : A9 ≤ 601024) (hlb : B9 ≤ 7293034) (kk : GW Δ Γ A9 B9 3319 [(0, va_rf (some (BIG + 203))), (1, va_rf v1), (2, va_rf v2), (3, va_rf v3), (4, va_rf v4), (5, .int v5)] [] σ') : GW Δ Γ kc ks 2882 [(0, va_rf (some (BIG + 203))), (1, va_rf v1), (2, va_rf v2), (3, va_rf v3), (4, va_rf v4), (5, .int v5)] [] σ := by
  unfold fL_c44 at h
  refine g_aload_n B 1 dL_law_2882 rfl rfl ?_
  refine g_aload_n B 0 dL_law_2883 rfl rfl ?_
  refine g_iload B 5 dL_law_2884 rfl ?_
  refine g_iconst (v := 1) B dL_law_2886 (by decide) ?_
  refine g_iadd B dL_law_2887 ?_
  replace h := bnP_s h
  obtain ⟨x1, h2, h⟩ := h
  refine g_sld B hX dL_law_2888 h2 ?_
  refine g_aload_n B 3 dL_law_2889 rfl rfl ?_
  replace h := bnO_s h
  obtain ⟨x3, s5, a6, b7, a8, b9, h4, h, ea, eb⟩ := h
  subst ea; subst eb
  have hka := bk hka
  have hkb := bk hkb
  refine g_callSWs (st := []) B hN (cL_burnc (o := .ok x3) h4) miw_L_burn lk_RL_321 ⟨Nat.le_of_ble_eq_true rfl, Nat.le_of_ble_eq_true rfl⟩ rfl rfl (Nat.le_of_ble_eq_true rfl) dL_law_2890 (Nat.le_trans (bm hka) hla) (Nat.le_trans (bm hkb) hlb) ?_
  refine g_istore B dL_law_2893 (Nat.le_of_ble_eq_true rfl) (s1_c (f1_k rfl (f1_k rfl (f1_k rfl (f1_k rfl (f1_k rfl (f1_1 rfl rfl f1_n))))))) ?_
  refine g_aload_n B 3 dL_law_2895 rfl rfl ?_
  refine g_aload_n B 1 dL_law_2896 rfl rfl ?_
  refine g_iload B 6 dL_law_2897 rfl ?_
  refine g_iconst (v := 1) B dL_law_2899 (by decide) ?_
  refine g_iadd B dL_law_2900 ?_
  replace h := bnP_s h
  obtain ⟨x10, h11, h⟩ := h
  refine g_sld B hX dL_law_2901 h11 ?_
  replace h := bnS_s h
  obtain ⟨x12, s14, h13, h⟩ := h
  refine g_callVs0 (st := []) B (cX10_burnc h13) (Nat.le_of_ble_eq_true rfl) rfl rfl mi_X10_burn lk_RL_323 ⟨Nat.le_of_ble_eq_true rfl, Nat.le_of_ble_eq_true rfl⟩ rfl rfl (Nat.le_of_ble_eq_true rfl) dL_law_2902 (Nat.le_trans (bm hka) hla) (Nat.le_trans (bm hkb) hlb) ?_
  refine g_istore B dL_law_2905 (Nat.le_of_ble_eq_true rfl) (s1_c (f1_1 rfl rfl (f1_k rfl (f1_k rfl (f1_k rfl (f1_k rfl (f1_k rfl (f1_k rfl f1_n)))))))) ?_
  refine g_aload_n B 4 dL_law_2907 rfl rfl ?_
  replace h := bnP_s h
  obtain ⟨x15, h16, h⟩ := h
  refine g_callVs0 (st := []) B (cX10_thrownc h16) (Nat.le_of_ble_eq_true rfl) rfl rfl mi_X10_thrown lk_RL_183 ⟨Nat.le_of_ble_eq_true rfl, Nat.le_of_ble_eq_true rfl⟩ rfl rfl (Nat.le_of_ble_eq_true rfl) dL_law_2908 (Nat.le_trans (bm hka) hla) (Nat.le_trans (bm hkb) hlb) ?_
  refine g_iload B 1 dL_law_2911 rfl ?_
  refine g_icmp_eq B 2918 dL_law_2913 (by decide) (fun hc => ?_) (fun hc => ?_)
  · replace h := ifp hc h
    refine g_iload B 1 dL_law_2918 rfl ?_
    refine g_if_ne B 2935 dL_law_2920 (by decide) (fun hc => ?_) (fun hc => ?_)
    · replace h := ifn hc h
      refine g_goto B 3319 dL_law_2935 (by decide) ?_
      obtain ⟨w1, w2, w3, w4⟩ := inA h
      clear h
      cases w1
      subst w2
      subst w3
      subst w4
      refine g_cost hka hkb ?_
      exact g_sub [2, 3, 4, 5, 6, 7] rfl kk
    · replace h := ifp hc h
      refine g_aload_n B 5 dL_law_2923 rfl rfl ?_
      refine g_iconst (v := 0) B dL_law_2924 (by decide) ?_
      replace h := bnP_s h
      obtain ⟨x17, h18, h⟩ := h
      refine g_lald B dL_law_2925 h18 ?_
      refine g_iload B 0 dL_law_2926 rfl ?_
      refine g_i2l B dL_law_2928 ?_
      refine g_lcmp B dL_law_2929 ?_
      refine g_if_eq B 2935 dL_law_2930 (by decide) (fun hc => ?_) (fun hc => ?_)
      · replace h := ifp hc h
        refine g_goto B 3319 dL_law_2935 (by decide) ?_
        obtain ⟨w1, w2, w3, w4⟩ := inA h
        clear h
        cases w1
        subst w2
        subst w3
        subst w4
        refine g_cost hka hkb ?_
        exact g_sub [2, 3, 4, 5, 6, 7] rfl kk
      · replace h := ifn hc h
        refine g_iconst (v := 0) B dL_law_2933 (by decide) ?_
        cases h
  · replace h := ifn hc h
    refine g_iconst (v := 0) B dL_law_2916 (by decide) ?_
    cases h
set_option maxRecDepth 100000 in
set_option maxHeartbeats 4000000 in
theorem cL_c45 {Δ : AmbT} {Γ : CtxT} (B : Bd Δ Γ RL cL_law 9 2048 84000 601024 7293034) {Lx : Nat} {xs : Nat → Int32} (hX : Scr Δ Γ Lx xs) (hN : NCs Γ.2.2.2.2.1) {v1 v2 v3 v4 : Option Nat} {v5 : Int32} {σ σ' : HpT} {u : Unit} {a b kc ks A9 B9 : Nat} (h : fL_c45 Lx xs v1 v2 v3 v4 v5 σ = some (.ok u, σ', a, b)) (hka : kc + a = A9) (hkb : ks + b = B9) (hla : A9 ≤ 601024) (hlb : B9 ≤ 7293034) (kk : GW Δ Γ A9 B9 3319 [(0, va_rf (some (BIG + 203))), (1, va_rf v1), (2, va_rf v2), (3, va_rf v3), (4, va_rf v4), (5, .int v5)] [] σ') : GW Δ Γ kc ks 2938 [(0, va_rf (some (BIG + 203))), (1, va_rf v1), (2, va_rf v2), (3, va_rf v3), (4, va_rf v4), (5, .int v5)] [] σ := by
  unfold fL_c45 at h
  refine g_aload_n B 1 dL_law_2938 rfl rfl ?_
  refine g_aload_n B 0 dL_law_2939 rfl rfl ?_
  refine g_iload B 5 dL_law_2940 rfl ?_
  refine g_iconst (v := 1) B dL_law_2942 (by decide) ?_
  refine g_iadd B dL_law_2943 ?_
  replace h := bnP_s h
  obtain ⟨x1, h2, h⟩ := h
  refine g_sld B hX dL_law_2944 h2 ?_
  refine g_aload_n B 3 dL_law_2945 rfl rfl ?_
  replace h := bnO_s h
  obtain ⟨x3, s5, a6, b7, a8, b9, h4, h, ea, eb⟩ := h
  subst ea; subst eb
  have hka := bk hka
  have hkb := bk hkb
  refine g_callSWs (st := []) B hN (cL_losec (o := .ok x3) h4) miw_L_lose lk_RL_324 ⟨Nat.le_of_ble_eq_true rfl, Nat.le_of_ble_eq_true rfl⟩ rfl rfl (Nat.le_of_ble_eq_true rfl) dL_law_2946 (Nat.le_trans (bm hka) hla) (Nat.le_trans (bm hkb) hlb) ?_
  refine g_istore B dL_law_2949 (Nat.le_of_ble_eq_true rfl) (s1_c (f1_k rfl (f1_k rfl (f1_k rfl (f1_k rfl (f1_k rfl (f1_1 rfl rfl f1_n))))))) ?_
  refine g_aload_n B 3 dL_law_2951 rfl rfl ?_
  refine g_aload_n B 1 dL_law_2952 rfl rfl ?_
  refine g_iload B 6 dL_law_2953 rfl ?_
  refine g_iconst (v := 1) B dL_law_2955 (by decide) ?_
  refine g_iadd B dL_law_2956 ?_
  replace h := bnP_s h
  obtain ⟨x10, h11, h⟩ := h
  refine g_sld B hX dL_law_2957 h11 ?_
  replace h := bnS_s h
  obtain ⟨x12, s14, h13, h⟩ := h
  refine g_callVs0 (st := []) B (cX10_losec h13) (Nat.le_of_ble_eq_true rfl) rfl rfl mi_X10_lose lk_RL_326 ⟨Nat.le_of_ble_eq_true rfl, Nat.le_of_ble_eq_true rfl⟩ rfl rfl (Nat.le_of_ble_eq_true rfl) dL_law_2958 (Nat.le_trans (bm hka) hla) (Nat.le_trans (bm hkb) hlb) ?_
  refine g_istore B dL_law_2961 (Nat.le_of_ble_eq_true rfl) (s1_c (f1_1 rfl rfl (f1_k rfl (f1_k rfl (f1_k rfl (f1_k rfl (f1_k rfl (f1_k rfl f1_n)))))))) ?_
  refine g_aload_n B 4 dL_law_2963 rfl rfl ?_
  replace h := bnP_s h
  obtain ⟨x15, h16, h⟩ := h
  refine g_callVs0 (st := []) B (cX10_thrownc h16) (Nat.le_of_ble_eq_true rfl) rfl rfl mi_X10_thrown lk_RL_183 ⟨Nat.le_of_ble_eq_true rfl, Nat.le_of_ble_eq_true rfl⟩ rfl rfl (Nat.le_of_ble_eq_true rfl) dL_law_2964 (Nat.le_trans (bm hka) hla) (Nat.le_trans (bm hkb) hlb) ?_
  refine g_iload B 1 dL_law_2967 rfl ?_
  refine g_icmp_eq B 2974 dL_law_2969 (by decide) (fun hc => ?_) (fun hc => ?_)
  · replace h := ifp hc h
    refine g_iload B 1 dL_law_2974 rfl ?_
    refine g_if_ne B 2991 dL_law_2976 (by decide) (fun hc => ?_) (fun hc => ?_)
    · replace h := ifn hc h
      refine g_goto B 3319 dL_law_2991 (by decide) ?_
      obtain ⟨w1, w2, w3, w4⟩ := inA h
      clear h
      cases w1
      subst w2
      subst w3
      subst w4
      refine g_cost hka hkb ?_
      exact g_sub [2, 3, 4, 5, 6, 7] rfl kk
    · replace h := ifp hc h
      refine g_aload_n B 5 dL_law_2979 rfl rfl ?_
      refine g_iconst (v := 0) B dL_law_2980 (by decide) ?_
      replace h := bnP_s h
      obtain ⟨x17, h18, h⟩ := h
      refine g_lald B dL_law_2981 h18 ?_
      refine g_iload B 0 dL_law_2982 rfl ?_
      refine g_i2l B dL_law_2984 ?_
      refine g_lcmp B dL_law_2985 ?_
      refine g_if_eq B 2991 dL_law_2986 (by decide) (fun hc => ?_) (fun hc => ?_)
      · replace h := ifp hc h
        refine g_goto B 3319 dL_law_2991 (by decide) ?_
        obtain ⟨w1, w2, w3, w4⟩ := inA h
        clear h
        cases w1
        subst w2
        subst w3
        subst w4
        refine g_cost hka hkb ?_
        exact g_sub [2, 3, 4, 5, 6, 7] rfl kk
      · replace h := ifn hc h
        refine g_iconst (v := 0) B dL_law_2989 (by decide) ?_
        cases h
  · replace h := ifn hc h
    refine g_iconst (v := 0) B dL_law_2972 (by decide) ?_
    cases h
set_option maxRecDepth 100000 in
set_option maxHeartbeats 4000000 in
theorem cL_c46 {Δ : AmbT} {Γ : CtxT} (B : Bd Δ Γ RL cL_law 9 2048 84000 601024 7293034) {Lx : Nat} {xs : Nat → Int32} (hX : Scr Δ Γ Lx xs) (hN : NCs Γ.2.2.2.2.1) {v1 v2 v3 v4 : Option Nat} {v5 : Int32} {σ σ' : HpT} {u : Unit} {a b kc ks A9 B9 : Nat} (h : fL_c46 Lx xs v1 v2 v3 v4 v5 σ = some (.ok u, σ', a, b)) (hka : kc + a = A9) (hkb : ks + b = B9) (hla : A9 ≤ 601024) (hlb : B9 ≤ 7293034) (kk : GW Δ Γ A9 B9 3319 [(0, va_rf (some (BIG + 203))), (1, va_rf v1), (2, va_rf v2), (3, va_rf v3), (4, va_rf v4), (5, .int v5)] [] σ') : GW Δ Γ kc ks 2994 [(0, va_rf (some (BIG + 203))), (1, va_rf v1), (2, va_rf v2), (3, va_rf v3), (4, va_rf v4), (5, .int v5)] [] σ := by
  unfold fL_c46 at h
  refine g_aload_n B 1 dL_law_2994 rfl rfl ?_
  refine g_aload_n B 0 dL_law_2995 rfl rfl ?_
  refine g_iload B 5 dL_law_2996 rfl ?_
  refine g_iconst (v := 1) B dL_law_2998 (by decide) ?_
  refine g_iadd B dL_law_2999 ?_
  replace h := bnP_s h
  obtain ⟨x1, h2, h⟩ := h
  refine g_sld B hX dL_law_3000 h2 ?_
  refine g_aload_n B 3 dL_law_3001 rfl rfl ?_
  replace h := bnO_s h
  obtain ⟨x3, s5, a6, b7, a8, b9, h4, h, ea, eb⟩ := h
  subst ea; subst eb
  have hka := bk hka
  have hkb := bk hkb
  refine g_callSWs (st := []) B hN (cL_recoverc (o := .ok x3) h4) miw_L_recover lk_RL_327 ⟨Nat.le_of_ble_eq_true rfl, Nat.le_of_ble_eq_true rfl⟩ rfl rfl (Nat.le_of_ble_eq_true rfl) dL_law_3002 (Nat.le_trans (bm hka) hla) (Nat.le_trans (bm hkb) hlb) ?_
  refine g_istore B dL_law_3005 (Nat.le_of_ble_eq_true rfl) (s1_c (f1_k rfl (f1_k rfl (f1_k rfl (f1_k rfl (f1_k rfl (f1_1 rfl rfl f1_n))))))) ?_
  refine g_aload_n B 3 dL_law_3007 rfl rfl ?_
  refine g_aload_n B 1 dL_law_3008 rfl rfl ?_
  refine g_iload B 6 dL_law_3009 rfl ?_
  refine g_iconst (v := 1) B dL_law_3011 (by decide) ?_
  refine g_iadd B dL_law_3012 ?_
  replace h := bnP_s h
  obtain ⟨x10, h11, h⟩ := h
  refine g_sld B hX dL_law_3013 h11 ?_
  replace h := bnS_s h
  obtain ⟨x12, s14, h13, h⟩ := h
  refine g_callVs0 (st := []) B (cX10_recoverc h13) (Nat.le_of_ble_eq_true rfl) rfl rfl mi_X10_recover lk_RL_329 ⟨Nat.le_of_ble_eq_true rfl, Nat.le_of_ble_eq_true rfl⟩ rfl rfl (Nat.le_of_ble_eq_true rfl) dL_law_3014 (Nat.le_trans (bm hka) hla) (Nat.le_trans (bm hkb) hlb) ?_
  refine g_istore B dL_law_3017 (Nat.le_of_ble_eq_true rfl) (s1_c (f1_1 rfl rfl (f1_k rfl (f1_k rfl (f1_k rfl (f1_k rfl (f1_k rfl (f1_k rfl f1_n)))))))) ?_
  refine g_aload_n B 4 dL_law_3019 rfl rfl ?_
  replace h := bnP_s h
  obtain ⟨x15, h16, h⟩ := h
  refine g_callVs0 (st := []) B (cX10_thrownc h16) (Nat.le_of_ble_eq_true rfl) rfl rfl mi_X10_thrown lk_RL_183 ⟨Nat.le_of_ble_eq_true rfl, Nat.le_of_ble_eq_true rfl⟩ rfl rfl (Nat.le_of_ble_eq_true rfl) dL_law_3020 (Nat.le_trans (bm hka) hla) (Nat.le_trans (bm hkb) hlb) ?_
  refine g_iload B 1 dL_law_3023 rfl ?_
  refine g_icmp_eq B 3030 dL_law_3025 (by decide) (fun hc => ?_) (fun hc => ?_)
  · replace h := ifp hc h
    refine g_iload B 1 dL_law_3030 rfl ?_
    refine g_if_ne B 3047 dL_law_3032 (by decide) (fun hc => ?_) (fun hc => ?_)
    · replace h := ifn hc h
      refine g_goto B 3319 dL_law_3047 (by decide) ?_
      obtain ⟨w1, w2, w3, w4⟩ := inA h
      clear h
      cases w1
      subst w2
      subst w3
      subst w4
      refine g_cost hka hkb ?_
      exact g_sub [2, 3, 4, 5, 6, 7] rfl kk
    · replace h := ifp hc h
      refine g_aload_n B 5 dL_law_3035 rfl rfl ?_
      refine g_iconst (v := 0) B dL_law_3036 (by decide) ?_
      replace h := bnP_s h
      obtain ⟨x17, h18, h⟩ := h
      refine g_lald B dL_law_3037 h18 ?_
      refine g_iload B 0 dL_law_3038 rfl ?_
      refine g_i2l B dL_law_3040 ?_
      refine g_lcmp B dL_law_3041 ?_
      refine g_if_eq B 3047 dL_law_3042 (by decide) (fun hc => ?_) (fun hc => ?_)
      · replace h := ifp hc h
        refine g_goto B 3319 dL_law_3047 (by decide) ?_
        obtain ⟨w1, w2, w3, w4⟩ := inA h
        clear h
        cases w1
        subst w2
        subst w3
        subst w4
        refine g_cost hka hkb ?_
        exact g_sub [2, 3, 4, 5, 6, 7] rfl kk
      · replace h := ifn hc h
        refine g_iconst (v := 0) B dL_law_3045 (by decide) ?_
        cases h
  · replace h := ifn hc h
    refine g_iconst (v := 0) B dL_law_3028 (by decide) ?_
    cases h
set_option maxRecDepth 100000 in
set_option maxHeartbeats 4000000 in
theorem cL_c47 {Δ : AmbT} {Γ : CtxT} (B : Bd Δ Γ RL cL_law 9 2048 84000 601024 7293034) {Lx : Nat} {xs : Nat → Int32} (hX : Scr Δ Γ Lx xs) (hN : NCs Γ.2.2.2.2.1) {v1 v2 v3 v4 : Option Nat} {v5 : Int32} {σ σ' : HpT} {u : Unit} {a b kc ks A9 B9 : Nat} (h : fL_c47 Lx xs v1 v2 v3 v4 v5 σ = some (.ok u, σ', a, b)) (hka : kc + a = A9) (hkb : ks + b = B9) (hla : A9 ≤ 601024) (hlb : B9 ≤ 7293034) (kk : GW Δ Γ A9 B9 3319 [(0, va_rf (some (BIG + 203))), (1, va_rf v1), (2, va_rf v2), (3, va_rf v3), (4, va_rf v4), (5, .int v5)] [] σ') : GW Δ Γ kc ks 3050 [(0, va_rf (some (BIG + 203))), (1, va_rf v1), (2, va_rf v2), (3, va_rf v3), (4, va_rf v4), (5, .int v5)] [] σ := by
  unfold fL_c47 at h
  refine g_aload_n B 1 dL_law_3050 rfl rfl ?_
  refine g_aload_n B 0 dL_law_3051 rfl rfl ?_
  refine g_iload B 5 dL_law_3052 rfl ?_
  refine g_iconst (v := 1) B dL_law_3054 (by decide) ?_
  refine g_iadd B dL_law_3055 ?_
  replace h := bnP_s h
  obtain ⟨x1, h2, h⟩ := h
  refine g_sld B hX dL_law_3056 h2 ?_
  refine g_aload_n B 3 dL_law_3057 rfl rfl ?_
  replace h := bnO_s h
  obtain ⟨x3, s5, a6, b7, a8, b9, h4, h, ea, eb⟩ := h
  subst ea; subst eb
  have hka := bk hka
  have hkb := bk hkb
  refine g_callSWs (st := []) B hN (cL_sewc (o := .ok x3) h4) miw_L_sew lk_RL_330 ⟨Nat.le_of_ble_eq_true rfl, Nat.le_of_ble_eq_true rfl⟩ rfl rfl (Nat.le_of_ble_eq_true rfl) dL_law_3058 (Nat.le_trans (bm hka) hla) (Nat.le_trans (bm hkb) hlb) ?_
  refine g_istore B dL_law_3061 (Nat.le_of_ble_eq_true rfl) (s1_c (f1_k rfl (f1_k rfl (f1_k rfl (f1_k rfl (f1_k rfl (f1_1 rfl rfl f1_n))))))) ?_
  refine g_aload_n B 3 dL_law_3063 rfl rfl ?_
  refine g_aload_n B 1 dL_law_3064 rfl rfl ?_
  refine g_iload B 6 dL_law_3065 rfl ?_
  refine g_iconst (v := 1) B dL_law_3067 (by decide) ?_
  refine g_iadd B dL_law_3068 ?_
  replace h := bnP_s h
  obtain ⟨x10, h11, h⟩ := h
  refine g_sld B hX dL_law_3069 h11 ?_
  replace h := bnS_s h
  obtain ⟨x12, s14, h13, h⟩ := h
  refine g_callVs0 (st := []) B (cX10_sewc h13) (Nat.le_of_ble_eq_true rfl) rfl rfl mi_X10_sew lk_RL_332 ⟨Nat.le_of_ble_eq_true rfl, Nat.le_of_ble_eq_true rfl⟩ rfl rfl (Nat.le_of_ble_eq_true rfl) dL_law_3070 (Nat.le_trans (bm hka) hla) (Nat.le_trans (bm hkb) hlb) ?_
  refine g_istore B dL_law_3073 (Nat.le_of_ble_eq_true rfl) (s1_c (f1_1 rfl rfl (f1_k rfl (f1_k rfl (f1_k rfl (f1_k rfl (f1_k rfl (f1_k rfl f1_n)))))))) ?_
  refine g_aload_n B 4 dL_law_3075 rfl rfl ?_
  replace h := bnP_s h
  obtain ⟨x15, h16, h⟩ := h
  refine g_callVs0 (st := []) B (cX10_thrownc h16) (Nat.le_of_ble_eq_true rfl) rfl rfl mi_X10_thrown lk_RL_183 ⟨Nat.le_of_ble_eq_true rfl, Nat.le_of_ble_eq_true rfl⟩ rfl rfl (Nat.le_of_ble_eq_true rfl) dL_law_3076 (Nat.le_trans (bm hka) hla) (Nat.le_trans (bm hkb) hlb) ?_
  refine g_iload B 1 dL_law_3079 rfl ?_
  refine g_icmp_eq B 3086 dL_law_3081 (by decide) (fun hc => ?_) (fun hc => ?_)
  · replace h := ifp hc h
    refine g_iload B 1 dL_law_3086 rfl ?_
    refine g_if_ne B 3103 dL_law_3088 (by decide) (fun hc => ?_) (fun hc => ?_)
    · replace h := ifn hc h
      refine g_goto B 3319 dL_law_3103 (by decide) ?_
      obtain ⟨w1, w2, w3, w4⟩ := inA h
      clear h
      cases w1
      subst w2
      subst w3
      subst w4
      refine g_cost hka hkb ?_
      exact g_sub [2, 3, 4, 5, 6, 7] rfl kk
    · replace h := ifp hc h
      refine g_aload_n B 5 dL_law_3091 rfl rfl ?_
      refine g_iconst (v := 0) B dL_law_3092 (by decide) ?_
      replace h := bnP_s h
      obtain ⟨x17, h18, h⟩ := h
      refine g_lald B dL_law_3093 h18 ?_
      refine g_iload B 0 dL_law_3094 rfl ?_
      refine g_i2l B dL_law_3096 ?_
      refine g_lcmp B dL_law_3097 ?_
      refine g_if_eq B 3103 dL_law_3098 (by decide) (fun hc => ?_) (fun hc => ?_)
      · replace h := ifp hc h
        refine g_goto B 3319 dL_law_3103 (by decide) ?_
        obtain ⟨w1, w2, w3, w4⟩ := inA h
        clear h
        cases w1
        subst w2
        subst w3
        subst w4
        refine g_cost hka hkb ?_
        exact g_sub [2, 3, 4, 5, 6, 7] rfl kk
      · replace h := ifn hc h
        refine g_iconst (v := 0) B dL_law_3101 (by decide) ?_
        cases h
  · replace h := ifn hc h
    refine g_iconst (v := 0) B dL_law_3084 (by decide) ?_
    cases h
set_option maxRecDepth 100000 in
set_option maxHeartbeats 4000000 in
theorem cL_c48 {Δ : AmbT} {Γ : CtxT} (B : Bd Δ Γ RL cL_law 9 2048 84000 601024 7293034) {Lx : Nat} {xs : Nat → Int32} (hX : Scr Δ Γ Lx xs) (hN : NCs Γ.2.2.2.2.1) {v1 v2 v3 v4 : Option Nat} {v5 : Int32} {σ σ' : HpT} {u : Unit} {a b kc ks A9 B9 : Nat} (h : fL_c48 Lx xs v1 v2 v3 v4 v5 σ = some (.ok u, σ', a, b)) (hka : kc + a = A9) (hkb : ks + b = B9) (hla : A9 ≤ 601024) (hlb : B9 ≤ 7293034) (kk : GW Δ Γ A9 B9 3319 [(0, va_rf (some (BIG + 203))), (1, va_rf v1), (2, va_rf v2), (3, va_rf v3), (4, va_rf v4), (5, .int v5)] [] σ') : GW Δ Γ kc ks 3106 [(0, va_rf (some (BIG + 203))), (1, va_rf v1), (2, va_rf v2), (3, va_rf v3), (4, va_rf v4), (5, .int v5)] [] σ := by
  unfold fL_c48 at h
  refine g_aload_n B 1 dL_law_3106 rfl rfl ?_
  refine g_aload_n B 3 dL_law_3107 rfl rfl ?_
  replace h := bnO_s h
  obtain ⟨x1, s3, a4, b5, a6, b7, h2, h, ea, eb⟩ := h
  subst ea; subst eb
  have hka := bk hka
  have hkb := bk hkb
  refine g_callSWs (st := []) B hN (cL_shakec (o := .ok x1) h2) miw_L_shake lk_RL_333 ⟨Nat.le_of_ble_eq_true rfl, Nat.le_of_ble_eq_true rfl⟩ rfl rfl (Nat.le_of_ble_eq_true rfl) dL_law_3108 (Nat.le_trans (bm hka) hla) (Nat.le_trans (bm hkb) hlb) ?_
  refine g_istore B dL_law_3111 (Nat.le_of_ble_eq_true rfl) (s1_c (f1_k rfl (f1_k rfl (f1_k rfl (f1_k rfl (f1_k rfl (f1_1 rfl rfl f1_n))))))) ?_
  refine g_aload_n B 3 dL_law_3113 rfl rfl ?_
  replace h := bnS_s h
  obtain ⟨x8, s10, h9, h⟩ := h
  refine g_callVs0 (st := []) B (cX10_shakec h9) (Nat.le_of_ble_eq_true rfl) rfl rfl mi_X10_shake lk_RL_335 ⟨Nat.le_of_ble_eq_true rfl, Nat.le_of_ble_eq_true rfl⟩ rfl rfl (Nat.le_of_ble_eq_true rfl) dL_law_3114 (Nat.le_trans (bm hka) hla) (Nat.le_trans (bm hkb) hlb) ?_
  refine g_istore B dL_law_3117 (Nat.le_of_ble_eq_true rfl) (s1_c (f1_1 rfl rfl (f1_k rfl (f1_k rfl (f1_k rfl (f1_k rfl (f1_k rfl (f1_k rfl f1_n)))))))) ?_
  refine g_aload_n B 4 dL_law_3119 rfl rfl ?_
  replace h := bnP_s h
  obtain ⟨x11, h12, h⟩ := h
  refine g_callVs0 (st := []) B (cX10_thrownc h12) (Nat.le_of_ble_eq_true rfl) rfl rfl mi_X10_thrown lk_RL_183 ⟨Nat.le_of_ble_eq_true rfl, Nat.le_of_ble_eq_true rfl⟩ rfl rfl (Nat.le_of_ble_eq_true rfl) dL_law_3120 (Nat.le_trans (bm hka) hla) (Nat.le_trans (bm hkb) hlb) ?_
  refine g_iload B 1 dL_law_3123 rfl ?_
  refine g_icmp_eq B 3130 dL_law_3125 (by decide) (fun hc => ?_) (fun hc => ?_)
  · replace h := ifp hc h
    refine g_iload B 1 dL_law_3130 rfl ?_
    refine g_if_ne B 3147 dL_law_3132 (by decide) (fun hc => ?_) (fun hc => ?_)
    · replace h := ifn hc h
      refine g_goto B 3319 dL_law_3147 (by decide) ?_
      obtain ⟨w1, w2, w3, w4⟩ := inA h
      clear h
      cases w1
      subst w2
      subst w3
      subst w4
      refine g_cost hka hkb ?_
      exact g_sub [2, 3, 4, 5, 6, 7] rfl kk
    · replace h := ifp hc h
      refine g_aload_n B 5 dL_law_3135 rfl rfl ?_
      refine g_iconst (v := 0) B dL_law_3136 (by decide) ?_
      replace h := bnP_s h
      obtain ⟨x13, h14, h⟩ := h
      refine g_lald B dL_law_3137 h14 ?_
      refine g_iload B 0 dL_law_3138 rfl ?_
      refine g_i2l B dL_law_3140 ?_
      refine g_lcmp B dL_law_3141 ?_
      refine g_if_eq B 3147 dL_law_3142 (by decide) (fun hc => ?_) (fun hc => ?_)
      · replace h := ifp hc h
        refine g_goto B 3319 dL_law_3147 (by decide) ?_
        obtain ⟨w1, w2, w3, w4⟩ := inA h
        clear h
        cases w1
        subst w2
        subst w3
        subst w4
        refine g_cost hka hkb ?_
        exact g_sub [2, 3, 4, 5, 6, 7] rfl kk
      · replace h := ifn hc h
        refine g_iconst (v := 0) B dL_law_3145 (by decide) ?_
        cases h
  · replace h := ifn hc h
    refine g_iconst (v := 0) B dL_law_3128 (by decide) ?_
    cases h
set_option maxRecDepth 100000 in
set_option maxHeartbeats 4000000 in
theorem cL_c49 {Δ : AmbT} {Γ : CtxT} (B : Bd Δ Γ RL cL_law 9 2048 84000 601024 7293034) {Lx : Nat} {xs : Nat → Int32} (hX : Scr Δ Γ Lx xs) (hN : NCs Γ.2.2.2.2.1) {v1 v2 v3 v4 : Option Nat} {v5 : Int32} {σ σ' : HpT} {u : Unit} {a b kc ks A9 B9 : Nat} (h : fL_c49 Lx xs v1 v2 v3 v4 v5 σ = some (.ok u, σ', a, b)) (hka : kc + a = A9) (hkb : ks + b = B9) (hla : A9 ≤ 601024) (hlb : B9 ≤ 7293034) (kk : GW Δ Γ A9 B9 3319 [(0, va_rf (some (BIG + 203))), (1, va_rf v1), (2, va_rf v2), (3, va_rf v3), (4, va_rf v4), (5, .int v5)] [] σ') : GW Δ Γ kc ks 3150 [(0, va_rf (some (BIG + 203))), (1, va_rf v1), (2, va_rf v2), (3, va_rf v3), (4, va_rf v4), (5, .int v5)] [] σ := by
  unfold fL_c49 at h
  refine g_aload_n B 1 dL_law_3150 rfl rfl ?_
  refine g_aload_n B 3 dL_law_3151 rfl rfl ?_
  replace h := bnO_s h
  obtain ⟨x1, s3, a4, b5, a6, b7, h2, h, ea, eb⟩ := h
  subst ea; subst eb
  have hka := bk hka
  have hkb := bk hkb
  refine g_callSWs (st := []) B hN (cL_undoc (o := .ok x1) h2) miw_L_undo lk_RL_336 ⟨Nat.le_of_ble_eq_true rfl, Nat.le_of_ble_eq_true rfl⟩ rfl rfl (Nat.le_of_ble_eq_true rfl) dL_law_3152 (Nat.le_trans (bm hka) hla) (Nat.le_trans (bm hkb) hlb) ?_
  refine g_istore B dL_law_3155 (Nat.le_of_ble_eq_true rfl) (s1_c (f1_k rfl (f1_k rfl (f1_k rfl (f1_k rfl (f1_k rfl (f1_1 rfl rfl f1_n))))))) ?_
  refine g_aload_n B 3 dL_law_3157 rfl rfl ?_
  replace h := bnS_s h
  obtain ⟨x8, s10, h9, h⟩ := h
  refine g_callVs0 (st := []) B (cX10_undoc h9) (Nat.le_of_ble_eq_true rfl) rfl rfl mi_X10_undo lk_RL_338 ⟨Nat.le_of_ble_eq_true rfl, Nat.le_of_ble_eq_true rfl⟩ rfl rfl (Nat.le_of_ble_eq_true rfl) dL_law_3158 (Nat.le_trans (bm hka) hla) (Nat.le_trans (bm hkb) hlb) ?_
  refine g_istore B dL_law_3161 (Nat.le_of_ble_eq_true rfl) (s1_c (f1_1 rfl rfl (f1_k rfl (f1_k rfl (f1_k rfl (f1_k rfl (f1_k rfl (f1_k rfl f1_n)))))))) ?_
  refine g_aload_n B 4 dL_law_3163 rfl rfl ?_
  replace h := bnP_s h
  obtain ⟨x11, h12, h⟩ := h
  refine g_callVs0 (st := []) B (cX10_thrownc h12) (Nat.le_of_ble_eq_true rfl) rfl rfl mi_X10_thrown lk_RL_183 ⟨Nat.le_of_ble_eq_true rfl, Nat.le_of_ble_eq_true rfl⟩ rfl rfl (Nat.le_of_ble_eq_true rfl) dL_law_3164 (Nat.le_trans (bm hka) hla) (Nat.le_trans (bm hkb) hlb) ?_
  refine g_iload B 1 dL_law_3167 rfl ?_
  refine g_icmp_eq B 3174 dL_law_3169 (by decide) (fun hc => ?_) (fun hc => ?_)
  · replace h := ifp hc h
    refine g_iload B 1 dL_law_3174 rfl ?_
    refine g_if_ne B 3191 dL_law_3176 (by decide) (fun hc => ?_) (fun hc => ?_)
    · replace h := ifn hc h
      refine g_goto B 3319 dL_law_3191 (by decide) ?_
      obtain ⟨w1, w2, w3, w4⟩ := inA h
      clear h
      cases w1
      subst w2
      subst w3
      subst w4
      refine g_cost hka hkb ?_
      exact g_sub [2, 3, 4, 5, 6, 7] rfl kk
    · replace h := ifp hc h
      refine g_aload_n B 5 dL_law_3179 rfl rfl ?_
      refine g_iconst (v := 0) B dL_law_3180 (by decide) ?_
      replace h := bnP_s h
      obtain ⟨x13, h14, h⟩ := h
      refine g_lald B dL_law_3181 h14 ?_
      refine g_iload B 0 dL_law_3182 rfl ?_
      refine g_i2l B dL_law_3184 ?_
      refine g_lcmp B dL_law_3185 ?_
      refine g_if_eq B 3191 dL_law_3186 (by decide) (fun hc => ?_) (fun hc => ?_)
      · replace h := ifp hc h
        refine g_goto B 3319 dL_law_3191 (by decide) ?_
        obtain ⟨w1, w2, w3, w4⟩ := inA h
        clear h
        cases w1
        subst w2
        subst w3
        subst w4
        refine g_cost hka hkb ?_
        exact g_sub [2, 3, 4, 5, 6, 7] rfl kk
      · replace h := ifn hc h
        refine g_iconst (v := 0) B dL_law_3189 (by decide) ?_
        cases h
  · replace h := ifn hc h
    refine g_iconst (v := 0) B dL_law_3172 (by decide) ?_
    cases h
set_option maxRecDepth 100000 in
set_option maxHeartbeats 4000000 in
theorem cL_c50 {Δ : AmbT} {Γ : CtxT} (B : Bd Δ Γ RL cL_law 9 2048 84000 601024 7293034) {Lx : Nat} {xs : Nat → Int32} (hX : Scr Δ Γ Lx xs) (hN : NCs Γ.2.2.2.2.1) {v1 v2 v3 v4 : Option Nat} {v5 : Int32} {σ σ' : HpT} {u : Unit} {a b kc ks A9 B9 : Nat} (h : fL_c50 Lx xs v1 v2 v3 v4 v5 σ = some (.ok u, σ', a, b)) (hka : kc + a = A9) (hkb : ks + b = B9) (hla : A9 ≤ 601024) (hlb : B9 ≤ 7293034) (kk : GW Δ Γ A9 B9 3319 [(0, va_rf (some (BIG + 203))), (1, va_rf v1), (2, va_rf v2), (3, va_rf v3), (4, va_rf v4), (5, .int v5)] [] σ') : GW Δ Γ kc ks 3194 [(0, va_rf (some (BIG + 203))), (1, va_rf v1), (2, va_rf v2), (3, va_rf v3), (4, va_rf v4), (5, .int v5)] [] σ := by
  unfold fL_c50 at h
  refine g_aload_n B 1 dL_law_3194 rfl rfl ?_
  replace h := bnP_s h
  obtain ⟨x1, h2, h⟩ := h
  refine g_callVs0 (st := []) B (cX9_undoablec h2) (Nat.le_of_ble_eq_true rfl) rfl rfl mi_X9_undoable lk_RL_339 ⟨Nat.le_of_ble_eq_true rfl, Nat.le_of_ble_eq_true rfl⟩ rfl rfl (Nat.le_of_ble_eq_true rfl) dL_law_3195 (Nat.le_trans (bm hka) hla) (Nat.le_trans (bm hkb) hlb) ?_
  refine g_aload_n B 2 dL_law_3198 rfl rfl ?_
  replace h := bnS_s h
  obtain ⟨x3, s5, h4, h⟩ := h
  refine g_callVs0 (st := [.int x1]) B (cX10_undoablec h4) (Nat.le_of_ble_eq_true rfl) rfl rfl mi_X10_undoable lk_RL_342 ⟨Nat.le_of_ble_eq_true rfl, Nat.le_of_ble_eq_true rfl⟩ rfl rfl (Nat.le_of_ble_eq_true rfl) dL_law_3199 (Nat.le_trans (bm hka) hla) (Nat.le_trans (bm hkb) hlb) ?_
  refine g_icmp_eq B 3319 dL_law_3202 (by decide) (fun hc => ?_) (fun hc => ?_)
  · replace h := ifp hc h
    obtain ⟨w1, w2, w3, w4⟩ := inA h
    clear h
    cases w1
    subst w2
    subst w3
    subst w4
    refine g_cost hka hkb ?_
    exact g_sub [0, 1, 2, 3, 4, 5] rfl kk
  · replace h := ifn hc h
    refine g_iconst (v := 0) B dL_law_3205 (by decide) ?_
    cases h
set_option maxRecDepth 100000 in
set_option maxHeartbeats 4000000 in
theorem cL_c51 {Δ : AmbT} {Γ : CtxT} (B : Bd Δ Γ RL cL_law 9 2048 84000 601024 7293034) {Lx : Nat} {xs : Nat → Int32} (hX : Scr Δ Γ Lx xs) (hN : NCs Γ.2.2.2.2.1) {v1 v2 v3 v4 : Option Nat} {v5 : Int32} {σ σ' : HpT} {u : Unit} {a b kc ks A9 B9 : Nat} (h : fL_c51 Lx xs v1 v2 v3 v4 v5 σ = some (.ok u, σ', a, b)) (hka : kc + a = A9) (hkb : ks + b = B9) (hla : A9 ≤ 601024) (hlb : B9 ≤ 7293034) (kk : GW Δ Γ A9 B9 3319 [(0, va_rf (some (BIG + 203))), (1, va_rf v1), (2, va_rf v2), (3, va_rf v3), (4, va_rf v4), (5, .int v5)] [] σ') : GW Δ Γ kc ks 3207 [(0, va_rf (some (BIG + 203))), (1, va_rf v1), (2, va_rf v2), (3, va_rf v3), (4, va_rf v4), (5, .int v5)] [] σ := by
  unfold fL_c51 at h
  refine g_aload_n B 1 dL_law_3207 rfl rfl ?_
  refine g_aload_n B 0 dL_law_3208 rfl rfl ?_
  refine g_iload B 5 dL_law_3209 rfl ?_
  refine g_iconst (v := 1) B dL_law_3211 (by decide) ?_
  refine g_iadd B dL_law_3212 ?_
  replace h := bnP_s h
  obtain ⟨x1, h2, h⟩ := h
  refine g_sld B hX dL_law_3213 h2 ?_
  refine g_aload_n B 3 dL_law_3214 rfl rfl ?_
  replace h := bnO_s h
  obtain ⟨x3, s5, a6, b7, a8, b9, h4, h, ea, eb⟩ := h
  subst ea; subst eb
  have hka := bk hka
  have hkb := bk hkb
  refine g_callSWs (st := []) B hN (cL_savec (o := .ok x3) h4) miw_L_save lk_RL_343 ⟨Nat.le_of_ble_eq_true rfl, Nat.le_of_ble_eq_true rfl⟩ rfl rfl (Nat.le_of_ble_eq_true rfl) dL_law_3215 (Nat.le_trans (bm hka) hla) (Nat.le_trans (bm hkb) hlb) ?_
  refine g_istore B dL_law_3218 (Nat.le_of_ble_eq_true rfl) (s1_c (f1_k rfl (f1_k rfl (f1_k rfl (f1_k rfl (f1_k rfl (f1_1 rfl rfl f1_n))))))) ?_
  refine g_aload_n B 3 dL_law_3220 rfl rfl ?_
  refine g_aload_n B 1 dL_law_3221 rfl rfl ?_
  refine g_iload B 6 dL_law_3222 rfl ?_
  refine g_iconst (v := 1) B dL_law_3224 (by decide) ?_
  refine g_iadd B dL_law_3225 ?_
  replace h := bnP_s h
  obtain ⟨x10, h11, h⟩ := h
  refine g_sld B hX dL_law_3226 h11 ?_
  replace h := bnS_s h
  obtain ⟨x12, s14, h13, h⟩ := h
  refine g_callVs0 (st := []) B (cX10_savec h13) (Nat.le_of_ble_eq_true rfl) rfl rfl mi_X10_save lk_RL_345 ⟨Nat.le_of_ble_eq_true rfl, Nat.le_of_ble_eq_true rfl⟩ rfl rfl (Nat.le_of_ble_eq_true rfl) dL_law_3227 (Nat.le_trans (bm hka) hla) (Nat.le_trans (bm hkb) hlb) ?_
  refine g_istore B dL_law_3230 (Nat.le_of_ble_eq_true rfl) (s1_c (f1_1 rfl rfl (f1_k rfl (f1_k rfl (f1_k rfl (f1_k rfl (f1_k rfl (f1_k rfl f1_n)))))))) ?_
  refine g_aload_n B 4 dL_law_3232 rfl rfl ?_
  replace h := bnP_s h
  obtain ⟨x15, h16, h⟩ := h
  refine g_callVs0 (st := []) B (cX10_thrownc h16) (Nat.le_of_ble_eq_true rfl) rfl rfl mi_X10_thrown lk_RL_183 ⟨Nat.le_of_ble_eq_true rfl, Nat.le_of_ble_eq_true rfl⟩ rfl rfl (Nat.le_of_ble_eq_true rfl) dL_law_3233 (Nat.le_trans (bm hka) hla) (Nat.le_trans (bm hkb) hlb) ?_
  refine g_iload B 1 dL_law_3236 rfl ?_
  refine g_icmp_eq B 3243 dL_law_3238 (by decide) (fun hc => ?_) (fun hc => ?_)
  · replace h := ifp hc h
    refine g_iload B 1 dL_law_3243 rfl ?_
    refine g_if_ne B 3260 dL_law_3245 (by decide) (fun hc => ?_) (fun hc => ?_)
    · replace h := ifn hc h
      refine g_goto B 3319 dL_law_3260 (by decide) ?_
      obtain ⟨w1, w2, w3, w4⟩ := inA h
      clear h
      cases w1
      subst w2
      subst w3
      subst w4
      refine g_cost hka hkb ?_
      exact g_sub [2, 3, 4, 5, 6, 7] rfl kk
    · replace h := ifp hc h
      refine g_aload_n B 5 dL_law_3248 rfl rfl ?_
      refine g_iconst (v := 0) B dL_law_3249 (by decide) ?_
      replace h := bnP_s h
      obtain ⟨x17, h18, h⟩ := h
      refine g_lald B dL_law_3250 h18 ?_
      refine g_iload B 0 dL_law_3251 rfl ?_
      refine g_i2l B dL_law_3253 ?_
      refine g_lcmp B dL_law_3254 ?_
      refine g_if_eq B 3260 dL_law_3255 (by decide) (fun hc => ?_) (fun hc => ?_)
      · replace h := ifp hc h
        refine g_goto B 3319 dL_law_3260 (by decide) ?_
        obtain ⟨w1, w2, w3, w4⟩ := inA h
        clear h
        cases w1
        subst w2
        subst w3
        subst w4
        refine g_cost hka hkb ?_
        exact g_sub [2, 3, 4, 5, 6, 7] rfl kk
      · replace h := ifn hc h
        refine g_iconst (v := 0) B dL_law_3258 (by decide) ?_
        cases h
  · replace h := ifn hc h
    refine g_iconst (v := 0) B dL_law_3241 (by decide) ?_
    cases h
set_option maxRecDepth 100000 in
set_option maxHeartbeats 4000000 in
theorem cL_c52 {Δ : AmbT} {Γ : CtxT} (B : Bd Δ Γ RL cL_law 9 2048 84000 601024 7293034) {Lx : Nat} {xs : Nat → Int32} (hX : Scr Δ Γ Lx xs) (hN : NCs Γ.2.2.2.2.1) {v1 v2 v3 v4 : Option Nat} {v5 : Int32} {σ σ' : HpT} {u : Unit} {a b kc ks A9 B9 : Nat} (h : fL_c52 Lx xs v1 v2 v3 v4 v5 σ = some (.ok u, σ', a, b)) (hka : kc + a = A9) (hkb : ks + b = B9) (hla : A9 ≤ 601024) (hlb : B9 ≤ 7293034) (kk : GW Δ Γ A9 B9 3319 [(0, va_rf (some (BIG + 203))), (1, va_rf v1), (2, va_rf v2), (3, va_rf v3), (4, va_rf v4), (5, .int v5)] [] σ') : GW Δ Γ kc ks 3263 [(0, va_rf (some (BIG + 203))), (1, va_rf v1), (2, va_rf v2), (3, va_rf v3), (4, va_rf v4), (5, .int v5)] [] σ := by
  unfold fL_c52 at h
  refine g_aload_n B 1 dL_law_3263 rfl rfl ?_
  refine g_aload_n B 0 dL_law_3264 rfl rfl ?_
  refine g_iload B 5 dL_law_3265 rfl ?_
  refine g_iconst (v := 1) B dL_law_3267 (by decide) ?_
  refine g_iadd B dL_law_3268 ?_
  replace h := bnP_s h
  obtain ⟨x1, h2, h⟩ := h
  refine g_sld B hX dL_law_3269 h2 ?_
  refine g_aload_n B 3 dL_law_3270 rfl rfl ?_
  replace h := bnO_s h
  obtain ⟨x3, s5, a6, b7, a8, b9, h4, h, ea, eb⟩ := h
  subst ea; subst eb
  have hka := bk hka
  have hkb := bk hkb
  refine g_callSWs (st := []) B hN (cL_restorec (o := .ok x3) h4) miw_L_restore lk_RL_346 ⟨Nat.le_of_ble_eq_true rfl, Nat.le_of_ble_eq_true rfl⟩ rfl rfl (Nat.le_of_ble_eq_true rfl) dL_law_3271 (Nat.le_trans (bm hka) hla) (Nat.le_trans (bm hkb) hlb) ?_
  refine g_istore B dL_law_3274 (Nat.le_of_ble_eq_true rfl) (s1_c (f1_k rfl (f1_k rfl (f1_k rfl (f1_k rfl (f1_k rfl (f1_1 rfl rfl f1_n))))))) ?_
  refine g_aload_n B 3 dL_law_3276 rfl rfl ?_
  refine g_aload_n B 1 dL_law_3277 rfl rfl ?_
  refine g_iload B 6 dL_law_3278 rfl ?_
  refine g_iconst (v := 1) B dL_law_3280 (by decide) ?_
  refine g_iadd B dL_law_3281 ?_
  replace h := bnP_s h
  obtain ⟨x10, h11, h⟩ := h
  refine g_sld B hX dL_law_3282 h11 ?_
  replace h := bnS_s h
  obtain ⟨x12, s14, h13, h⟩ := h
  refine g_callVs0 (st := []) B (cX10_restorec h13) (Nat.le_of_ble_eq_true rfl) rfl rfl mi_X10_restore lk_RL_348 ⟨Nat.le_of_ble_eq_true rfl, Nat.le_of_ble_eq_true rfl⟩ rfl rfl (Nat.le_of_ble_eq_true rfl) dL_law_3283 (Nat.le_trans (bm hka) hla) (Nat.le_trans (bm hkb) hlb) ?_
  refine g_istore B dL_law_3286 (Nat.le_of_ble_eq_true rfl) (s1_c (f1_1 rfl rfl (f1_k rfl (f1_k rfl (f1_k rfl (f1_k rfl (f1_k rfl (f1_k rfl f1_n)))))))) ?_
  refine g_aload_n B 4 dL_law_3288 rfl rfl ?_
  replace h := bnP_s h
  obtain ⟨x15, h16, h⟩ := h
  refine g_callVs0 (st := []) B (cX10_thrownc h16) (Nat.le_of_ble_eq_true rfl) rfl rfl mi_X10_thrown lk_RL_183 ⟨Nat.le_of_ble_eq_true rfl, Nat.le_of_ble_eq_true rfl⟩ rfl rfl (Nat.le_of_ble_eq_true rfl) dL_law_3289 (Nat.le_trans (bm hka) hla) (Nat.le_trans (bm hkb) hlb) ?_
  refine g_iload B 1 dL_law_3292 rfl ?_
  refine g_icmp_eq B 3299 dL_law_3294 (by decide) (fun hc => ?_) (fun hc => ?_)
  · replace h := ifp hc h
    refine g_iload B 1 dL_law_3299 rfl ?_
    refine g_if_ne B 3316 dL_law_3301 (by decide) (fun hc => ?_) (fun hc => ?_)
    · replace h := ifn hc h
      refine g_goto B 3319 dL_law_3316 (by decide) ?_
      obtain ⟨w1, w2, w3, w4⟩ := inA h
      clear h
      cases w1
      subst w2
      subst w3
      subst w4
      refine g_cost hka hkb ?_
      exact g_sub [2, 3, 4, 5, 6, 7] rfl kk
    · replace h := ifp hc h
      refine g_aload_n B 5 dL_law_3304 rfl rfl ?_
      refine g_iconst (v := 0) B dL_law_3305 (by decide) ?_
      replace h := bnP_s h
      obtain ⟨x17, h18, h⟩ := h
      refine g_lald B dL_law_3306 h18 ?_
      refine g_iload B 0 dL_law_3307 rfl ?_
      refine g_i2l B dL_law_3309 ?_
      refine g_lcmp B dL_law_3310 ?_
      refine g_if_eq B 3316 dL_law_3311 (by decide) (fun hc => ?_) (fun hc => ?_)
      · replace h := ifp hc h
        refine g_goto B 3319 dL_law_3316 (by decide) ?_
        obtain ⟨w1, w2, w3, w4⟩ := inA h
        clear h
        cases w1
        subst w2
        subst w3
        subst w4
        refine g_cost hka hkb ?_
        exact g_sub [2, 3, 4, 5, 6, 7] rfl kk
      · replace h := ifn hc h
        refine g_iconst (v := 0) B dL_law_3314 (by decide) ?_
        cases h
  · replace h := ifn hc h
    refine g_iconst (v := 0) B dL_law_3297 (by decide) ?_
    cases h
set_option maxRecDepth 100000 in
set_option maxHeartbeats 4000000 in
theorem cL_step {Δ : AmbT} {Γ : CtxT} (B : Bd Δ Γ RL cL_law 9 2048 84000 601024 7293034) {Lx : Nat} {xs : Nat → Int32} (hX : Scr Δ Γ Lx xs) (hN : NCs Γ.2.2.2.2.1) {v1 v2 v3 v4 : Option Nat} {v5 xi : Int32} {σ σ' : HpT} {u : Unit} {a b kc ks A9 B9 : Nat} (h : fL_step Lx xs v1 v2 v3 v4 v5 xi σ = some (.ok u, σ', a, b)) (hka : kc + a = A9) (hkb : ks + b = B9) (hla : A9 ≤ 601024) (hlb : B9 ≤ 7293034) (kk : GW Δ Γ A9 B9 3319 [(0, va_rf (some (BIG + 203))), (1, va_rf v1), (2, va_rf v2), (3, va_rf v3), (4, va_rf v4), (5, .int v5)] [] σ') : GW Δ Γ kc ks 45 [(0, va_rf (some (BIG + 203))), (1, va_rf v1), (2, va_rf v2), (3, va_rf v3), (4, va_rf v4), (5, .int v5)] [.int xi] σ := by
  unfold fL_step at h
  by_cases n0 : xi = 0
  · replace h := ifp n0 h
    subst n0
    refine g_tableIn B 272 dL_law_45 (by decide) (by decide) rfl (by decide) ?_
    exact cL_c0 B hX hN h hka hkb hla hlb kk
  replace h := ifn n0 h
  by_cases n1 : xi = 1
  · replace h := ifp n1 h
    subst n1
    refine g_tableIn B 345 dL_law_45 (by decide) (by decide) rfl (by decide) ?_
    exact cL_c1 B hX hN h hka hkb hla hlb kk
  replace h := ifn n1 h
  by_cases n2 : xi = 2
  · replace h := ifp n2 h
    subst n2
    refine g_tableIn B 401 dL_law_45 (by decide) (by decide) rfl (by decide) ?_
    exact cL_c2 B hX hN h hka hkb hla hlb kk
  replace h := ifn n2 h
  by_cases n3 : xi = 3
  · replace h := ifp n3 h
    subst n3
    refine g_tableIn B 414 dL_law_45 (by decide) (by decide) rfl (by decide) ?_
    exact cL_c3 B hX hN h hka hkb hla hlb kk
  replace h := ifn n3 h
  by_cases n4 : xi = 4
  · replace h := ifp n4 h
    subst n4
    refine g_tableIn B 427 dL_law_45 (by decide) (by decide) rfl (by decide) ?_
    exact cL_c4 B hX hN h hka hkb hla hlb kk
  replace h := ifn n4 h
  by_cases n5 : xi = 5
  · replace h := ifp n5 h
    subst n5
    refine g_tableIn B 440 dL_law_45 (by decide) (by decide) rfl (by decide) ?_
    exact cL_c5 B hX hN h hka hkb hla hlb kk
  replace h := ifn n5 h
  by_cases n6 : xi = 6
  · replace h := ifp n6 h
    subst n6
    refine g_tableIn B 496 dL_law_45 (by decide) (by decide) rfl (by decide) ?_
    exact cL_c6 B hX hN h hka hkb hla hlb kk
  replace h := ifn n6 h
  by_cases n7 : xi = 7
  · replace h := ifp n7 h
    subst n7
    refine g_tableIn B 564 dL_law_45 (by decide) (by decide) rfl (by decide) ?_
    exact cL_c7 B hX hN h hka hkb hla hlb kk
  replace h := ifn n7 h
  by_cases n8 : xi = 8
  · replace h := ifp n8 h
    subst n8
    refine g_tableIn B 644 dL_law_45 (by decide) (by decide) rfl (by decide) ?_
    exact cL_c8 B hX hN h hka hkb hla hlb kk
  replace h := ifn n8 h
  by_cases n9 : xi = 9
  · replace h := ifp n9 h
    subst n9
    refine g_tableIn B 724 dL_law_45 (by decide) (by decide) rfl (by decide) ?_
    exact cL_c9 B hX hN h hka hkb hla hlb kk
  replace h := ifn n9 h
  by_cases n10 : xi = 10
  · replace h := ifp n10 h
    subst n10
    refine g_tableIn B 816 dL_law_45 (by decide) (by decide) rfl (by decide) ?_
    exact cL_c10 B hX hN h hka hkb hla hlb kk
  replace h := ifn n10 h
  by_cases n11 : xi = 11
  · replace h := ifp n11 h
    subst n11
    refine g_tableIn B 896 dL_law_45 (by decide) (by decide) rfl (by decide) ?_
    exact cL_c11 B hX hN h hka hkb hla hlb kk
  replace h := ifn n11 h
  by_cases n12 : xi = 12
  · replace h := ifp n12 h
    subst n12
    refine g_tableIn B 964 dL_law_45 (by decide) (by decide) rfl (by decide) ?_
    exact cL_c12 B hX hN h hka hkb hla hlb kk
  replace h := ifn n12 h
  by_cases n13 : xi = 13
  · replace h := ifp n13 h
    subst n13
    refine g_tableIn B 1032 dL_law_45 (by decide) (by decide) rfl (by decide) ?_
    exact cL_c13 B hX hN h hka hkb hla hlb kk
  replace h := ifn n13 h
  by_cases n14 : xi = 14
  · replace h := ifp n14 h
    subst n14
    refine g_tableIn B 1107 dL_law_45 (by decide) (by decide) rfl (by decide) ?_
    exact cL_c14 B hX hN h hka hkb hla hlb kk
  replace h := ifn n14 h
  by_cases n15 : xi = 15
  · replace h := ifp n15 h
    subst n15
    refine g_tableIn B 1163 dL_law_45 (by decide) (by decide) rfl (by decide) ?_
    exact cL_c15 B hX hN h hka hkb hla hlb kk
  replace h := ifn n15 h
  by_cases n16 : xi = 16
  · replace h := ifp n16 h
    subst n16
    refine g_tableIn B 1219 dL_law_45 (by decide) (by decide) rfl (by decide) ?_
    exact cL_c16 B hX hN h hka hkb hla hlb kk
  replace h := ifn n16 h
  by_cases n17 : xi = 17
  · replace h := ifp n17 h
    subst n17
    refine g_tableIn B 1263 dL_law_45 (by decide) (by decide) rfl (by decide) ?_
    exact cL_c17 B hX hN h hka hkb hla hlb kk
  replace h := ifn n17 h
  by_cases n18 : xi = 18
  · replace h := ifp n18 h
    subst n18
    refine g_tableIn B 1331 dL_law_45 (by decide) (by decide) rfl (by decide) ?_
    exact cL_c18 B hX hN h hka hkb hla hlb kk
  replace h := ifn n18 h
  by_cases n19 : xi = 19
  · replace h := ifp n19 h
    subst n19
    refine g_tableIn B 1399 dL_law_45 (by decide) (by decide) rfl (by decide) ?_
    exact cL_c19 B hX hN h hka hkb hla hlb kk
  replace h := ifn n19 h
  by_cases n20 : xi = 20
  · replace h := ifp n20 h
    subst n20
    refine g_tableIn B 1455 dL_law_45 (by decide) (by decide) rfl (by decide) ?_
    exact cL_c20 B hX hN h hka hkb hla hlb kk
  replace h := ifn n20 h
  by_cases n21 : xi = 21
  · replace h := ifp n21 h
    subst n21
    refine g_tableIn B 1511 dL_law_45 (by decide) (by decide) rfl (by decide) ?_
    exact cL_c21 B hX hN h hka hkb hla hlb kk
  replace h := ifn n21 h
  by_cases n22 : xi = 22
  · replace h := ifp n22 h
    subst n22
    refine g_tableIn B 1555 dL_law_45 (by decide) (by decide) rfl (by decide) ?_
    exact cL_c22 B hX hN h hka hkb hla hlb kk
  replace h := ifn n22 h
  by_cases n23 : xi = 23
  · replace h := ifp n23 h
    subst n23
    refine g_tableIn B 1599 dL_law_45 (by decide) (by decide) rfl (by decide) ?_
    exact cL_c23 B hX hN h hka hkb hla hlb kk
  replace h := ifn n23 h
  by_cases n24 : xi = 24
  · replace h := ifp n24 h
    subst n24
    refine g_tableIn B 1655 dL_law_45 (by decide) (by decide) rfl (by decide) ?_
    exact cL_c24 B hX hN h hka hkb hla hlb kk
  replace h := ifn n24 h
  by_cases n25 : xi = 25
  · replace h := ifp n25 h
    subst n25
    refine g_tableIn B 1723 dL_law_45 (by decide) (by decide) rfl (by decide) ?_
    exact cL_c25 B hX hN h hka hkb hla hlb kk
  replace h := ifn n25 h
  by_cases n26 : xi = 26
  · replace h := ifp n26 h
    subst n26
    refine g_tableIn B 1779 dL_law_45 (by decide) (by decide) rfl (by decide) ?_
    exact cL_c26 B hX hN h hka hkb hla hlb kk
  replace h := ifn n26 h
  by_cases n27 : xi = 27
  · replace h := ifp n27 h
    subst n27
    refine g_tableIn B 1863 dL_law_45 (by decide) (by decide) rfl (by decide) ?_
    exact cL_c27 B hX hN h hka hkb hla hlb kk
  replace h := ifn n27 h
  by_cases n28 : xi = 28
  · replace h := ifp n28 h
    subst n28
    refine g_tableIn B 1919 dL_law_45 (by decide) (by decide) rfl (by decide) ?_
    exact cL_c28 B hX hN h hka hkb hla hlb kk
  replace h := ifn n28 h
  by_cases n29 : xi = 29
  · replace h := ifp n29 h
    subst n29
    refine g_tableIn B 1975 dL_law_45 (by decide) (by decide) rfl (by decide) ?_
    exact cL_c29 B hX hN h hka hkb hla hlb kk
  replace h := ifn n29 h
  by_cases n30 : xi = 30
  · replace h := ifp n30 h
    subst n30
    refine g_tableIn B 2043 dL_law_45 (by decide) (by decide) rfl (by decide) ?_
    exact cL_c30 B hX hN h hka hkb hla hlb kk
  replace h := ifn n30 h
  by_cases n31 : xi = 31
  · replace h := ifp n31 h
    subst n31
    refine g_tableIn B 2109 dL_law_45 (by decide) (by decide) rfl (by decide) ?_
    exact cL_c31 B hX hN h hka hkb hla hlb kk
  replace h := ifn n31 h
  by_cases n32 : xi = 32
  · replace h := ifp n32 h
    subst n32
    refine g_tableIn B 2174 dL_law_45 (by decide) (by decide) rfl (by decide) ?_
    exact cL_c32 B hX hN h hka hkb hla hlb kk
  replace h := ifn n32 h
  by_cases n33 : xi = 33
  · replace h := ifp n33 h
    subst n33
    refine g_tableIn B 2230 dL_law_45 (by decide) (by decide) rfl (by decide) ?_
    exact cL_c33 B hX hN h hka hkb hla hlb kk
  replace h := ifn n33 h
  by_cases n34 : xi = 34
  · replace h := ifp n34 h
    subst n34
    refine g_tableIn B 2286 dL_law_45 (by decide) (by decide) rfl (by decide) ?_
    exact cL_c34 B hX hN h hka hkb hla hlb kk
  replace h := ifn n34 h
  by_cases n35 : xi = 35
  · replace h := ifp n35 h
    subst n35
    refine g_tableIn B 2342 dL_law_45 (by decide) (by decide) rfl (by decide) ?_
    exact cL_c35 B hX hN h hka hkb hla hlb kk
  replace h := ifn n35 h
  by_cases n36 : xi = 36
  · replace h := ifp n36 h
    subst n36
    refine g_tableIn B 2398 dL_law_45 (by decide) (by decide) rfl (by decide) ?_
    exact cL_c36 B hX hN h hka hkb hla hlb kk
  replace h := ifn n36 h
  by_cases n37 : xi = 37
  · replace h := ifp n37 h
    subst n37
    refine g_tableIn B 2454 dL_law_45 (by decide) (by decide) rfl (by decide) ?_
    exact cL_c37 B hX hN h hka hkb hla hlb kk
  replace h := ifn n37 h
  by_cases n38 : xi = 38
  · replace h := ifp n38 h
    subst n38
    refine g_tableIn B 2522 dL_law_45 (by decide) (by decide) rfl (by decide) ?_
    exact cL_c38 B hX hN h hka hkb hla hlb kk
  replace h := ifn n38 h
  by_cases n39 : xi = 39
  · replace h := ifp n39 h
    subst n39
    refine g_tableIn B 2578 dL_law_45 (by decide) (by decide) rfl (by decide) ?_
    exact cL_c39 B hX hN h hka hkb hla hlb kk
  replace h := ifn n39 h
  by_cases n40 : xi = 40
  · replace h := ifp n40 h
    subst n40
    refine g_tableIn B 2634 dL_law_45 (by decide) (by decide) rfl (by decide) ?_
    exact cL_c40 B hX hN h hka hkb hla hlb kk
  replace h := ifn n40 h
  by_cases n41 : xi = 41
  · replace h := ifp n41 h
    subst n41
    refine g_tableIn B 2702 dL_law_45 (by decide) (by decide) rfl (by decide) ?_
    exact cL_c41 B hX hN h hka hkb hla hlb kk
  replace h := ifn n41 h
  by_cases n42 : xi = 42
  · replace h := ifp n42 h
    subst n42
    refine g_tableIn B 2770 dL_law_45 (by decide) (by decide) rfl (by decide) ?_
    exact cL_c42 B hX hN h hka hkb hla hlb kk
  replace h := ifn n42 h
  by_cases n43 : xi = 43
  · replace h := ifp n43 h
    subst n43
    refine g_tableIn B 2814 dL_law_45 (by decide) (by decide) rfl (by decide) ?_
    exact cL_c43 B hX hN h hka hkb hla hlb kk
  replace h := ifn n43 h
  by_cases n44 : xi = 44
  · replace h := ifp n44 h
    subst n44
    refine g_tableIn B 2882 dL_law_45 (by decide) (by decide) rfl (by decide) ?_
    exact cL_c44 B hX hN h hka hkb hla hlb kk
  replace h := ifn n44 h
  by_cases n45 : xi = 45
  · replace h := ifp n45 h
    subst n45
    refine g_tableIn B 2938 dL_law_45 (by decide) (by decide) rfl (by decide) ?_
    exact cL_c45 B hX hN h hka hkb hla hlb kk
  replace h := ifn n45 h
  by_cases n46 : xi = 46
  · replace h := ifp n46 h
    subst n46
    refine g_tableIn B 2994 dL_law_45 (by decide) (by decide) rfl (by decide) ?_
    exact cL_c46 B hX hN h hka hkb hla hlb kk
  replace h := ifn n46 h
  by_cases n47 : xi = 47
  · replace h := ifp n47 h
    subst n47
    refine g_tableIn B 3050 dL_law_45 (by decide) (by decide) rfl (by decide) ?_
    exact cL_c47 B hX hN h hka hkb hla hlb kk
  replace h := ifn n47 h
  by_cases n48 : xi = 48
  · replace h := ifp n48 h
    subst n48
    refine g_tableIn B 3106 dL_law_45 (by decide) (by decide) rfl (by decide) ?_
    exact cL_c48 B hX hN h hka hkb hla hlb kk
  replace h := ifn n48 h
  by_cases n49 : xi = 49
  · replace h := ifp n49 h
    subst n49
    refine g_tableIn B 3150 dL_law_45 (by decide) (by decide) rfl (by decide) ?_
    exact cL_c49 B hX hN h hka hkb hla hlb kk
  replace h := ifn n49 h
  by_cases n50 : xi = 50
  · replace h := ifp n50 h
    subst n50
    refine g_tableIn B 3194 dL_law_45 (by decide) (by decide) rfl (by decide) ?_
    exact cL_c50 B hX hN h hka hkb hla hlb kk
  replace h := ifn n50 h
  by_cases n51 : xi = 51
  · replace h := ifp n51 h
    subst n51
    refine g_tableIn B 3207 dL_law_45 (by decide) (by decide) rfl (by decide) ?_
    exact cL_c51 B hX hN h hka hkb hla hlb kk
  replace h := ifn n51 h
  by_cases n52 : xi = 52
  · replace h := ifp n52 h
    subst n52
    refine g_tableIn B 3263 dL_law_45 (by decide) (by decide) rfl (by decide) ?_
    exact cL_c52 B hX hN h hka hkb hla hlb kk
  replace h := ifn n52 h
  have m0 := tne n0 (k := 0) (by decide)
  have m1 := tne n1 (k := 1) (by decide)
  have m2 := tne n2 (k := 2) (by decide)
  have m3 := tne n3 (k := 3) (by decide)
  have m4 := tne n4 (k := 4) (by decide)
  have m5 := tne n5 (k := 5) (by decide)
  have m6 := tne n6 (k := 6) (by decide)
  have m7 := tne n7 (k := 7) (by decide)
  have m8 := tne n8 (k := 8) (by decide)
  have m9 := tne n9 (k := 9) (by decide)
  have m10 := tne n10 (k := 10) (by decide)
  have m11 := tne n11 (k := 11) (by decide)
  have m12 := tne n12 (k := 12) (by decide)
  have m13 := tne n13 (k := 13) (by decide)
  have m14 := tne n14 (k := 14) (by decide)
  have m15 := tne n15 (k := 15) (by decide)
  have m16 := tne n16 (k := 16) (by decide)
  have m17 := tne n17 (k := 17) (by decide)
  have m18 := tne n18 (k := 18) (by decide)
  have m19 := tne n19 (k := 19) (by decide)
  have m20 := tne n20 (k := 20) (by decide)
  have m21 := tne n21 (k := 21) (by decide)
  have m22 := tne n22 (k := 22) (by decide)
  have m23 := tne n23 (k := 23) (by decide)
  have m24 := tne n24 (k := 24) (by decide)
  have m25 := tne n25 (k := 25) (by decide)
  have m26 := tne n26 (k := 26) (by decide)
  have m27 := tne n27 (k := 27) (by decide)
  have m28 := tne n28 (k := 28) (by decide)
  have m29 := tne n29 (k := 29) (by decide)
  have m30 := tne n30 (k := 30) (by decide)
  have m31 := tne n31 (k := 31) (by decide)
  have m32 := tne n32 (k := 32) (by decide)
  have m33 := tne n33 (k := 33) (by decide)
  have m34 := tne n34 (k := 34) (by decide)
  have m35 := tne n35 (k := 35) (by decide)
  have m36 := tne n36 (k := 36) (by decide)
  have m37 := tne n37 (k := 37) (by decide)
  have m38 := tne n38 (k := 38) (by decide)
  have m39 := tne n39 (k := 39) (by decide)
  have m40 := tne n40 (k := 40) (by decide)
  have m41 := tne n41 (k := 41) (by decide)
  have m42 := tne n42 (k := 42) (by decide)
  have m43 := tne n43 (k := 43) (by decide)
  have m44 := tne n44 (k := 44) (by decide)
  have m45 := tne n45 (k := 45) (by decide)
  have m46 := tne n46 (k := 46) (by decide)
  have m47 := tne n47 (k := 47) (by decide)
  have m48 := tne n48 (k := 48) (by decide)
  have m49 := tne n49 (k := 49) (by decide)
  have m50 := tne n50 (k := 50) (by decide)
  have m51 := tne n51 (k := 51) (by decide)
  have m52 := tne n52 (k := 52) (by decide)
  obtain ⟨w1, w2, w3, w4⟩ := inA h
  clear h
  subst w2; subst w3; subst w4
  refine g_tableOut B 3319 dL_law_45 (by omega) (by decide) ?_
  exact g_cost hka hkb kk
set_option maxRecDepth 100000 in
set_option maxHeartbeats 4000000 in
theorem cL_lawc {Δ : AmbT} {Γ : CtxT} (B : Bd Δ Γ RL cL_law 9 2048 84000 601024 7293034) {Lx : Nat} {xs : Nat → Int32} (hX : Scr Δ Γ Lx xs) (hN : NCs Γ.2.2.2.2.1) {σ σ' : HpT} {o : Except Nat Unit} {a b : Nat} (hE : ∀ kc ks L σ9, kc ≤ 601024 → ks ≤ 7293034 → GW Δ Γ kc ks 3326 L [.int 1] σ9) (h : fL_law Lx xs σ = some (o, σ', a, b)) (hla : a ≤ 601024) (hlb : b ≤ 7293034) : GW Δ Γ 0 0 0 [(0, va_rf (some (BIG + 203)))] [] σ := by
  unfold fL_law at h
  have hka : 0 + a = a := Nat.zero_add a
  have hkb : 0 + b = b := Nat.zero_add b
  replace h := bnA_s h
  rcases h with ⟨e9, h2, e8⟩ | ⟨x1, s3, a4, b5, a6, b7, h2, h, ea, eb⟩
  · exact absurd h2 (by simp [nwA, nwR]; try (split <;> simp))
  · subst ea; subst eb
    have hka := bk hka
    have hkb := bk hkb
    refine g_new B nw_RL_8 dL_law_0 h2 (Nat.le_trans (bm hka) hla) (Nat.le_trans (bm hkb) hlb) ?_
    refine g_dup B dL_law_3 (rf_cat _) ?_
    replace h := bnO_s h
    obtain ⟨x8, s10, a11, b12, a13, b14, h9, h, ea, eb⟩ := h
    subst ea; subst eb
    have hka := bk hka
    have hkb := bk hkb
    refine g_callIvA (st := [va_rf x1]) B (cX9_initc (o := .ok x8) h9) mi_X9_init lk_RL_168 ⟨Nat.le_of_ble_eq_true rfl, Nat.le_of_ble_eq_true rfl⟩ rfl rfl (Nat.le_of_ble_eq_true rfl) dL_law_4 (Nat.le_trans (bm hka) hla) (Nat.le_trans (bm hkb) hlb) ?_
    refine g_astore_n B dL_law_7 rfl (Nat.le_of_ble_eq_true rfl) (s1_c (f1_1 rfl (rf_cat _) f1_n)) ?_
    replace h := bnA_s h
    rcases h with ⟨e9, h16, e8⟩ | ⟨x15, s17, a18, b19, a20, b21, h16, h, ea, eb⟩
    · exact absurd h16 (by simp [nwA, nwR]; try (split <;> simp))
    · subst ea; subst eb
      have hka := bk hka
      have hkb := bk hkb
      refine g_new B nw_RL_169 dL_law_8 h16 (Nat.le_trans (bm hka) hla) (Nat.le_trans (bm hkb) hlb) ?_
      refine g_dup B dL_law_11 (rf_cat _) ?_
      replace h := bnO_s h
      obtain ⟨x22, s24, a25, b26, a27, b28, h23, h, ea, eb⟩ := h
      subst ea; subst eb
      have hka := bk hka
      have hkb := bk hkb
      refine g_callIvA (st := [va_rf x15]) B (cX10_initc (o := .ok x22) h23) mi_X10_init lk_RL_171 ⟨Nat.le_of_ble_eq_true rfl, Nat.le_of_ble_eq_true rfl⟩ rfl rfl (Nat.le_of_ble_eq_true rfl) dL_law_12 (Nat.le_trans (bm hka) hla) (Nat.le_trans (bm hkb) hlb) ?_
      refine g_astore_n B dL_law_15 rfl (Nat.le_of_ble_eq_true rfl) (s1_c (f1_1 rfl (rf_cat _) (f1_k rfl f1_n))) ?_
      refine g_iconst (v := 1) B dL_law_16 (by decide) ?_
      replace h := bnA_s h
      rcases h with ⟨e9, h30, e8⟩ | ⟨x29, s31, a32, b33, a34, b35, h30, h, ea, eb⟩
      · exact absurd h30 (by simp [nwA, nwR]; try (split <;> simp))
      · subst ea; subst eb
        have hka := bk hka
        have hkb := bk hkb
        refine g_newarr B (Or.inr (Or.inl ⟨rfl, rfl⟩)) na_long dL_law_17 h30 (Nat.le_trans (bm hka) hla) (Nat.le_trans (bm hkb) hlb) ?_
        refine g_astore_n B dL_law_19 rfl (Nat.le_of_ble_eq_true rfl) (s1_c (f1_1 rfl (rf_cat _) (f1_k rfl (f1_k rfl f1_n)))) ?_
        refine g_iconst (v := 1) B dL_law_20 (by decide) ?_
        replace h := bnA_s h
        rcases h with ⟨e9, h37, e8⟩ | ⟨x36, s38, a39, b40, a41, b42, h37, h, ea, eb⟩
        · exact absurd h37 (by simp [nwA, nwR]; try (split <;> simp))
        · subst ea; subst eb
          have hka := bk hka
          have hkb := bk hkb
          refine g_newarr B (Or.inr (Or.inr (Or.inr (Or.inr ⟨rfl, rfl⟩)))) na_double dL_law_21 h37 (Nat.le_trans (bm hka) hla) (Nat.le_trans (bm hkb) hlb) ?_
          refine g_astore B dL_law_23 (Nat.le_of_ble_eq_true rfl) (s1_c (f1_1 rfl (rf_cat _) (f1_k rfl (f1_k rfl (f1_k rfl f1_n))))) ?_
          refine g_iconst (v := 0) B dL_law_25 (by decide) ?_
          refine g_istore B dL_law_26 (Nat.le_of_ble_eq_true rfl) (s1_c (f1_1 rfl (rf_cat _) (f1_k rfl (f1_k rfl (f1_k rfl (f1_k rfl f1_n)))))) ?_
          replace h := bnA_o h
          obtain ⟨z70, s65, a66, b67, h45, er51o, h, la, lb⟩ := h
          have kE46 : ∀ r44, z70 = .ok r44 → GW Δ Γ (0 + a4 + a11 + a18 + a25 + a32 + a39 + a66) (0 + b5 + b12 + b19 + b26 + b33 + b40 + b67) 3325 [] [] s65 := by
            intro r44 ej
            replace h := h _ ej
            obtain ⟨a68, b69, h, ea, eb⟩ := h
            subst ea; subst eb
            have hka := bk hka
            have hkb := bk hkb
            refine g_iconst (v := 1) B dL_law_3325 (by decide) ?_
            obtain ⟨w1, w2, w3, w4⟩ := inA h
            clear h
            subst w1
            subst w2
            subst w3
            subst w4
            exact hE _ _ _ _ (Nat.le_trans (Nat.le_of_eq hka) hla) (Nat.le_trans (Nat.le_of_eq hkb) hlb)
          clear h
          refine g_sub [5, 4, 3, 2, 1, 0] rfl ?_
          have hla9 := Nat.le_trans (bj hka la) hla
          have hlb9 := Nat.le_trans (bj hkb lb) hlb
          refine lpA_w (I := fun q43 s52 ka53 kb54 => GW Δ Γ (ka53) (kb54) 28 [(0, va_rf (some (BIG + 203))), (1, va_rf x1), (2, va_rf x15), (3, va_rf x29), (4, va_rf x36), (5, .int q43)] [] s52) (r := z70) (σr := s65) (A := 0 + a4 + a11 + a18 + a25 + a32 + a39 + a66) (B := 0 + b5 + b12 + b19 + b26 + b33 + b40 + b67) ?_ FUEL 0 s38 _ _ _ _ h45 rfl rfl
          intro q43 s52 ka53 kb54 x50 s9 i9 j9 h hI48 hle9 hR49 er51i
          unfold fL_law_l1 at h
          have hka : ka53 + i9 = _ := rfl
          have hkb : kb54 + j9 = _ := rfl
          have hlab : ka53 + i9 ≤ 0 + a4 + a11 + a18 + a25 + a32 + a39 + a66 ∧ kb54 + j9 ≤ 0 + b5 + b12 + b19 + b26 + b33 + b40 + b67 := by
            rcases x50 with e | (x | x)
            · obtain ⟨-, -, e1, e2⟩ := er51i e rfl; exact ⟨Nat.le_of_eq e1, Nat.le_of_eq e2⟩
            · exact hle9 x rfl
            · obtain ⟨-, -, e1, e2⟩ := hR49 x rfl; exact ⟨Nat.le_of_eq e1, Nat.le_of_eq e2⟩
          have hla := Nat.le_trans hlab.1 hla9
          have hlb := Nat.le_trans hlab.2 hlb9
          have er51n : ∀ e, x50 = .error e → z70 = .error e ∧ s9 = s65 ∧ ka53 + i9 = 0 + a4 + a11 + a18 + a25 + a32 + a39 + a66 ∧ kb54 + j9 = 0 + b5 + b12 + b19 + b26 + b33 + b40 + b67 := fun e q => (fun r9 => ⟨r9.1, r9.2.1.symm, r9.2.2.1, r9.2.2.2⟩) (er51i e q)
          refine g_iload B 5 dL_law_28 rfl ?_
          refine g_aload_n B 0 dL_law_30 rfl rfl ?_
          refine g_slen B hX dL_law_31 ?_
          refine g_bipush (v := 6) B dL_law_32 (by decide) ?_
          refine g_isub B dL_law_34 ?_
          refine g_icmp_gt B 3325 dL_law_35 (by decide) (fun hc => ?_) (fun hc => ?_)
          · replace h := ifp hc h
            obtain ⟨w1, w2, w3, w4⟩ := inA h
            clear h
            subst w1
            subst w2
            subst w3
            subst w4
            obtain ⟨e8, e7, e6, e5⟩ := hR49 _ rfl
            subst e8
            subst e7
            refine g_cost (by omega) (by omega) ?_
            exact g_sub [] rfl (kE46 _ rfl)
          · replace h := ifn hc h
            refine g_aload_n B 0 dL_law_38 rfl rfl ?_
            refine g_iload B 5 dL_law_39 rfl ?_
            replace h := bnP_s h
            obtain ⟨x55, h56, h⟩ := h
            refine g_sld B hX dL_law_41 h56 ?_
            refine g_bipush (v := 63) B dL_law_42 (by decide) ?_
            refine g_iand B dL_law_44 ?_
            replace h := bnO_s h
            obtain ⟨u57, s59, a60, b61, a62, b63, h58, h, ea, eb⟩ := h
            subst ea; subst eb
            have hka := bk hka
            have hkb := bk hkb
            have kJ64 : GW Δ Γ (ka53 + a60) (kb54 + b61) 3319 [(0, va_rf (some (BIG + 203))), (1, va_rf x1), (2, va_rf x15), (3, va_rf x29), (4, va_rf x36), (5, .int q43)] [] s59 := by
              refine g_iinc (v := (q43 + 6)) B 5 dL_law_3319 rfl (by first | rfl | (congr 1; decide)) (Nat.le_of_ble_eq_true rfl) (s1_c (f1_k rfl (f1_k rfl (f1_k rfl (f1_k rfl (f1_1 rfl (rf_cat _) (f1_x f1_n))))))) ?_
              refine g_goto B 28 dL_law_3322 (by decide) ?_
              obtain ⟨w1, w2, w3, w4⟩ := inA h
              clear h
              subst w1
              subst w2
              subst w3
              subst w4
              refine g_cost (by omega) (by omega) ?_
              exact g_sub [1, 2, 3, 4, 5, 0] rfl (hI48 _ rfl)
            exact cL_step B hX hN h58 rfl rfl (Nat.le_trans (bm hka) hla) (Nat.le_trans (bm hkb) hlb) kJ64
