set_option maxRecDepth 100000 in
set_option maxHeartbeats 4000000 in
theorem w_L_law_1809 (o : zW)  (S : zS) (Q : Option Value → zS → Prop) (h : zGi o 970 mdX4_anew [.ref (z_adr o (0, 0, 0))] S (fun r3 S4 => (¬ (r3 < 0)) ∧ (zGi o 970 mdX4_often [.ref (z_adr o (0, 0, 0)), .int 9] S4 (fun r7 S8 => (¬ (¬ r7 = 0)) ∧ (zGi o 970 mdX4_often [.ref (z_adr o (0, 0, 0)), .int 6] S8 (fun r11 S12 => (¬ (¬ r11 = 0)) ∧ (zGi o 970 mdX4_cost [.ref (z_adr o (0, 0, 0)), .int 0] S12 (fun r15 S16 => (¬ (¬ r15 = 0)) ∧ (zGl o 970 mdX4_even [.ref (z_adr o (0, 0, 0))] S16 (fun r19 S20 => (¬ (¬ (z_lcmp r19 0) = 0)) ∧ (zG o 970 mdL_law 1863 [(1, .ref (z_adr o (0, 0, 0))), (4, .int 1)] [] S20 Q))))))))))) : zG o 970 mdL_law 1809 [(1, .ref (z_adr o (0, 0, 0))), (4, .int 1)] [] S Q := by
  show zJ o mdL_law 1809 _ [] (970, z_enc o S) 0 0 _
  refine zJ.iload (pc := 1809) 1 dL_law_1809 rfl ?_
  refine zJ.if_eq (pc := 1811) (tgt := 1860) dL_law_1811 (by decide) (fun c1 => absurd c1 (by decide)) (fun c1 => ?_)
  refine zJ.aload_n (pc := 1814) 0 dL_law_1814 rfl rfl ?_
  refine zG.callVi (d := mdL_law) (pc := 1815) [] [] (ob_0 o) ok_0 rfl dL_law_1815 ⟨(cb_X4_anew).1, (cb_X4_anew).2, (Nat.le_of_ble_eq_true rfl), (Nat.le_of_ble_eq_true rfl)⟩ ml_L_150 ci_X4_anew cv_X4_anew rfl (Nat.le_of_ble_eq_true rfl) (Nat.le_of_ble_eq_true rfl) rfl h (fun r3 S4 h2 => ?_)
  replace h := h2
  clear h2
  obtain ⟨cN, h⟩ := h
  refine zJ.if_lt (pc := 1818) (tgt := 1860) dL_law_1818 (by decide) (fun c5 => absurd c5 cN) (fun _ => ?_)
  clear cN
  refine zJ.aload_n (pc := 1821) 0 dL_law_1821 rfl rfl ?_
  refine zJ.bipush (pc := 1822) (v := 9) dL_law_1822 (by decide) ?_
  refine zG.callVi (d := mdL_law) (pc := 1824) [.int 9] [] (ob_0 o) ok_0 rfl dL_law_1824 ⟨(cb_X4_often).1, (cb_X4_often).2, (Nat.le_of_ble_eq_true rfl), (Nat.le_of_ble_eq_true rfl)⟩ ml_L_74 ci_X4_often cv_X4_often rfl (Nat.le_of_ble_eq_true rfl) (Nat.le_of_ble_eq_true rfl) rfl h (fun r7 S8 h2 => ?_)
  replace h := h2
  clear h2
  obtain ⟨cN, h⟩ := h
  refine zJ.if_ne (pc := 1827) (tgt := 1860) dL_law_1827 (by decide) (fun c9 => absurd c9 cN) (fun _ => ?_)
  clear cN
  refine zJ.aload_n (pc := 1830) 0 dL_law_1830 rfl rfl ?_
  refine zJ.bipush (pc := 1831) (v := 6) dL_law_1831 (by decide) ?_
  refine zG.callVi (d := mdL_law) (pc := 1833) [.int 6] [] (ob_0 o) ok_0 rfl dL_law_1833 ⟨(cb_X4_often).1, (cb_X4_often).2, (Nat.le_of_ble_eq_true rfl), (Nat.le_of_ble_eq_true rfl)⟩ ml_L_74 ci_X4_often cv_X4_often rfl (Nat.le_of_ble_eq_true rfl) (Nat.le_of_ble_eq_true rfl) rfl h (fun r11 S12 h2 => ?_)
  replace h := h2
  clear h2
  obtain ⟨cN, h⟩ := h
  refine zJ.if_ne (pc := 1836) (tgt := 1860) dL_law_1836 (by decide) (fun c13 => absurd c13 cN) (fun _ => ?_)
  clear cN
  refine zJ.aload_n (pc := 1839) 0 dL_law_1839 rfl rfl ?_
  refine zJ.iconst (pc := 1840) (v := 0) dL_law_1840 (by decide) ?_
  refine zG.callVi (d := mdL_law) (pc := 1841) [.int 0] [] (ob_0 o) ok_0 rfl dL_law_1841 ⟨(cb_X4_cost).1, (cb_X4_cost).2, (Nat.le_of_ble_eq_true rfl), (Nat.le_of_ble_eq_true rfl)⟩ ml_L_99 ci_X4_cost cv_X4_cost rfl (Nat.le_of_ble_eq_true rfl) (Nat.le_of_ble_eq_true rfl) rfl h (fun r15 S16 h2 => ?_)
  replace h := h2
  clear h2
  obtain ⟨cN, h⟩ := h
  refine zJ.if_ne (pc := 1844) (tgt := 1860) dL_law_1844 (by decide) (fun c17 => absurd c17 cN) (fun _ => ?_)
  clear cN
  refine zJ.aload_n (pc := 1847) 0 dL_law_1847 rfl rfl ?_
  refine zG.callVl (d := mdL_law) (pc := 1848) [] [] (ob_0 o) ok_0 rfl dL_law_1848 ⟨(cb_X4_even).1, (cb_X4_even).2, (Nat.le_of_ble_eq_true rfl), (Nat.le_of_ble_eq_true rfl)⟩ ml_L_105 ci_X4_even cv_X4_even rfl (Nat.le_of_ble_eq_true rfl) (Nat.le_of_ble_eq_true rfl) rfl h (fun r19 S20 h2 => ?_)
  replace h := h2
  clear h2
  refine zJ.lconst (pc := 1851) (v := 0) dL_law_1851 (by decide) ?_
  refine zJ.lcmp (pc := 1852) dL_law_1852 ?_
  obtain ⟨cN, h⟩ := h
  refine zJ.if_ne (pc := 1853) (tgt := 1860) dL_law_1853 (by decide) (fun c21 => absurd c21 cN) (fun _ => ?_)
  clear cN
  refine zJ.iconst (pc := 1856) (v := 1) dL_law_1856 (by decide) ?_
  refine zJ.goto (pc := 1857) (tgt := 1861) dL_law_1857 (by decide) ?_
  refine zJ.istore (pc := 1861) (lv' := [(4, .int 1), (1, .ref (z_adr o (0, 0, 0)))]) dL_law_1861 (Nat.le_of_ble_eq_true rfl) rfl ?_
  exact zJ.sub [1, 0] rfl h
set_option maxRecDepth 100000 in
set_option maxHeartbeats 4000000 in
theorem w_L_law_1863 (o : zW)  (S : zS) (Q : Option Value → zS → Prop) (h : zG o 970 mdL_law 1866 [(1, .ref (z_adr o (0, 0, 0))), (4, .int 1), (15, .int 0)] [] S Q) : zG o 970 mdL_law 1863 [(1, .ref (z_adr o (0, 0, 0))), (4, .int 1)] [] S Q := by
  show zJ o mdL_law 1863 _ [] (970, z_enc o S) 0 0 _
  refine zJ.iconst (pc := 1863) (v := 0) dL_law_1863 (by decide) ?_
  refine zJ.istore (pc := 1864) (lv' := [(15, .int 0), (1, .ref (z_adr o (0, 0, 0))), (4, .int 1)]) dL_law_1864 (Nat.le_of_ble_eq_true rfl) rfl ?_
  exact zJ.sub [1, 2, 0] rfl h
set_option maxRecDepth 100000 in
set_option maxHeartbeats 4000000 in
theorem w_L_law_1866 (o : zW) (x15 : Int32) (S : zS) (Q : Option Value → zS → Prop) (h : (64 ≤ x15 → (zGi o 970 mdX4_told [.ref (z_adr o (0, 0, 0)), .int 6] S (fun r4 S5 => (¬ (¬ r4 = 4)) ∧ (Q (some (.int 1)) S5)))) ∧ (¬ 64 ≤ x15 → (zGi o 970 mdX4_item [.ref (z_adr o (0, 0, 0)), .int (x15 >>> ((2 : Int32) &&& 31)), .int (x15 &&& 3), .int 0] S (fun r9 S10 => (¬ (¬ r9 = ((5 * (x15 >>> ((2 : Int32) &&& 31))) + (x15 &&& 3)))) ∧ (zGi o 970 mdX4_where [.ref (z_adr o (0, 0, 0)), .int (x15 >>> ((2 : Int32) &&& 31))] S10 (fun r13 S14 => (¬ (¬ r13 = 0)) ∧ (zG o 970 mdL_law 1866 [(1, .ref (z_adr o (0, 0, 0))), (4, .int 1), (15, .int (x15 + 1))] [] S14 Q))))))) : zG o 970 mdL_law 1866 [(1, .ref (z_adr o (0, 0, 0))), (4, .int 1), (15, .int x15)] [] S Q := by
  show zJ o mdL_law 1866 _ [] (970, z_enc o S) 0 0 _
  refine zJ.iload (pc := 1866) 2 dL_law_1866 rfl ?_
  refine zJ.bipush (pc := 1868) (v := 64) dL_law_1868 (by decide) ?_
  refine zJ.icmp_ge (pc := 1870) (tgt := 1929) dL_law_1870 (by decide) (fun c1 => ?_) (fun c1 => ?_)
  · replace h := h.1 c1
    refine zJ.iload (pc := 1929) 1 dL_law_1929 rfl ?_
    refine zJ.if_eq (pc := 1931) (tgt := 1948) dL_law_1931 (by decide) (fun c2 => absurd c2 (by decide)) (fun c2 => ?_)
    refine zJ.aload_n (pc := 1934) 0 dL_law_1934 rfl rfl ?_
    refine zJ.bipush (pc := 1935) (v := 6) dL_law_1935 (by decide) ?_
    refine zG.callVi (d := mdL_law) (pc := 1937) [.int 6] [] (ob_0 o) ok_0 rfl dL_law_1937 ⟨(cb_X4_told).1, (cb_X4_told).2, (Nat.le_of_ble_eq_true rfl), (Nat.le_of_ble_eq_true rfl)⟩ ml_L_80 ci_X4_told cv_X4_told rfl (Nat.le_of_ble_eq_true rfl) (Nat.le_of_ble_eq_true rfl) rfl h (fun r4 S5 h2 => ?_)
    replace h := h2
    clear h2
    refine zJ.iconst (pc := 1940) (v := 4) dL_law_1940 (by decide) ?_
    obtain ⟨cN, h⟩ := h
    refine zJ.icmp_ne (pc := 1941) (tgt := 1948) dL_law_1941 (by decide) (fun c6 => absurd c6 cN) (fun _ => ?_)
    clear cN
    refine zJ.iconst (pc := 1944) (v := 1) dL_law_1944 (by decide) ?_
    refine zJ.goto (pc := 1945) (tgt := 1949) dL_law_1945 (by decide) ?_
    exact zG.ret (pc := 1949) (r := some (.int 1)) ⟨dL_law_1949, _, rfl, rfl⟩ h
  · replace h := h.2 c1
    refine zJ.iload (pc := 1873) 1 dL_law_1873 rfl ?_
    refine zJ.if_eq (pc := 1875) (tgt := 1920) dL_law_1875 (by decide) (fun c7 => absurd c7 (by decide)) (fun c7 => ?_)
    refine zJ.aload_n (pc := 1878) 0 dL_law_1878 rfl rfl ?_
    refine zJ.iload (pc := 1879) 2 dL_law_1879 rfl ?_
    refine zJ.iconst (pc := 1881) (v := 2) dL_law_1881 (by decide) ?_
    refine zJ.ishr (pc := 1882) dL_law_1882 ?_
    refine zJ.iload (pc := 1883) 2 dL_law_1883 rfl ?_
    refine zJ.iconst (pc := 1885) (v := 3) dL_law_1885 (by decide) ?_
    refine zJ.iand (pc := 1886) dL_law_1886 ?_
    refine zJ.iconst (pc := 1887) (v := 0) dL_law_1887 (by decide) ?_
    refine zG.callVi (d := mdL_law) (pc := 1888) [.int (x15 >>> ((2 : Int32) &&& 31)), .int (x15 &&& 3), .int 0] [] (ob_0 o) ok_0 rfl dL_law_1888 ⟨(cb_X4_item).1, (cb_X4_item).2, (Nat.le_of_ble_eq_true rfl), (Nat.le_of_ble_eq_true rfl)⟩ ml_L_89 ci_X4_item cv_X4_item rfl (Nat.le_of_ble_eq_true rfl) (Nat.le_of_ble_eq_true rfl) rfl h (fun r9 S10 h2 => ?_)
    replace h := h2
    clear h2
    refine zJ.iconst (pc := 1891) (v := 5) dL_law_1891 (by decide) ?_
    refine zJ.iload (pc := 1892) 2 dL_law_1892 rfl ?_
    refine zJ.iconst (pc := 1894) (v := 2) dL_law_1894 (by decide) ?_
    refine zJ.ishr (pc := 1895) dL_law_1895 ?_
    refine zJ.imul (pc := 1896) dL_law_1896 ?_
    refine zJ.iload (pc := 1897) 2 dL_law_1897 rfl ?_
    refine zJ.iconst (pc := 1899) (v := 3) dL_law_1899 (by decide) ?_
    refine zJ.iand (pc := 1900) dL_law_1900 ?_
    refine zJ.iadd (pc := 1901) dL_law_1901 ?_
    obtain ⟨cN, h⟩ := h
    refine zJ.icmp_ne (pc := 1902) (tgt := 1920) dL_law_1902 (by decide) (fun c11 => absurd c11 cN) (fun _ => ?_)
    clear cN
    refine zJ.aload_n (pc := 1905) 0 dL_law_1905 rfl rfl ?_
    refine zJ.iload (pc := 1906) 2 dL_law_1906 rfl ?_
    refine zJ.iconst (pc := 1908) (v := 2) dL_law_1908 (by decide) ?_
    refine zJ.ishr (pc := 1909) dL_law_1909 ?_
    refine zG.callVi (d := mdL_law) (pc := 1910) [.int (x15 >>> ((2 : Int32) &&& 31))] [] (ob_0 o) ok_0 rfl dL_law_1910 ⟨(cb_X4_where).1, (cb_X4_where).2, (Nat.le_of_ble_eq_true rfl), (Nat.le_of_ble_eq_true rfl)⟩ ml_L_86 ci_X4_where cv_X4_where rfl (Nat.le_of_ble_eq_true rfl) (Nat.le_of_ble_eq_true rfl) rfl h (fun r13 S14 h2 => ?_)
    replace h := h2
    clear h2
    obtain ⟨cN, h⟩ := h
    refine zJ.if_ne (pc := 1913) (tgt := 1920) dL_law_1913 (by decide) (fun c15 => absurd c15 cN) (fun _ => ?_)
    clear cN
    refine zJ.iconst (pc := 1916) (v := 1) dL_law_1916 (by decide) ?_
    refine zJ.goto (pc := 1917) (tgt := 1921) dL_law_1917 (by decide) ?_
    refine zJ.istore (pc := 1921) (lv' := [(4, .int 1), (1, .ref (z_adr o (0, 0, 0))), (15, .int x15)]) dL_law_1921 (Nat.le_of_ble_eq_true rfl) rfl ?_
    refine zJ.iinc (pc := 1923) (k := 2) (lv' := [(15, .int (x15 + 1)), (4, .int 1), (1, .ref (z_adr o (0, 0, 0)))]) dL_law_1923 rfl rfl (Nat.le_of_ble_eq_true rfl) rfl ?_
    refine zJ.goto (pc := 1926) (tgt := 1866) dL_law_1926 (by decide) ?_
    exact zJ.sub [2, 1, 0] rfl h
