/-! runs of the law of one call on new objects (printed by a program of mine) -/
set_option maxRecDepth 100000
theorem pt_26_7 {x0 x1 x2 x3 x4 : Int32} (e0 : x0 &&& 63 = Int32.ofNat 26) (e1 : sC1 .eq x3 = true) (e2 : sC2 .lt x1 (1) = false) (e3 : sC2 .gt x1 (65535) = false) (e4 : sC2 .lt x2 (1) = false) (e5 : sC2 .gt x2 (1023) = true) (e6 : sC1 .eq x3 = true) (e7 : sC2 .lt x1 (1) = false) (e8 : sC2 .gt x1 (65535) = false) (e9 : sC2 .lt x2 (1) = false) (e10 : sC2 .gt x2 (1023) = true) : wLaw [x0, x1, x2, x3, x4] := by
  unfold wLaw
  refine wp_iload qL_28 (by rfl) ?_
  refine wp_aload_ns qL_30 (by rfl) ?_
  refine wp_slen (n := 5) qL_31 rfl ?_
  refine wp_iconst qL_32 ?_
  refine wp_isub qL_33 ?_
  refine wp_icf (t := 3989) qL_34 (by rfl) (by rfl) ?_
  refine wp_aload_ns qL_37 (by rfl) ?_
  refine wp_iload qL_38 (by rfl) ?_
  refine wp_sload (x := x0) qL_40 (by rfl) (by rfl) ?_
  refine wp_bipush qL_41 ?_
  refine wp_iand qL_43 ?_
  refine wp_switch (t := 1850) qL_44 e0 (by rfl) ?_
  refine wp_aload_n qL_1850 (by rfl) ?_
  refine wp_aload_ns qL_1851 (by rfl) ?_
  refine wp_iload qL_1852 (by rfl) ?_
  refine wp_iconst qL_1854 ?_
  refine wp_iadd qL_1855 ?_
  refine wp_sload (x := x1) qL_1856 (by rfl) (by rfl) ?_
  refine wp_aload_ns qL_1857 (by rfl) ?_
  refine wp_iload qL_1858 (by rfl) ?_
  refine wp_iconst qL_1860 ?_
  refine wp_iadd qL_1861 ?_
  refine wp_sload (x := x2) qL_1862 (by rfl) (by rfl) ?_
  refine wp_aload_ns qL_1863 (by rfl) ?_
  refine wp_iload qL_1864 (by rfl) ?_
  refine wp_iconst qL_1866 ?_
  refine wp_iadd qL_1867 ?_
  refine wp_sload (x := x3) qL_1868 (by rfl) (by rfl) ?_
  refine wp_ift (t := 1876) qL_1869 e1 (by rfl) ?_
  refine wp_iconst qL_1876 ?_
  refine wp_aload_n qL_1877 (by rfl) ?_
  refine wp_static qL_1878 (by decide) (Nat.le_of_ble_eq_true rfl) (by rfl) (by rfl) ⟨(Nat.le_of_ble_eq_true rfl), (Nat.le_of_ble_eq_true rfl), (Nat.le_of_ble_eq_true rfl)⟩ (Nat.le_of_ble_eq_true rfl) ?_
  refine wp_aload q129_0 (by rfl) ?_
  refine wp_iconst q129_2 ?_
  refine wp_aload_n q129_3 (by rfl) ?_
  refine wp_iload_n q129_4 (by rfl) ?_
  refine wp_iload_n q129_5 (by rfl) ?_
  refine wp_iload_n q129_6 (by rfl) ?_
  refine wp_virtual q129_7 (by decide) (Nat.le_of_ble_eq_true rfl) (by rfl) (by rfl) (by rfl) ⟨(Nat.le_of_ble_eq_true rfl), (Nat.le_of_ble_eq_true rfl), (Nat.le_of_ble_eq_true rfl)⟩ (Nat.le_of_ble_eq_true rfl) ?_
  refine wp_iload_n q130_0 (by rfl) ?_
  refine wp_iconst q130_1 ?_
  refine wp_hp q130_2 rfl (by rfl) ?_
  refine wp_static q130_5 (by decide) (Nat.le_of_ble_eq_true rfl) (by rfl) (by rfl) ⟨(Nat.le_of_ble_eq_true rfl), (Nat.le_of_ble_eq_true rfl), (Nat.le_of_ble_eq_true rfl)⟩ (Nat.le_of_ble_eq_true rfl) ?_
  refine wp_iload_n q47_0 (by rfl) ?_
  refine wp_iload_n q47_1 (by rfl) ?_
  refine wp_icf (t := 14) q47_2 e2 (by rfl) ?_
  refine wp_iload_n q47_5 (by rfl) ?_
  refine wp_iload_n q47_6 (by rfl) ?_
  refine wp_icf (t := 14) q47_7 e3 (by rfl) ?_
  refine wp_iconst q47_10 ?_
  refine wp_goto (t := 15) q47_11 (by rfl) ?_
  refine wp_ireturn q47_15 (by rfl) (by rfl) ?_
  refine wK_v ?_
  refine wp_iff (t := 22) q130_8 (by rfl) (by rfl) ?_
  refine wp_iload_n q130_11 (by rfl) ?_
  refine wp_iconst q130_12 ?_
  refine wp_sipush q130_13 ?_
  refine wp_static q130_16 (by decide) (Nat.le_of_ble_eq_true rfl) (by rfl) (by rfl) ⟨(Nat.le_of_ble_eq_true rfl), (Nat.le_of_ble_eq_true rfl), (Nat.le_of_ble_eq_true rfl)⟩ (Nat.le_of_ble_eq_true rfl) ?_
  refine wp_iload_n q47_0 (by rfl) ?_
  refine wp_iload_n q47_1 (by rfl) ?_
  refine wp_icf (t := 14) q47_2 e4 (by rfl) ?_
  refine wp_iload_n q47_5 (by rfl) ?_
  refine wp_iload_n q47_6 (by rfl) ?_
  refine wp_ict (t := 14) q47_7 e5 (by rfl) ?_
  refine wp_iconst q47_14 ?_
  refine wp_ireturn q47_15 (by rfl) (by rfl) ?_
  refine wK_v ?_
  refine wp_iff (t := 33) q130_19 (by rfl) (by rfl) ?_
  refine wp_throw q130_22 (by decide) ⟨(Nat.le_of_ble_eq_true rfl), (Nat.le_of_ble_eq_true rfl), (Nat.le_of_ble_eq_true rfl)⟩ ?_
  refine wK_c (by rfl) (by rfl) (by decide) (by rfl) ?_
  refine wp_iconst q129_17 ?_
  refine wp_ireturn q129_18 (by rfl) (by rfl) ?_
  refine wK_v ?_
  refine wp_istore qL_1881 (Nat.le_of_ble_eq_true rfl) ?_
  refine wp_aload_n qL_1883 (by rfl) ?_
  refine wp_aload_ns qL_1884 (by rfl) ?_
  refine wp_iload qL_1885 (by rfl) ?_
  refine wp_iconst qL_1887 ?_
  refine wp_iadd qL_1888 ?_
  refine wp_sload (x := x1) qL_1889 (by rfl) (by rfl) ?_
  refine wp_aload_ns qL_1890 (by rfl) ?_
  refine wp_iload qL_1891 (by rfl) ?_
  refine wp_iconst qL_1893 ?_
  refine wp_iadd qL_1894 ?_
  refine wp_sload (x := x2) qL_1895 (by rfl) (by rfl) ?_
  refine wp_aload_ns qL_1896 (by rfl) ?_
  refine wp_iload qL_1897 (by rfl) ?_
  refine wp_iconst qL_1899 ?_
  refine wp_iadd qL_1900 ?_
  refine wp_sload (x := x3) qL_1901 (by rfl) (by rfl) ?_
  refine wp_ift (t := 1909) qL_1902 e6 (by rfl) ?_
  refine wp_iconst qL_1909 ?_
  refine wp_virtual qL_1910 (by decide) (Nat.le_of_ble_eq_true rfl) (by rfl) (by rfl) (by rfl) ⟨(Nat.le_of_ble_eq_true rfl), (Nat.le_of_ble_eq_true rfl), (Nat.le_of_ble_eq_true rfl)⟩ (Nat.le_of_ble_eq_true rfl) ?_
  refine wp_aload_n q264_0 (by rfl) ?_
  refine wp_iload_n q264_1 (by rfl) ?_
  refine wp_iconst q264_2 ?_
  refine wp_hp q264_3 rfl (by rfl) ?_
  refine wp_static q264_5 (by decide) (Nat.le_of_ble_eq_true rfl) (by rfl) (by rfl) ⟨(Nat.le_of_ble_eq_true rfl), (Nat.le_of_ble_eq_true rfl), (Nat.le_of_ble_eq_true rfl)⟩ (Nat.le_of_ble_eq_true rfl) ?_
  refine wp_iload_n q211_0 (by rfl) ?_
  refine wp_iload_n q211_1 (by rfl) ?_
  refine wp_icf (t := 14) q211_2 e7 (by rfl) ?_
  refine wp_iload_n q211_5 (by rfl) ?_
  refine wp_iload_n q211_6 (by rfl) ?_
  refine wp_icf (t := 14) q211_7 e8 (by rfl) ?_
  refine wp_iconst q211_10 ?_
  refine wp_goto (t := 15) q211_11 (by rfl) ?_
  refine wp_ireturn q211_15 (by rfl) (by rfl) ?_
  refine wK_v ?_
  refine wp_iff (t := 22) q264_8 (by rfl) (by rfl) ?_
  refine wp_iload_n q264_11 (by rfl) ?_
  refine wp_iconst q264_12 ?_
  refine wp_sipush q264_13 ?_
  refine wp_static q264_16 (by decide) (Nat.le_of_ble_eq_true rfl) (by rfl) (by rfl) ⟨(Nat.le_of_ble_eq_true rfl), (Nat.le_of_ble_eq_true rfl), (Nat.le_of_ble_eq_true rfl)⟩ (Nat.le_of_ble_eq_true rfl) ?_
  refine wp_iload_n q211_0 (by rfl) ?_
  refine wp_iload_n q211_1 (by rfl) ?_
  refine wp_icf (t := 14) q211_2 e9 (by rfl) ?_
  refine wp_iload_n q211_5 (by rfl) ?_
  refine wp_iload_n q211_6 (by rfl) ?_
  refine wp_ict (t := 14) q211_7 e10 (by rfl) ?_
  refine wp_iconst q211_14 ?_
  refine wp_ireturn q211_15 (by rfl) (by rfl) ?_
  refine wK_v ?_
  refine wp_iff (t := 26) q264_19 (by rfl) (by rfl) ?_
  refine wp_iconst q264_22 ?_
  refine wp_goto (t := 40) q264_23 (by rfl) ?_
  refine wp_putfield q264_40 (by rfl) (Nat.le_of_ble_eq_true rfl) (by rfl) ?_
  refine wp_aload_n q264_43 (by rfl) ?_
  refine wp_getfield q264_44 (by rfl) (by rfl) ?_
  refine wp_iff (t := 52) q264_47 (by rfl) (by rfl) ?_
  refine wp_iconst q264_50 ?_
  refine wp_ireturn q264_51 (by rfl) (by rfl) ?_
  refine wK_v ?_
  refine wp_istore qL_1913 (Nat.le_of_ble_eq_true rfl) ?_
  refine wp_aload_n qL_1915 (by rfl) ?_
  refine wp_virtual qL_1916 (by decide) (Nat.le_of_ble_eq_true rfl) (by rfl) (by rfl) (by rfl) ⟨(Nat.le_of_ble_eq_true rfl), (Nat.le_of_ble_eq_true rfl), (Nat.le_of_ble_eq_true rfl)⟩ (Nat.le_of_ble_eq_true rfl) ?_
  refine wp_aload_n q209_0 (by rfl) ?_
  refine wp_getfield q209_1 (by rfl) (by rfl) ?_
  refine wp_ireturn q209_4 (by rfl) (by rfl) ?_
  refine wK_v ?_
  refine wp_iload qL_1919 (by rfl) ?_
  refine wp_ict (t := 1926) qL_1921 (by rfl) (by rfl) ?_
  refine wp_iload qL_1926 (by rfl) ?_
  refine wp_ift (t := 1943) qL_1928 (by rfl) (by rfl) ?_
  refine wp_goto (t := 3983) qL_1943 (by rfl) ?_
  refine wp_iinc qL_3983 (by rfl) (Nat.le_of_ble_eq_true rfl) ?_
  refine wp_goto (t := 28) qL_3986 (by rfl) ?_
  refine wp_iload qL_28 (by rfl) ?_
  refine wp_aload_ns qL_30 (by rfl) ?_
  refine wp_slen (n := 5) qL_31 rfl ?_
  refine wp_iconst qL_32 ?_
  refine wp_isub qL_33 ?_
  refine wp_ict (t := 3989) qL_34 (by rfl) (by rfl) ?_
  refine wp_iconst qL_3989 ?_
  refine wp_ireturn qL_3990 (by rfl) (by rfl) ?_
  rfl
theorem pt_26_8 {x0 x1 x2 x3 x4 : Int32} (e0 : x0 &&& 63 = Int32.ofNat 26) (e1 : sC1 .eq x3 = false) (e2 : sC2 .lt x1 (1) = false) (e3 : sC2 .gt x1 (65535) = true) (e4 : sC1 .eq x3 = false) (e5 : sC2 .lt x1 (1) = false) (e6 : sC2 .gt x1 (65535) = true) : wLaw [x0, x1, x2, x3, x4] := by
  unfold wLaw
  refine wp_iload qL_28 (by rfl) ?_
  refine wp_aload_ns qL_30 (by rfl) ?_
  refine wp_slen (n := 5) qL_31 rfl ?_
  refine wp_iconst qL_32 ?_
  refine wp_isub qL_33 ?_
  refine wp_icf (t := 3989) qL_34 (by rfl) (by rfl) ?_
  refine wp_aload_ns qL_37 (by rfl) ?_
  refine wp_iload qL_38 (by rfl) ?_
  refine wp_sload (x := x0) qL_40 (by rfl) (by rfl) ?_
  refine wp_bipush qL_41 ?_
  refine wp_iand qL_43 ?_
  refine wp_switch (t := 1850) qL_44 e0 (by rfl) ?_
  refine wp_aload_n qL_1850 (by rfl) ?_
  refine wp_aload_ns qL_1851 (by rfl) ?_
  refine wp_iload qL_1852 (by rfl) ?_
  refine wp_iconst qL_1854 ?_
  refine wp_iadd qL_1855 ?_
  refine wp_sload (x := x1) qL_1856 (by rfl) (by rfl) ?_
  refine wp_aload_ns qL_1857 (by rfl) ?_
  refine wp_iload qL_1858 (by rfl) ?_
  refine wp_iconst qL_1860 ?_
  refine wp_iadd qL_1861 ?_
  refine wp_sload (x := x2) qL_1862 (by rfl) (by rfl) ?_
  refine wp_aload_ns qL_1863 (by rfl) ?_
  refine wp_iload qL_1864 (by rfl) ?_
  refine wp_iconst qL_1866 ?_
  refine wp_iadd qL_1867 ?_
  refine wp_sload (x := x3) qL_1868 (by rfl) (by rfl) ?_
  refine wp_iff (t := 1876) qL_1869 e1 (by rfl) ?_
  refine wp_iconst qL_1872 ?_
  refine wp_goto (t := 1877) qL_1873 (by rfl) ?_
  refine wp_aload_n qL_1877 (by rfl) ?_
  refine wp_static qL_1878 (by decide) (Nat.le_of_ble_eq_true rfl) (by rfl) (by rfl) ⟨(Nat.le_of_ble_eq_true rfl), (Nat.le_of_ble_eq_true rfl), (Nat.le_of_ble_eq_true rfl)⟩ (Nat.le_of_ble_eq_true rfl) ?_
  refine wp_aload q129_0 (by rfl) ?_
  refine wp_iconst q129_2 ?_
  refine wp_aload_n q129_3 (by rfl) ?_
  refine wp_iload_n q129_4 (by rfl) ?_
  refine wp_iload_n q129_5 (by rfl) ?_
  refine wp_iload_n q129_6 (by rfl) ?_
  refine wp_virtual q129_7 (by decide) (Nat.le_of_ble_eq_true rfl) (by rfl) (by rfl) (by rfl) ⟨(Nat.le_of_ble_eq_true rfl), (Nat.le_of_ble_eq_true rfl), (Nat.le_of_ble_eq_true rfl)⟩ (Nat.le_of_ble_eq_true rfl) ?_
  refine wp_iload_n q130_0 (by rfl) ?_
  refine wp_iconst q130_1 ?_
  refine wp_hp q130_2 rfl (by rfl) ?_
  refine wp_static q130_5 (by decide) (Nat.le_of_ble_eq_true rfl) (by rfl) (by rfl) ⟨(Nat.le_of_ble_eq_true rfl), (Nat.le_of_ble_eq_true rfl), (Nat.le_of_ble_eq_true rfl)⟩ (Nat.le_of_ble_eq_true rfl) ?_
  refine wp_iload_n q47_0 (by rfl) ?_
  refine wp_iload_n q47_1 (by rfl) ?_
  refine wp_icf (t := 14) q47_2 e2 (by rfl) ?_
  refine wp_iload_n q47_5 (by rfl) ?_
  refine wp_iload_n q47_6 (by rfl) ?_
  refine wp_ict (t := 14) q47_7 e3 (by rfl) ?_
  refine wp_iconst q47_14 ?_
  refine wp_ireturn q47_15 (by rfl) (by rfl) ?_
  refine wK_v ?_
  refine wp_ift (t := 22) q130_8 (by rfl) (by rfl) ?_
  refine wp_throw q130_22 (by decide) ⟨(Nat.le_of_ble_eq_true rfl), (Nat.le_of_ble_eq_true rfl), (Nat.le_of_ble_eq_true rfl)⟩ ?_
  refine wK_c (by rfl) (by rfl) (by decide) (by rfl) ?_
  refine wp_iconst q129_17 ?_
  refine wp_ireturn q129_18 (by rfl) (by rfl) ?_
  refine wK_v ?_
  refine wp_istore qL_1881 (Nat.le_of_ble_eq_true rfl) ?_
  refine wp_aload_n qL_1883 (by rfl) ?_
  refine wp_aload_ns qL_1884 (by rfl) ?_
  refine wp_iload qL_1885 (by rfl) ?_
  refine wp_iconst qL_1887 ?_
  refine wp_iadd qL_1888 ?_
  refine wp_sload (x := x1) qL_1889 (by rfl) (by rfl) ?_
  refine wp_aload_ns qL_1890 (by rfl) ?_
  refine wp_iload qL_1891 (by rfl) ?_
  refine wp_iconst qL_1893 ?_
  refine wp_iadd qL_1894 ?_
  refine wp_sload (x := x2) qL_1895 (by rfl) (by rfl) ?_
  refine wp_aload_ns qL_1896 (by rfl) ?_
  refine wp_iload qL_1897 (by rfl) ?_
  refine wp_iconst qL_1899 ?_
  refine wp_iadd qL_1900 ?_
  refine wp_sload (x := x3) qL_1901 (by rfl) (by rfl) ?_
  refine wp_iff (t := 1909) qL_1902 e4 (by rfl) ?_
  refine wp_iconst qL_1905 ?_
  refine wp_goto (t := 1910) qL_1906 (by rfl) ?_
  refine wp_virtual qL_1910 (by decide) (Nat.le_of_ble_eq_true rfl) (by rfl) (by rfl) (by rfl) ⟨(Nat.le_of_ble_eq_true rfl), (Nat.le_of_ble_eq_true rfl), (Nat.le_of_ble_eq_true rfl)⟩ (Nat.le_of_ble_eq_true rfl) ?_
  refine wp_aload_n q264_0 (by rfl) ?_
  refine wp_iload_n q264_1 (by rfl) ?_
  refine wp_iconst q264_2 ?_
  refine wp_hp q264_3 rfl (by rfl) ?_
  refine wp_static q264_5 (by decide) (Nat.le_of_ble_eq_true rfl) (by rfl) (by rfl) ⟨(Nat.le_of_ble_eq_true rfl), (Nat.le_of_ble_eq_true rfl), (Nat.le_of_ble_eq_true rfl)⟩ (Nat.le_of_ble_eq_true rfl) ?_
  refine wp_iload_n q211_0 (by rfl) ?_
  refine wp_iload_n q211_1 (by rfl) ?_
  refine wp_icf (t := 14) q211_2 e5 (by rfl) ?_
  refine wp_iload_n q211_5 (by rfl) ?_
  refine wp_iload_n q211_6 (by rfl) ?_
  refine wp_ict (t := 14) q211_7 e6 (by rfl) ?_
  refine wp_iconst q211_14 ?_
  refine wp_ireturn q211_15 (by rfl) (by rfl) ?_
  refine wK_v ?_
  refine wp_ift (t := 22) q264_8 (by rfl) (by rfl) ?_
  refine wp_iconst q264_22 ?_
  refine wp_goto (t := 40) q264_23 (by rfl) ?_
  refine wp_putfield q264_40 (by rfl) (Nat.le_of_ble_eq_true rfl) (by rfl) ?_
  refine wp_aload_n q264_43 (by rfl) ?_
  refine wp_getfield q264_44 (by rfl) (by rfl) ?_
  refine wp_iff (t := 52) q264_47 (by rfl) (by rfl) ?_
  refine wp_iconst q264_50 ?_
  refine wp_ireturn q264_51 (by rfl) (by rfl) ?_
  refine wK_v ?_
  refine wp_istore qL_1913 (Nat.le_of_ble_eq_true rfl) ?_
  refine wp_aload_n qL_1915 (by rfl) ?_
  refine wp_virtual qL_1916 (by decide) (Nat.le_of_ble_eq_true rfl) (by rfl) (by rfl) (by rfl) ⟨(Nat.le_of_ble_eq_true rfl), (Nat.le_of_ble_eq_true rfl), (Nat.le_of_ble_eq_true rfl)⟩ (Nat.le_of_ble_eq_true rfl) ?_
  refine wp_aload_n q209_0 (by rfl) ?_
  refine wp_getfield q209_1 (by rfl) (by rfl) ?_
  refine wp_ireturn q209_4 (by rfl) (by rfl) ?_
  refine wK_v ?_
  refine wp_iload qL_1919 (by rfl) ?_
  refine wp_ict (t := 1926) qL_1921 (by rfl) (by rfl) ?_
  refine wp_iload qL_1926 (by rfl) ?_
  refine wp_ift (t := 1943) qL_1928 (by rfl) (by rfl) ?_
  refine wp_goto (t := 3983) qL_1943 (by rfl) ?_
  refine wp_iinc qL_3983 (by rfl) (Nat.le_of_ble_eq_true rfl) ?_
  refine wp_goto (t := 28) qL_3986 (by rfl) ?_
  refine wp_iload qL_28 (by rfl) ?_
  refine wp_aload_ns qL_30 (by rfl) ?_
  refine wp_slen (n := 5) qL_31 rfl ?_
  refine wp_iconst qL_32 ?_
  refine wp_isub qL_33 ?_
  refine wp_ict (t := 3989) qL_34 (by rfl) (by rfl) ?_
  refine wp_iconst qL_3989 ?_
  refine wp_ireturn qL_3990 (by rfl) (by rfl) ?_
  rfl
theorem pt_26_9 {x0 x1 x2 x3 x4 : Int32} (e0 : x0 &&& 63 = Int32.ofNat 26) (e1 : sC1 .eq x3 = true) (e2 : sC2 .lt x1 (1) = false) (e3 : sC2 .gt x1 (65535) = true) (e4 : sC1 .eq x3 = true) (e5 : sC2 .lt x1 (1) = false) (e6 : sC2 .gt x1 (65535) = true) : wLaw [x0, x1, x2, x3, x4] := by
  unfold wLaw
  refine wp_iload qL_28 (by rfl) ?_
  refine wp_aload_ns qL_30 (by rfl) ?_
  refine wp_slen (n := 5) qL_31 rfl ?_
  refine wp_iconst qL_32 ?_
  refine wp_isub qL_33 ?_
  refine wp_icf (t := 3989) qL_34 (by rfl) (by rfl) ?_
  refine wp_aload_ns qL_37 (by rfl) ?_
  refine wp_iload qL_38 (by rfl) ?_
  refine wp_sload (x := x0) qL_40 (by rfl) (by rfl) ?_
  refine wp_bipush qL_41 ?_
  refine wp_iand qL_43 ?_
  refine wp_switch (t := 1850) qL_44 e0 (by rfl) ?_
  refine wp_aload_n qL_1850 (by rfl) ?_
  refine wp_aload_ns qL_1851 (by rfl) ?_
  refine wp_iload qL_1852 (by rfl) ?_
  refine wp_iconst qL_1854 ?_
  refine wp_iadd qL_1855 ?_
  refine wp_sload (x := x1) qL_1856 (by rfl) (by rfl) ?_
  refine wp_aload_ns qL_1857 (by rfl) ?_
  refine wp_iload qL_1858 (by rfl) ?_
  refine wp_iconst qL_1860 ?_
  refine wp_iadd qL_1861 ?_
  refine wp_sload (x := x2) qL_1862 (by rfl) (by rfl) ?_
  refine wp_aload_ns qL_1863 (by rfl) ?_
  refine wp_iload qL_1864 (by rfl) ?_
  refine wp_iconst qL_1866 ?_
  refine wp_iadd qL_1867 ?_
  refine wp_sload (x := x3) qL_1868 (by rfl) (by rfl) ?_
  refine wp_ift (t := 1876) qL_1869 e1 (by rfl) ?_
  refine wp_iconst qL_1876 ?_
  refine wp_aload_n qL_1877 (by rfl) ?_
  refine wp_static qL_1878 (by decide) (Nat.le_of_ble_eq_true rfl) (by rfl) (by rfl) ⟨(Nat.le_of_ble_eq_true rfl), (Nat.le_of_ble_eq_true rfl), (Nat.le_of_ble_eq_true rfl)⟩ (Nat.le_of_ble_eq_true rfl) ?_
  refine wp_aload q129_0 (by rfl) ?_
  refine wp_iconst q129_2 ?_
  refine wp_aload_n q129_3 (by rfl) ?_
  refine wp_iload_n q129_4 (by rfl) ?_
  refine wp_iload_n q129_5 (by rfl) ?_
  refine wp_iload_n q129_6 (by rfl) ?_
  refine wp_virtual q129_7 (by decide) (Nat.le_of_ble_eq_true rfl) (by rfl) (by rfl) (by rfl) ⟨(Nat.le_of_ble_eq_true rfl), (Nat.le_of_ble_eq_true rfl), (Nat.le_of_ble_eq_true rfl)⟩ (Nat.le_of_ble_eq_true rfl) ?_
  refine wp_iload_n q130_0 (by rfl) ?_
  refine wp_iconst q130_1 ?_
  refine wp_hp q130_2 rfl (by rfl) ?_
  refine wp_static q130_5 (by decide) (Nat.le_of_ble_eq_true rfl) (by rfl) (by rfl) ⟨(Nat.le_of_ble_eq_true rfl), (Nat.le_of_ble_eq_true rfl), (Nat.le_of_ble_eq_true rfl)⟩ (Nat.le_of_ble_eq_true rfl) ?_
  refine wp_iload_n q47_0 (by rfl) ?_
  refine wp_iload_n q47_1 (by rfl) ?_
  refine wp_icf (t := 14) q47_2 e2 (by rfl) ?_
  refine wp_iload_n q47_5 (by rfl) ?_
  refine wp_iload_n q47_6 (by rfl) ?_
  refine wp_ict (t := 14) q47_7 e3 (by rfl) ?_
  refine wp_iconst q47_14 ?_
  refine wp_ireturn q47_15 (by rfl) (by rfl) ?_
  refine wK_v ?_
  refine wp_ift (t := 22) q130_8 (by rfl) (by rfl) ?_
  refine wp_throw q130_22 (by decide) ⟨(Nat.le_of_ble_eq_true rfl), (Nat.le_of_ble_eq_true rfl), (Nat.le_of_ble_eq_true rfl)⟩ ?_
  refine wK_c (by rfl) (by rfl) (by decide) (by rfl) ?_
  refine wp_iconst q129_17 ?_
  refine wp_ireturn q129_18 (by rfl) (by rfl) ?_
  refine wK_v ?_
  refine wp_istore qL_1881 (Nat.le_of_ble_eq_true rfl) ?_
  refine wp_aload_n qL_1883 (by rfl) ?_
  refine wp_aload_ns qL_1884 (by rfl) ?_
  refine wp_iload qL_1885 (by rfl) ?_
  refine wp_iconst qL_1887 ?_
  refine wp_iadd qL_1888 ?_
  refine wp_sload (x := x1) qL_1889 (by rfl) (by rfl) ?_
  refine wp_aload_ns qL_1890 (by rfl) ?_
  refine wp_iload qL_1891 (by rfl) ?_
  refine wp_iconst qL_1893 ?_
  refine wp_iadd qL_1894 ?_
  refine wp_sload (x := x2) qL_1895 (by rfl) (by rfl) ?_
  refine wp_aload_ns qL_1896 (by rfl) ?_
  refine wp_iload qL_1897 (by rfl) ?_
  refine wp_iconst qL_1899 ?_
  refine wp_iadd qL_1900 ?_
  refine wp_sload (x := x3) qL_1901 (by rfl) (by rfl) ?_
  refine wp_ift (t := 1909) qL_1902 e4 (by rfl) ?_
  refine wp_iconst qL_1909 ?_
  refine wp_virtual qL_1910 (by decide) (Nat.le_of_ble_eq_true rfl) (by rfl) (by rfl) (by rfl) ⟨(Nat.le_of_ble_eq_true rfl), (Nat.le_of_ble_eq_true rfl), (Nat.le_of_ble_eq_true rfl)⟩ (Nat.le_of_ble_eq_true rfl) ?_
  refine wp_aload_n q264_0 (by rfl) ?_
  refine wp_iload_n q264_1 (by rfl) ?_
  refine wp_iconst q264_2 ?_
  refine wp_hp q264_3 rfl (by rfl) ?_
  refine wp_static q264_5 (by decide) (Nat.le_of_ble_eq_true rfl) (by rfl) (by rfl) ⟨(Nat.le_of_ble_eq_true rfl), (Nat.le_of_ble_eq_true rfl), (Nat.le_of_ble_eq_true rfl)⟩ (Nat.le_of_ble_eq_true rfl) ?_
  refine wp_iload_n q211_0 (by rfl) ?_
  refine wp_iload_n q211_1 (by rfl) ?_
  refine wp_icf (t := 14) q211_2 e5 (by rfl) ?_
  refine wp_iload_n q211_5 (by rfl) ?_
  refine wp_iload_n q211_6 (by rfl) ?_
  refine wp_ict (t := 14) q211_7 e6 (by rfl) ?_
  refine wp_iconst q211_14 ?_
  refine wp_ireturn q211_15 (by rfl) (by rfl) ?_
  refine wK_v ?_
  refine wp_ift (t := 22) q264_8 (by rfl) (by rfl) ?_
  refine wp_iconst q264_22 ?_
  refine wp_goto (t := 40) q264_23 (by rfl) ?_
  refine wp_putfield q264_40 (by rfl) (Nat.le_of_ble_eq_true rfl) (by rfl) ?_
  refine wp_aload_n q264_43 (by rfl) ?_
  refine wp_getfield q264_44 (by rfl) (by rfl) ?_
  refine wp_iff (t := 52) q264_47 (by rfl) (by rfl) ?_
  refine wp_iconst q264_50 ?_
  refine wp_ireturn q264_51 (by rfl) (by rfl) ?_
  refine wK_v ?_
  refine wp_istore qL_1913 (Nat.le_of_ble_eq_true rfl) ?_
  refine wp_aload_n qL_1915 (by rfl) ?_
  refine wp_virtual qL_1916 (by decide) (Nat.le_of_ble_eq_true rfl) (by rfl) (by rfl) (by rfl) ⟨(Nat.le_of_ble_eq_true rfl), (Nat.le_of_ble_eq_true rfl), (Nat.le_of_ble_eq_true rfl)⟩ (Nat.le_of_ble_eq_true rfl) ?_
  refine wp_aload_n q209_0 (by rfl) ?_
  refine wp_getfield q209_1 (by rfl) (by rfl) ?_
  refine wp_ireturn q209_4 (by rfl) (by rfl) ?_
  refine wK_v ?_
  refine wp_iload qL_1919 (by rfl) ?_
  refine wp_ict (t := 1926) qL_1921 (by rfl) (by rfl) ?_
  refine wp_iload qL_1926 (by rfl) ?_
  refine wp_ift (t := 1943) qL_1928 (by rfl) (by rfl) ?_
  refine wp_goto (t := 3983) qL_1943 (by rfl) ?_
  refine wp_iinc qL_3983 (by rfl) (Nat.le_of_ble_eq_true rfl) ?_
  refine wp_goto (t := 28) qL_3986 (by rfl) ?_
  refine wp_iload qL_28 (by rfl) ?_
  refine wp_aload_ns qL_30 (by rfl) ?_
  refine wp_slen (n := 5) qL_31 rfl ?_
  refine wp_iconst qL_32 ?_
  refine wp_isub qL_33 ?_
  refine wp_ict (t := 3989) qL_34 (by rfl) (by rfl) ?_
  refine wp_iconst qL_3989 ?_
  refine wp_ireturn qL_3990 (by rfl) (by rfl) ?_
  rfl
theorem pt_27_0 {x0 x1 x2 x3 x4 : Int32} (e0 : x0 &&& 63 = Int32.ofNat 27) : wLaw [x0, x1, x2, x3, x4] := by
  unfold wLaw
  refine wp_iload qL_28 (by rfl) ?_
  refine wp_aload_ns qL_30 (by rfl) ?_
  refine wp_slen (n := 5) qL_31 rfl ?_
  refine wp_iconst qL_32 ?_
  refine wp_isub qL_33 ?_
  refine wp_icf (t := 3989) qL_34 (by rfl) (by rfl) ?_
  refine wp_aload_ns qL_37 (by rfl) ?_
  refine wp_iload qL_38 (by rfl) ?_
  refine wp_sload (x := x0) qL_40 (by rfl) (by rfl) ?_
  refine wp_bipush qL_41 ?_
  refine wp_iand qL_43 ?_
  refine wp_switch (t := 1946) qL_44 e0 (by rfl) ?_
  refine wp_aload_n qL_1946 (by rfl) ?_
  refine wp_virtual qL_1947 (by decide) (Nat.le_of_ble_eq_true rfl) (by rfl) (by rfl) (by rfl) ⟨(Nat.le_of_ble_eq_true rfl), (Nat.le_of_ble_eq_true rfl), (Nat.le_of_ble_eq_true rfl)⟩ (Nat.le_of_ble_eq_true rfl) ?_
  refine wp_iconst q25_0 ?_
  refine wp_istore_n q25_1 (Nat.le_of_ble_eq_true rfl) ?_
  refine wp_iconst q25_2 ?_
  refine wp_istore_n q25_3 (Nat.le_of_ble_eq_true rfl) ?_
  refine wp_iload_n q25_4 (by rfl) ?_
  refine wp_aload_n q25_5 (by rfl) ?_
  refine wp_getfield q25_6 (by rfl) (by rfl) ?_
  refine wp_ict (t := 46) q25_9 (by rfl) (by rfl) ?_
  refine wp_iload_n q25_46 (by rfl) ?_
  refine wp_ireturn q25_47 (by rfl) (by rfl) ?_
  refine wK_v ?_
  refine wp_aload_n qL_1950 (by rfl) ?_
  refine wp_virtual qL_1951 (by decide) (Nat.le_of_ble_eq_true rfl) (by rfl) (by rfl) (by rfl) ⟨(Nat.le_of_ble_eq_true rfl), (Nat.le_of_ble_eq_true rfl), (Nat.le_of_ble_eq_true rfl)⟩ (Nat.le_of_ble_eq_true rfl) ?_
  refine wp_aload_n q265_0 (by rfl) ?_
  refine wp_iconst q265_1 ?_
  refine wp_putfield q265_2 (by rfl) (Nat.le_of_ble_eq_true rfl) (by rfl) ?_
  refine wp_iconst q265_5 ?_
  refine wp_istore_n q265_6 (Nat.le_of_ble_eq_true rfl) ?_
  refine wp_iconst q265_7 ?_
  refine wp_istore_n q265_8 (Nat.le_of_ble_eq_true rfl) ?_
  refine wp_iload_n q265_9 (by rfl) ?_
  refine wp_aload_n q265_10 (by rfl) ?_
  refine wp_getfield q265_11 (by rfl) (by rfl) ?_
  refine wp_ict (t := 153) q265_14 (by rfl) (by rfl) ?_
  refine wp_iload_n q265_153 (by rfl) ?_
  refine wp_ireturn q265_154 (by rfl) (by rfl) ?_
  refine wK_v ?_
  refine wp_ict (t := 3983) qL_1954 (by rfl) (by rfl) ?_
  refine wp_iinc qL_3983 (by rfl) (Nat.le_of_ble_eq_true rfl) ?_
  refine wp_goto (t := 28) qL_3986 (by rfl) ?_
  refine wp_iload qL_28 (by rfl) ?_
  refine wp_aload_ns qL_30 (by rfl) ?_
  refine wp_slen (n := 5) qL_31 rfl ?_
  refine wp_iconst qL_32 ?_
  refine wp_isub qL_33 ?_
  refine wp_ict (t := 3989) qL_34 (by rfl) (by rfl) ?_
  refine wp_iconst qL_3989 ?_
  refine wp_ireturn qL_3990 (by rfl) (by rfl) ?_
  rfl
theorem pt_28_0 {x0 x1 x2 x3 x4 : Int32} (e0 : x0 &&& 63 = Int32.ofNat 28) : wLaw [x0, x1, x2, x3, x4] := by
  unfold wLaw
  refine wp_iload qL_28 (by rfl) ?_
  refine wp_aload_ns qL_30 (by rfl) ?_
  refine wp_slen (n := 5) qL_31 rfl ?_
  refine wp_iconst qL_32 ?_
  refine wp_isub qL_33 ?_
  refine wp_icf (t := 3989) qL_34 (by rfl) (by rfl) ?_
  refine wp_aload_ns qL_37 (by rfl) ?_
  refine wp_iload qL_38 (by rfl) ?_
  refine wp_sload (x := x0) qL_40 (by rfl) (by rfl) ?_
  refine wp_bipush qL_41 ?_
  refine wp_iand qL_43 ?_
  refine wp_switch (t := 1959) qL_44 e0 (by rfl) ?_
  refine wp_aload_n qL_1959 (by rfl) ?_
  refine wp_aload_n qL_1960 (by rfl) ?_
  refine wp_static qL_1961 (by decide) (Nat.le_of_ble_eq_true rfl) (by rfl) (by rfl) ⟨(Nat.le_of_ble_eq_true rfl), (Nat.le_of_ble_eq_true rfl), (Nat.le_of_ble_eq_true rfl)⟩ (Nat.le_of_ble_eq_true rfl) ?_
  refine wp_aload_n q131_0 (by rfl) ?_
  refine wp_iconst q131_1 ?_
  refine wp_aload_n q131_2 (by rfl) ?_
  refine wp_virtual q131_3 (by decide) (Nat.le_of_ble_eq_true rfl) (by rfl) (by rfl) (by rfl) ⟨(Nat.le_of_ble_eq_true rfl), (Nat.le_of_ble_eq_true rfl), (Nat.le_of_ble_eq_true rfl)⟩ (Nat.le_of_ble_eq_true rfl) ?_
  refine wp_aload_n q132_0 (by rfl) ?_
  refine wp_getfield q132_1 (by rfl) (by rfl) ?_
  refine wp_getfield q132_4 (by rfl) (by rfl) ?_
  refine wp_iff (t := 21) q132_7 (by rfl) (by rfl) ?_
  refine wp_throw q132_10 (by decide) ⟨(Nat.le_of_ble_eq_true rfl), (Nat.le_of_ble_eq_true rfl), (Nat.le_of_ble_eq_true rfl)⟩ ?_
  refine wK_c (by rfl) (by rfl) (by decide) (by rfl) ?_
  refine wp_iconst q131_12 ?_
  refine wp_ireturn q131_13 (by rfl) (by rfl) ?_
  refine wK_v ?_
  refine wp_istore qL_1964 (Nat.le_of_ble_eq_true rfl) ?_
  refine wp_aload_n qL_1966 (by rfl) ?_
  refine wp_virtual qL_1967 (by decide) (Nat.le_of_ble_eq_true rfl) (by rfl) (by rfl) (by rfl) ⟨(Nat.le_of_ble_eq_true rfl), (Nat.le_of_ble_eq_true rfl), (Nat.le_of_ble_eq_true rfl)⟩ (Nat.le_of_ble_eq_true rfl) ?_
  refine wp_iconst q266_0 ?_
  refine wp_istore_n q266_1 (Nat.le_of_ble_eq_true rfl) ?_
  refine wp_iconst q266_2 ?_
  refine wp_istore_n q266_3 (Nat.le_of_ble_eq_true rfl) ?_
  refine wp_iload_n q266_4 (by rfl) ?_
  refine wp_aload_n q266_5 (by rfl) ?_
  refine wp_getfield q266_6 (by rfl) (by rfl) ?_
  refine wp_ict (t := 95) q266_9 (by rfl) (by rfl) ?_
  refine wp_aload_n q266_95 (by rfl) ?_
  refine wp_aload_n q266_96 (by rfl) ?_
  refine wp_getfield q266_97 (by rfl) (by rfl) ?_
  refine wp_iff (t := 107) q266_100 (by rfl) (by rfl) ?_
  refine wp_iconst q266_103 ?_
  refine wp_goto (t := 128) q266_104 (by rfl) ?_
  refine wp_putfield q266_128 (by rfl) (Nat.le_of_ble_eq_true rfl) (by rfl) ?_
  refine wp_aload_n q266_131 (by rfl) ?_
  refine wp_getfield q266_132 (by rfl) (by rfl) ?_
  refine wp_iff (t := 140) q266_135 (by rfl) (by rfl) ?_
  refine wp_iconst q266_138 ?_
  refine wp_ireturn q266_139 (by rfl) (by rfl) ?_
  refine wK_v ?_
  refine wp_istore qL_1970 (Nat.le_of_ble_eq_true rfl) ?_
  refine wp_aload_n qL_1972 (by rfl) ?_
  refine wp_virtual qL_1973 (by decide) (Nat.le_of_ble_eq_true rfl) (by rfl) (by rfl) (by rfl) ⟨(Nat.le_of_ble_eq_true rfl), (Nat.le_of_ble_eq_true rfl), (Nat.le_of_ble_eq_true rfl)⟩ (Nat.le_of_ble_eq_true rfl) ?_
  refine wp_aload_n q209_0 (by rfl) ?_
  refine wp_getfield q209_1 (by rfl) (by rfl) ?_
  refine wp_ireturn q209_4 (by rfl) (by rfl) ?_
  refine wK_v ?_
  refine wp_iload qL_1976 (by rfl) ?_
  refine wp_ict (t := 1983) qL_1978 (by rfl) (by rfl) ?_
  refine wp_iload qL_1983 (by rfl) ?_
  refine wp_ift (t := 2000) qL_1985 (by rfl) (by rfl) ?_
  refine wp_goto (t := 3983) qL_2000 (by rfl) ?_
  refine wp_iinc qL_3983 (by rfl) (Nat.le_of_ble_eq_true rfl) ?_
  refine wp_goto (t := 28) qL_3986 (by rfl) ?_
  refine wp_iload qL_28 (by rfl) ?_
  refine wp_aload_ns qL_30 (by rfl) ?_
  refine wp_slen (n := 5) qL_31 rfl ?_
  refine wp_iconst qL_32 ?_
  refine wp_isub qL_33 ?_
  refine wp_ict (t := 3989) qL_34 (by rfl) (by rfl) ?_
  refine wp_iconst qL_3989 ?_
  refine wp_ireturn qL_3990 (by rfl) (by rfl) ?_
  rfl
theorem pt_29_0 {x0 x1 x2 x3 x4 : Int32} (e0 : x0 &&& 63 = Int32.ofNat 29) (e1 : sC2 .lt x1 (0) = true) (e2 : sC2 .lt x1 (0) = true) : wLaw [x0, x1, x2, x3, x4] := by
  unfold wLaw
  refine wp_iload qL_28 (by rfl) ?_
  refine wp_aload_ns qL_30 (by rfl) ?_
  refine wp_slen (n := 5) qL_31 rfl ?_
  refine wp_iconst qL_32 ?_
  refine wp_isub qL_33 ?_
  refine wp_icf (t := 3989) qL_34 (by rfl) (by rfl) ?_
  refine wp_aload_ns qL_37 (by rfl) ?_
  refine wp_iload qL_38 (by rfl) ?_
  refine wp_sload (x := x0) qL_40 (by rfl) (by rfl) ?_
  refine wp_bipush qL_41 ?_
  refine wp_iand qL_43 ?_
  refine wp_switch (t := 2003) qL_44 e0 (by rfl) ?_
  refine wp_aload_n qL_2003 (by rfl) ?_
  refine wp_aload_ns qL_2004 (by rfl) ?_
  refine wp_iload qL_2005 (by rfl) ?_
  refine wp_iconst qL_2007 ?_
  refine wp_iadd qL_2008 ?_
  refine wp_sload (x := x1) qL_2009 (by rfl) (by rfl) ?_
  refine wp_aload_ns qL_2010 (by rfl) ?_
  refine wp_iload qL_2011 (by rfl) ?_
  refine wp_iconst qL_2013 ?_
  refine wp_iadd qL_2014 ?_
  refine wp_sload (x := x2) qL_2015 (by rfl) (by rfl) ?_
  refine wp_aload_n qL_2016 (by rfl) ?_
  refine wp_static qL_2017 (by decide) (Nat.le_of_ble_eq_true rfl) (by rfl) (by rfl) ⟨(Nat.le_of_ble_eq_true rfl), (Nat.le_of_ble_eq_true rfl), (Nat.le_of_ble_eq_true rfl)⟩ (Nat.le_of_ble_eq_true rfl) ?_
  refine wp_aload_n q134_0 (by rfl) ?_
  refine wp_iconst q134_1 ?_
  refine wp_aload_n q134_2 (by rfl) ?_
  refine wp_iload_n q134_3 (by rfl) ?_
  refine wp_iload_n q134_4 (by rfl) ?_
  refine wp_virtual q134_5 (by decide) (Nat.le_of_ble_eq_true rfl) (by rfl) (by rfl) (by rfl) ⟨(Nat.le_of_ble_eq_true rfl), (Nat.le_of_ble_eq_true rfl), (Nat.le_of_ble_eq_true rfl)⟩ (Nat.le_of_ble_eq_true rfl) ?_
  refine wp_iload_n q135_0 (by rfl) ?_
  refine wp_iconst q135_1 ?_
  refine wp_aload_n q135_2 (by rfl) ?_
  refine wp_getfield q135_3 (by rfl) (by rfl) ?_
  refine wp_iconst q135_6 ?_
  refine wp_isub q135_7 ?_
  refine wp_static q135_8 (by decide) (Nat.le_of_ble_eq_true rfl) (by rfl) (by rfl) ⟨(Nat.le_of_ble_eq_true rfl), (Nat.le_of_ble_eq_true rfl), (Nat.le_of_ble_eq_true rfl)⟩ (Nat.le_of_ble_eq_true rfl) ?_
  refine wp_iload_n q47_0 (by rfl) ?_
  refine wp_iload_n q47_1 (by rfl) ?_
  refine wp_ict (t := 14) q47_2 e1 (by rfl) ?_
  refine wp_iconst q47_14 ?_
  refine wp_ireturn q47_15 (by rfl) (by rfl) ?_
  refine wK_v ?_
  refine wp_iff (t := 25) q135_11 (by rfl) (by rfl) ?_
  refine wp_throw q135_14 (by decide) ⟨(Nat.le_of_ble_eq_true rfl), (Nat.le_of_ble_eq_true rfl), (Nat.le_of_ble_eq_true rfl)⟩ ?_
  refine wK_c (by rfl) (by rfl) (by decide) (by rfl) ?_
  refine wp_iconst q134_15 ?_
  refine wp_ireturn q134_16 (by rfl) (by rfl) ?_
  refine wK_v ?_
  refine wp_istore qL_2020 (Nat.le_of_ble_eq_true rfl) ?_
  refine wp_aload_n qL_2022 (by rfl) ?_
  refine wp_aload_ns qL_2023 (by rfl) ?_
  refine wp_iload qL_2024 (by rfl) ?_
  refine wp_iconst qL_2026 ?_
  refine wp_iadd qL_2027 ?_
  refine wp_sload (x := x1) qL_2028 (by rfl) (by rfl) ?_
  refine wp_aload_ns qL_2029 (by rfl) ?_
  refine wp_iload qL_2030 (by rfl) ?_
  refine wp_iconst qL_2032 ?_
  refine wp_iadd qL_2033 ?_
  refine wp_sload (x := x2) qL_2034 (by rfl) (by rfl) ?_
  refine wp_virtual qL_2035 (by decide) (Nat.le_of_ble_eq_true rfl) (by rfl) (by rfl) (by rfl) ⟨(Nat.le_of_ble_eq_true rfl), (Nat.le_of_ble_eq_true rfl), (Nat.le_of_ble_eq_true rfl)⟩ (Nat.le_of_ble_eq_true rfl) ?_
  refine wp_aload_n q267_0 (by rfl) ?_
  refine wp_iload_n q267_1 (by rfl) ?_
  refine wp_iconst q267_2 ?_
  refine wp_aload_n q267_3 (by rfl) ?_
  refine wp_getfield q267_4 (by rfl) (by rfl) ?_
  refine wp_iconst q267_7 ?_
  refine wp_isub q267_8 ?_
  refine wp_static q267_9 (by decide) (Nat.le_of_ble_eq_true rfl) (by rfl) (by rfl) ⟨(Nat.le_of_ble_eq_true rfl), (Nat.le_of_ble_eq_true rfl), (Nat.le_of_ble_eq_true rfl)⟩ (Nat.le_of_ble_eq_true rfl) ?_
  refine wp_iload_n q211_0 (by rfl) ?_
  refine wp_iload_n q211_1 (by rfl) ?_
  refine wp_ict (t := 14) q211_2 e2 (by rfl) ?_
  refine wp_iconst q211_14 ?_
  refine wp_ireturn q211_15 (by rfl) (by rfl) ?_
  refine wK_v ?_
  refine wp_iff (t := 19) q267_12 (by rfl) (by rfl) ?_
  refine wp_iconst q267_15 ?_
  refine wp_goto (t := 66) q267_16 (by rfl) ?_
  refine wp_putfield q267_66 (by rfl) (Nat.le_of_ble_eq_true rfl) (by rfl) ?_
  refine wp_aload_n q267_69 (by rfl) ?_
  refine wp_getfield q267_70 (by rfl) (by rfl) ?_
  refine wp_iff (t := 80) q267_73 (by rfl) (by rfl) ?_
  refine wp_iconst q267_76 ?_
  refine wp_goto (t := 85) q267_77 (by rfl) ?_
  refine wp_ireturn q267_85 (by rfl) (by rfl) ?_
  refine wK_v ?_
  refine wp_istore qL_2038 (Nat.le_of_ble_eq_true rfl) ?_
  refine wp_aload_n qL_2040 (by rfl) ?_
  refine wp_virtual qL_2041 (by decide) (Nat.le_of_ble_eq_true rfl) (by rfl) (by rfl) (by rfl) ⟨(Nat.le_of_ble_eq_true rfl), (Nat.le_of_ble_eq_true rfl), (Nat.le_of_ble_eq_true rfl)⟩ (Nat.le_of_ble_eq_true rfl) ?_
  refine wp_aload_n q209_0 (by rfl) ?_
  refine wp_getfield q209_1 (by rfl) (by rfl) ?_
  refine wp_ireturn q209_4 (by rfl) (by rfl) ?_
  refine wK_v ?_
  refine wp_iload qL_2044 (by rfl) ?_
  refine wp_ict (t := 2051) qL_2046 (by rfl) (by rfl) ?_
  refine wp_iload qL_2051 (by rfl) ?_
  refine wp_ift (t := 2068) qL_2053 (by rfl) (by rfl) ?_
  refine wp_goto (t := 3983) qL_2068 (by rfl) ?_
  refine wp_iinc qL_3983 (by rfl) (Nat.le_of_ble_eq_true rfl) ?_
  refine wp_goto (t := 28) qL_3986 (by rfl) ?_
  refine wp_iload qL_28 (by rfl) ?_
  refine wp_aload_ns qL_30 (by rfl) ?_
  refine wp_slen (n := 5) qL_31 rfl ?_
  refine wp_iconst qL_32 ?_
  refine wp_isub qL_33 ?_
  refine wp_ict (t := 3989) qL_34 (by rfl) (by rfl) ?_
  refine wp_iconst qL_3989 ?_
  refine wp_ireturn qL_3990 (by rfl) (by rfl) ?_
  rfl
theorem pt_29_1 {x0 x1 x2 x3 x4 : Int32} (e0 : x0 &&& 63 = Int32.ofNat 29) (e1 : sC2 .lt x1 (0) = false) (e2 : sC2 .gt x1 (-1) = true) (e3 : sC2 .lt x1 (0) = false) (e4 : sC2 .gt x1 (-1) = true) : wLaw [x0, x1, x2, x3, x4] := by
  unfold wLaw
  refine wp_iload qL_28 (by rfl) ?_
  refine wp_aload_ns qL_30 (by rfl) ?_
  refine wp_slen (n := 5) qL_31 rfl ?_
  refine wp_iconst qL_32 ?_
  refine wp_isub qL_33 ?_
  refine wp_icf (t := 3989) qL_34 (by rfl) (by rfl) ?_
  refine wp_aload_ns qL_37 (by rfl) ?_
  refine wp_iload qL_38 (by rfl) ?_
  refine wp_sload (x := x0) qL_40 (by rfl) (by rfl) ?_
  refine wp_bipush qL_41 ?_
  refine wp_iand qL_43 ?_
  refine wp_switch (t := 2003) qL_44 e0 (by rfl) ?_
  refine wp_aload_n qL_2003 (by rfl) ?_
  refine wp_aload_ns qL_2004 (by rfl) ?_
  refine wp_iload qL_2005 (by rfl) ?_
  refine wp_iconst qL_2007 ?_
  refine wp_iadd qL_2008 ?_
  refine wp_sload (x := x1) qL_2009 (by rfl) (by rfl) ?_
  refine wp_aload_ns qL_2010 (by rfl) ?_
  refine wp_iload qL_2011 (by rfl) ?_
  refine wp_iconst qL_2013 ?_
  refine wp_iadd qL_2014 ?_
  refine wp_sload (x := x2) qL_2015 (by rfl) (by rfl) ?_
  refine wp_aload_n qL_2016 (by rfl) ?_
  refine wp_static qL_2017 (by decide) (Nat.le_of_ble_eq_true rfl) (by rfl) (by rfl) ⟨(Nat.le_of_ble_eq_true rfl), (Nat.le_of_ble_eq_true rfl), (Nat.le_of_ble_eq_true rfl)⟩ (Nat.le_of_ble_eq_true rfl) ?_
  refine wp_aload_n q134_0 (by rfl) ?_
  refine wp_iconst q134_1 ?_
  refine wp_aload_n q134_2 (by rfl) ?_
  refine wp_iload_n q134_3 (by rfl) ?_
  refine wp_iload_n q134_4 (by rfl) ?_
  refine wp_virtual q134_5 (by decide) (Nat.le_of_ble_eq_true rfl) (by rfl) (by rfl) (by rfl) ⟨(Nat.le_of_ble_eq_true rfl), (Nat.le_of_ble_eq_true rfl), (Nat.le_of_ble_eq_true rfl)⟩ (Nat.le_of_ble_eq_true rfl) ?_
  refine wp_iload_n q135_0 (by rfl) ?_
  refine wp_iconst q135_1 ?_
  refine wp_aload_n q135_2 (by rfl) ?_
  refine wp_getfield q135_3 (by rfl) (by rfl) ?_
  refine wp_iconst q135_6 ?_
  refine wp_isub q135_7 ?_
  refine wp_static q135_8 (by decide) (Nat.le_of_ble_eq_true rfl) (by rfl) (by rfl) ⟨(Nat.le_of_ble_eq_true rfl), (Nat.le_of_ble_eq_true rfl), (Nat.le_of_ble_eq_true rfl)⟩ (Nat.le_of_ble_eq_true rfl) ?_
  refine wp_iload_n q47_0 (by rfl) ?_
  refine wp_iload_n q47_1 (by rfl) ?_
  refine wp_icf (t := 14) q47_2 e1 (by rfl) ?_
  refine wp_iload_n q47_5 (by rfl) ?_
  refine wp_iload_n q47_6 (by rfl) ?_
  refine wp_ict (t := 14) q47_7 e2 (by rfl) ?_
  refine wp_iconst q47_14 ?_
  refine wp_ireturn q47_15 (by rfl) (by rfl) ?_
  refine wK_v ?_
  refine wp_iff (t := 25) q135_11 (by rfl) (by rfl) ?_
  refine wp_throw q135_14 (by decide) ⟨(Nat.le_of_ble_eq_true rfl), (Nat.le_of_ble_eq_true rfl), (Nat.le_of_ble_eq_true rfl)⟩ ?_
  refine wK_c (by rfl) (by rfl) (by decide) (by rfl) ?_
  refine wp_iconst q134_15 ?_
  refine wp_ireturn q134_16 (by rfl) (by rfl) ?_
  refine wK_v ?_
  refine wp_istore qL_2020 (Nat.le_of_ble_eq_true rfl) ?_
  refine wp_aload_n qL_2022 (by rfl) ?_
  refine wp_aload_ns qL_2023 (by rfl) ?_
  refine wp_iload qL_2024 (by rfl) ?_
  refine wp_iconst qL_2026 ?_
  refine wp_iadd qL_2027 ?_
  refine wp_sload (x := x1) qL_2028 (by rfl) (by rfl) ?_
  refine wp_aload_ns qL_2029 (by rfl) ?_
  refine wp_iload qL_2030 (by rfl) ?_
  refine wp_iconst qL_2032 ?_
  refine wp_iadd qL_2033 ?_
  refine wp_sload (x := x2) qL_2034 (by rfl) (by rfl) ?_
  refine wp_virtual qL_2035 (by decide) (Nat.le_of_ble_eq_true rfl) (by rfl) (by rfl) (by rfl) ⟨(Nat.le_of_ble_eq_true rfl), (Nat.le_of_ble_eq_true rfl), (Nat.le_of_ble_eq_true rfl)⟩ (Nat.le_of_ble_eq_true rfl) ?_
  refine wp_aload_n q267_0 (by rfl) ?_
  refine wp_iload_n q267_1 (by rfl) ?_
  refine wp_iconst q267_2 ?_
  refine wp_aload_n q267_3 (by rfl) ?_
  refine wp_getfield q267_4 (by rfl) (by rfl) ?_
  refine wp_iconst q267_7 ?_
  refine wp_isub q267_8 ?_
  refine wp_static q267_9 (by decide) (Nat.le_of_ble_eq_true rfl) (by rfl) (by rfl) ⟨(Nat.le_of_ble_eq_true rfl), (Nat.le_of_ble_eq_true rfl), (Nat.le_of_ble_eq_true rfl)⟩ (Nat.le_of_ble_eq_true rfl) ?_
  refine wp_iload_n q211_0 (by rfl) ?_
  refine wp_iload_n q211_1 (by rfl) ?_
  refine wp_icf (t := 14) q211_2 e3 (by rfl) ?_
  refine wp_iload_n q211_5 (by rfl) ?_
  refine wp_iload_n q211_6 (by rfl) ?_
  refine wp_ict (t := 14) q211_7 e4 (by rfl) ?_
  refine wp_iconst q211_14 ?_
  refine wp_ireturn q211_15 (by rfl) (by rfl) ?_
  refine wK_v ?_
  refine wp_iff (t := 19) q267_12 (by rfl) (by rfl) ?_
  refine wp_iconst q267_15 ?_
  refine wp_goto (t := 66) q267_16 (by rfl) ?_
  refine wp_putfield q267_66 (by rfl) (Nat.le_of_ble_eq_true rfl) (by rfl) ?_
  refine wp_aload_n q267_69 (by rfl) ?_
  refine wp_getfield q267_70 (by rfl) (by rfl) ?_
  refine wp_iff (t := 80) q267_73 (by rfl) (by rfl) ?_
  refine wp_iconst q267_76 ?_
  refine wp_goto (t := 85) q267_77 (by rfl) ?_
  refine wp_ireturn q267_85 (by rfl) (by rfl) ?_
  refine wK_v ?_
  refine wp_istore qL_2038 (Nat.le_of_ble_eq_true rfl) ?_
  refine wp_aload_n qL_2040 (by rfl) ?_
  refine wp_virtual qL_2041 (by decide) (Nat.le_of_ble_eq_true rfl) (by rfl) (by rfl) (by rfl) ⟨(Nat.le_of_ble_eq_true rfl), (Nat.le_of_ble_eq_true rfl), (Nat.le_of_ble_eq_true rfl)⟩ (Nat.le_of_ble_eq_true rfl) ?_
  refine wp_aload_n q209_0 (by rfl) ?_
  refine wp_getfield q209_1 (by rfl) (by rfl) ?_
  refine wp_ireturn q209_4 (by rfl) (by rfl) ?_
  refine wK_v ?_
  refine wp_iload qL_2044 (by rfl) ?_
  refine wp_ict (t := 2051) qL_2046 (by rfl) (by rfl) ?_
  refine wp_iload qL_2051 (by rfl) ?_
  refine wp_ift (t := 2068) qL_2053 (by rfl) (by rfl) ?_
  refine wp_goto (t := 3983) qL_2068 (by rfl) ?_
  refine wp_iinc qL_3983 (by rfl) (Nat.le_of_ble_eq_true rfl) ?_
  refine wp_goto (t := 28) qL_3986 (by rfl) ?_
  refine wp_iload qL_28 (by rfl) ?_
  refine wp_aload_ns qL_30 (by rfl) ?_
  refine wp_slen (n := 5) qL_31 rfl ?_
  refine wp_iconst qL_32 ?_
  refine wp_isub qL_33 ?_
  refine wp_ict (t := 3989) qL_34 (by rfl) (by rfl) ?_
  refine wp_iconst qL_3989 ?_
  refine wp_ireturn qL_3990 (by rfl) (by rfl) ?_
  rfl
theorem pt_30_0 {x0 x1 x2 x3 x4 : Int32} (e0 : x0 &&& 63 = Int32.ofNat 30) (e1 : sC1 .lt x1 = true) (e2 : sC2 .lt x1 (0) = true) : wLaw [x0, x1, x2, x3, x4] := by
  unfold wLaw
  refine wp_iload qL_28 (by rfl) ?_
  refine wp_aload_ns qL_30 (by rfl) ?_
  refine wp_slen (n := 5) qL_31 rfl ?_
  refine wp_iconst qL_32 ?_
  refine wp_isub qL_33 ?_
  refine wp_icf (t := 3989) qL_34 (by rfl) (by rfl) ?_
  refine wp_aload_ns qL_37 (by rfl) ?_
  refine wp_iload qL_38 (by rfl) ?_
  refine wp_sload (x := x0) qL_40 (by rfl) (by rfl) ?_
  refine wp_bipush qL_41 ?_
  refine wp_iand qL_43 ?_
  refine wp_switch (t := 2071) qL_44 e0 (by rfl) ?_
  refine wp_aload_n qL_2071 (by rfl) ?_
  refine wp_aload_ns qL_2072 (by rfl) ?_
  refine wp_iload qL_2073 (by rfl) ?_
  refine wp_iconst qL_2075 ?_
  refine wp_iadd qL_2076 ?_
  refine wp_sload (x := x1) qL_2077 (by rfl) (by rfl) ?_
  refine wp_aload_ns qL_2078 (by rfl) ?_
  refine wp_iload qL_2079 (by rfl) ?_
  refine wp_iconst qL_2081 ?_
  refine wp_iadd qL_2082 ?_
  refine wp_sload (x := x2) qL_2083 (by rfl) (by rfl) ?_
  refine wp_aload_n qL_2084 (by rfl) ?_
  refine wp_static qL_2085 (by decide) (Nat.le_of_ble_eq_true rfl) (by rfl) (by rfl) ⟨(Nat.le_of_ble_eq_true rfl), (Nat.le_of_ble_eq_true rfl), (Nat.le_of_ble_eq_true rfl)⟩ (Nat.le_of_ble_eq_true rfl) ?_
  refine wp_aload_n q136_0 (by rfl) ?_
  refine wp_iconst q136_1 ?_
  refine wp_aload_n q136_2 (by rfl) ?_
  refine wp_iload_n q136_3 (by rfl) ?_
  refine wp_iload_n q136_4 (by rfl) ?_
  refine wp_virtual q136_5 (by decide) (Nat.le_of_ble_eq_true rfl) (by rfl) (by rfl) (by rfl) ⟨(Nat.le_of_ble_eq_true rfl), (Nat.le_of_ble_eq_true rfl), (Nat.le_of_ble_eq_true rfl)⟩ (Nat.le_of_ble_eq_true rfl) ?_
  refine wp_aload_n q137_0 (by rfl) ?_
  refine wp_iload_n q137_1 (by rfl) ?_
  refine wp_virtual q137_2 (by decide) (Nat.le_of_ble_eq_true rfl) (by rfl) (by rfl) (by rfl) ⟨(Nat.le_of_ble_eq_true rfl), (Nat.le_of_ble_eq_true rfl), (Nat.le_of_ble_eq_true rfl)⟩ (Nat.le_of_ble_eq_true rfl) ?_
  refine wp_iload_n q67_0 (by rfl) ?_
  refine wp_ift (t := 12) q67_1 e1 (by rfl) ?_
  refine wp_throw q67_12 (by decide) ⟨(Nat.le_of_ble_eq_true rfl), (Nat.le_of_ble_eq_true rfl), (Nat.le_of_ble_eq_true rfl)⟩ ?_
  refine wK_x (by rfl) ?_
  refine wK_c (by rfl) (by rfl) (by decide) (by rfl) ?_
  refine wp_iconst q136_15 ?_
  refine wp_ireturn q136_16 (by rfl) (by rfl) ?_
  refine wK_v ?_
  refine wp_istore qL_2088 (Nat.le_of_ble_eq_true rfl) ?_
  refine wp_aload_n qL_2090 (by rfl) ?_
  refine wp_aload_ns qL_2091 (by rfl) ?_
  refine wp_iload qL_2092 (by rfl) ?_
  refine wp_iconst qL_2094 ?_
  refine wp_iadd qL_2095 ?_
  refine wp_sload (x := x1) qL_2096 (by rfl) (by rfl) ?_
  refine wp_aload_ns qL_2097 (by rfl) ?_
  refine wp_iload qL_2098 (by rfl) ?_
  refine wp_iconst qL_2100 ?_
  refine wp_iadd qL_2101 ?_
  refine wp_sload (x := x2) qL_2102 (by rfl) (by rfl) ?_
  refine wp_virtual qL_2103 (by decide) (Nat.le_of_ble_eq_true rfl) (by rfl) (by rfl) (by rfl) ⟨(Nat.le_of_ble_eq_true rfl), (Nat.le_of_ble_eq_true rfl), (Nat.le_of_ble_eq_true rfl)⟩ (Nat.le_of_ble_eq_true rfl) ?_
  refine wp_aload_n q268_0 (by rfl) ?_
  refine wp_iload_n q268_1 (by rfl) ?_
  refine wp_virtual q268_2 (by decide) (Nat.le_of_ble_eq_true rfl) (by rfl) (by rfl) (by rfl) ⟨(Nat.le_of_ble_eq_true rfl), (Nat.le_of_ble_eq_true rfl), (Nat.le_of_ble_eq_true rfl)⟩ (Nat.le_of_ble_eq_true rfl) ?_
  refine wp_iload_n q223_0 (by rfl) ?_
  refine wp_iconst q223_1 ?_
  refine wp_aload_n q223_2 (by rfl) ?_
  refine wp_getfield q223_3 (by rfl) (by rfl) ?_
  refine wp_iconst q223_6 ?_
  refine wp_isub q223_7 ?_
  refine wp_static q223_8 (by decide) (Nat.le_of_ble_eq_true rfl) (by rfl) (by rfl) ⟨(Nat.le_of_ble_eq_true rfl), (Nat.le_of_ble_eq_true rfl), (Nat.le_of_ble_eq_true rfl)⟩ (Nat.le_of_ble_eq_true rfl) ?_
  refine wp_iload_n q211_0 (by rfl) ?_
  refine wp_iload_n q211_1 (by rfl) ?_
  refine wp_ict (t := 14) q211_2 e2 (by rfl) ?_
  refine wp_iconst q211_14 ?_
  refine wp_ireturn q211_15 (by rfl) (by rfl) ?_
  refine wK_v ?_
  refine wp_ireturn q223_11 (by rfl) (by rfl) ?_
  refine wK_v ?_
  refine wp_ift (t := 20) q268_5 (by rfl) (by rfl) ?_
  refine wp_iconst q268_20 ?_
  refine wp_istore_n q268_21 (Nat.le_of_ble_eq_true rfl) ?_
  refine wp_aload_n q268_22 (by rfl) ?_
  refine wp_iload_n q268_23 (by rfl) ?_
  refine wp_iff (t := 31) q268_24 (by rfl) (by rfl) ?_
  refine wp_iconst q268_27 ?_
  refine wp_goto (t := 54) q268_28 (by rfl) ?_
  refine wp_putfield q268_54 (by rfl) (Nat.le_of_ble_eq_true rfl) (by rfl) ?_
  refine wp_aload_n q268_57 (by rfl) ?_
  refine wp_getfield q268_58 (by rfl) (by rfl) ?_
  refine wp_iff (t := 66) q268_61 (by rfl) (by rfl) ?_
  refine wp_iconst q268_64 ?_
  refine wp_ireturn q268_65 (by rfl) (by rfl) ?_
  refine wK_v ?_
  refine wp_istore qL_2106 (Nat.le_of_ble_eq_true rfl) ?_
  refine wp_aload_n qL_2108 (by rfl) ?_
  refine wp_virtual qL_2109 (by decide) (Nat.le_of_ble_eq_true rfl) (by rfl) (by rfl) (by rfl) ⟨(Nat.le_of_ble_eq_true rfl), (Nat.le_of_ble_eq_true rfl), (Nat.le_of_ble_eq_true rfl)⟩ (Nat.le_of_ble_eq_true rfl) ?_
  refine wp_aload_n q209_0 (by rfl) ?_
  refine wp_getfield q209_1 (by rfl) (by rfl) ?_
  refine wp_ireturn q209_4 (by rfl) (by rfl) ?_
  refine wK_v ?_
  refine wp_iload qL_2112 (by rfl) ?_
  refine wp_ict (t := 2119) qL_2114 (by rfl) (by rfl) ?_
  refine wp_iload qL_2119 (by rfl) ?_
  refine wp_ift (t := 2136) qL_2121 (by rfl) (by rfl) ?_
  refine wp_goto (t := 3983) qL_2136 (by rfl) ?_
  refine wp_iinc qL_3983 (by rfl) (Nat.le_of_ble_eq_true rfl) ?_
  refine wp_goto (t := 28) qL_3986 (by rfl) ?_
  refine wp_iload qL_28 (by rfl) ?_
  refine wp_aload_ns qL_30 (by rfl) ?_
  refine wp_slen (n := 5) qL_31 rfl ?_
  refine wp_iconst qL_32 ?_
  refine wp_isub qL_33 ?_
  refine wp_ict (t := 3989) qL_34 (by rfl) (by rfl) ?_
  refine wp_iconst qL_3989 ?_
  refine wp_ireturn qL_3990 (by rfl) (by rfl) ?_
  rfl
theorem pt_30_1 {x0 x1 x2 x3 x4 : Int32} (e0 : x0 &&& 63 = Int32.ofNat 30) (e1 : sC1 .lt x1 = false) (e2 : sC2 .lt x1 (0) = false) (e3 : sC2 .lt x1 (0) = false) (e4 : sC2 .gt x1 (-1) = true) : wLaw [x0, x1, x2, x3, x4] := by
  unfold wLaw
  refine wp_iload qL_28 (by rfl) ?_
  refine wp_aload_ns qL_30 (by rfl) ?_
  refine wp_slen (n := 5) qL_31 rfl ?_
  refine wp_iconst qL_32 ?_
  refine wp_isub qL_33 ?_
  refine wp_icf (t := 3989) qL_34 (by rfl) (by rfl) ?_
  refine wp_aload_ns qL_37 (by rfl) ?_
  refine wp_iload qL_38 (by rfl) ?_
  refine wp_sload (x := x0) qL_40 (by rfl) (by rfl) ?_
  refine wp_bipush qL_41 ?_
  refine wp_iand qL_43 ?_
  refine wp_switch (t := 2071) qL_44 e0 (by rfl) ?_
  refine wp_aload_n qL_2071 (by rfl) ?_
  refine wp_aload_ns qL_2072 (by rfl) ?_
  refine wp_iload qL_2073 (by rfl) ?_
  refine wp_iconst qL_2075 ?_
  refine wp_iadd qL_2076 ?_
  refine wp_sload (x := x1) qL_2077 (by rfl) (by rfl) ?_
  refine wp_aload_ns qL_2078 (by rfl) ?_
  refine wp_iload qL_2079 (by rfl) ?_
  refine wp_iconst qL_2081 ?_
  refine wp_iadd qL_2082 ?_
  refine wp_sload (x := x2) qL_2083 (by rfl) (by rfl) ?_
  refine wp_aload_n qL_2084 (by rfl) ?_
  refine wp_static qL_2085 (by decide) (Nat.le_of_ble_eq_true rfl) (by rfl) (by rfl) ⟨(Nat.le_of_ble_eq_true rfl), (Nat.le_of_ble_eq_true rfl), (Nat.le_of_ble_eq_true rfl)⟩ (Nat.le_of_ble_eq_true rfl) ?_
  refine wp_aload_n q136_0 (by rfl) ?_
  refine wp_iconst q136_1 ?_
  refine wp_aload_n q136_2 (by rfl) ?_
  refine wp_iload_n q136_3 (by rfl) ?_
  refine wp_iload_n q136_4 (by rfl) ?_
  refine wp_virtual q136_5 (by decide) (Nat.le_of_ble_eq_true rfl) (by rfl) (by rfl) (by rfl) ⟨(Nat.le_of_ble_eq_true rfl), (Nat.le_of_ble_eq_true rfl), (Nat.le_of_ble_eq_true rfl)⟩ (Nat.le_of_ble_eq_true rfl) ?_
  refine wp_aload_n q137_0 (by rfl) ?_
  refine wp_iload_n q137_1 (by rfl) ?_
  refine wp_virtual q137_2 (by decide) (Nat.le_of_ble_eq_true rfl) (by rfl) (by rfl) (by rfl) ⟨(Nat.le_of_ble_eq_true rfl), (Nat.le_of_ble_eq_true rfl), (Nat.le_of_ble_eq_true rfl)⟩ (Nat.le_of_ble_eq_true rfl) ?_
  refine wp_iload_n q67_0 (by rfl) ?_
  refine wp_iff (t := 12) q67_1 e1 (by rfl) ?_
  refine wp_iload_n q67_4 (by rfl) ?_
  refine wp_aload_n q67_5 (by rfl) ?_
  refine wp_getfield q67_6 (by rfl) (by rfl) ?_
  refine wp_icf (t := 23) q67_9 e2 (by rfl) ?_
  refine wp_throw q67_12 (by decide) ⟨(Nat.le_of_ble_eq_true rfl), (Nat.le_of_ble_eq_true rfl), (Nat.le_of_ble_eq_true rfl)⟩ ?_
  refine wK_x (by rfl) ?_
  refine wK_c (by rfl) (by rfl) (by decide) (by rfl) ?_
  refine wp_iconst q136_15 ?_
  refine wp_ireturn q136_16 (by rfl) (by rfl) ?_
  refine wK_v ?_
  refine wp_istore qL_2088 (Nat.le_of_ble_eq_true rfl) ?_
  refine wp_aload_n qL_2090 (by rfl) ?_
  refine wp_aload_ns qL_2091 (by rfl) ?_
  refine wp_iload qL_2092 (by rfl) ?_
  refine wp_iconst qL_2094 ?_
  refine wp_iadd qL_2095 ?_
  refine wp_sload (x := x1) qL_2096 (by rfl) (by rfl) ?_
  refine wp_aload_ns qL_2097 (by rfl) ?_
  refine wp_iload qL_2098 (by rfl) ?_
  refine wp_iconst qL_2100 ?_
  refine wp_iadd qL_2101 ?_
  refine wp_sload (x := x2) qL_2102 (by rfl) (by rfl) ?_
  refine wp_virtual qL_2103 (by decide) (Nat.le_of_ble_eq_true rfl) (by rfl) (by rfl) (by rfl) ⟨(Nat.le_of_ble_eq_true rfl), (Nat.le_of_ble_eq_true rfl), (Nat.le_of_ble_eq_true rfl)⟩ (Nat.le_of_ble_eq_true rfl) ?_
  refine wp_aload_n q268_0 (by rfl) ?_
  refine wp_iload_n q268_1 (by rfl) ?_
  refine wp_virtual q268_2 (by decide) (Nat.le_of_ble_eq_true rfl) (by rfl) (by rfl) (by rfl) ⟨(Nat.le_of_ble_eq_true rfl), (Nat.le_of_ble_eq_true rfl), (Nat.le_of_ble_eq_true rfl)⟩ (Nat.le_of_ble_eq_true rfl) ?_
  refine wp_iload_n q223_0 (by rfl) ?_
  refine wp_iconst q223_1 ?_
  refine wp_aload_n q223_2 (by rfl) ?_
  refine wp_getfield q223_3 (by rfl) (by rfl) ?_
  refine wp_iconst q223_6 ?_
  refine wp_isub q223_7 ?_
  refine wp_static q223_8 (by decide) (Nat.le_of_ble_eq_true rfl) (by rfl) (by rfl) ⟨(Nat.le_of_ble_eq_true rfl), (Nat.le_of_ble_eq_true rfl), (Nat.le_of_ble_eq_true rfl)⟩ (Nat.le_of_ble_eq_true rfl) ?_
  refine wp_iload_n q211_0 (by rfl) ?_
  refine wp_iload_n q211_1 (by rfl) ?_
  refine wp_icf (t := 14) q211_2 e3 (by rfl) ?_
  refine wp_iload_n q211_5 (by rfl) ?_
  refine wp_iload_n q211_6 (by rfl) ?_
  refine wp_ict (t := 14) q211_7 e4 (by rfl) ?_
  refine wp_iconst q211_14 ?_
  refine wp_ireturn q211_15 (by rfl) (by rfl) ?_
  refine wK_v ?_
  refine wp_ireturn q223_11 (by rfl) (by rfl) ?_
  refine wK_v ?_
  refine wp_ift (t := 20) q268_5 (by rfl) (by rfl) ?_
  refine wp_iconst q268_20 ?_
  refine wp_istore_n q268_21 (Nat.le_of_ble_eq_true rfl) ?_
  refine wp_aload_n q268_22 (by rfl) ?_
  refine wp_iload_n q268_23 (by rfl) ?_
  refine wp_iff (t := 31) q268_24 (by rfl) (by rfl) ?_
  refine wp_iconst q268_27 ?_
  refine wp_goto (t := 54) q268_28 (by rfl) ?_
  refine wp_putfield q268_54 (by rfl) (Nat.le_of_ble_eq_true rfl) (by rfl) ?_
  refine wp_aload_n q268_57 (by rfl) ?_
  refine wp_getfield q268_58 (by rfl) (by rfl) ?_
  refine wp_iff (t := 66) q268_61 (by rfl) (by rfl) ?_
  refine wp_iconst q268_64 ?_
  refine wp_ireturn q268_65 (by rfl) (by rfl) ?_
  refine wK_v ?_
  refine wp_istore qL_2106 (Nat.le_of_ble_eq_true rfl) ?_
  refine wp_aload_n qL_2108 (by rfl) ?_
  refine wp_virtual qL_2109 (by decide) (Nat.le_of_ble_eq_true rfl) (by rfl) (by rfl) (by rfl) ⟨(Nat.le_of_ble_eq_true rfl), (Nat.le_of_ble_eq_true rfl), (Nat.le_of_ble_eq_true rfl)⟩ (Nat.le_of_ble_eq_true rfl) ?_
  refine wp_aload_n q209_0 (by rfl) ?_
  refine wp_getfield q209_1 (by rfl) (by rfl) ?_
  refine wp_ireturn q209_4 (by rfl) (by rfl) ?_
  refine wK_v ?_
  refine wp_iload qL_2112 (by rfl) ?_
  refine wp_ict (t := 2119) qL_2114 (by rfl) (by rfl) ?_
  refine wp_iload qL_2119 (by rfl) ?_
  refine wp_ift (t := 2136) qL_2121 (by rfl) (by rfl) ?_
  refine wp_goto (t := 3983) qL_2136 (by rfl) ?_
  refine wp_iinc qL_3983 (by rfl) (Nat.le_of_ble_eq_true rfl) ?_
  refine wp_goto (t := 28) qL_3986 (by rfl) ?_
  refine wp_iload qL_28 (by rfl) ?_
  refine wp_aload_ns qL_30 (by rfl) ?_
  refine wp_slen (n := 5) qL_31 rfl ?_
  refine wp_iconst qL_32 ?_
  refine wp_isub qL_33 ?_
  refine wp_ict (t := 3989) qL_34 (by rfl) (by rfl) ?_
  refine wp_iconst qL_3989 ?_
  refine wp_ireturn qL_3990 (by rfl) (by rfl) ?_
  rfl
theorem pt_31_0 {x0 x1 x2 x3 x4 : Int32} (e0 : x0 &&& 63 = Int32.ofNat 31) (e1 : sC1 .lt x1 = true) (e2 : sC2 .lt x1 (0) = true) : wLaw [x0, x1, x2, x3, x4] := by
  unfold wLaw
  refine wp_iload qL_28 (by rfl) ?_
  refine wp_aload_ns qL_30 (by rfl) ?_
  refine wp_slen (n := 5) qL_31 rfl ?_
  refine wp_iconst qL_32 ?_
  refine wp_isub qL_33 ?_
  refine wp_icf (t := 3989) qL_34 (by rfl) (by rfl) ?_
  refine wp_aload_ns qL_37 (by rfl) ?_
  refine wp_iload qL_38 (by rfl) ?_
  refine wp_sload (x := x0) qL_40 (by rfl) (by rfl) ?_
  refine wp_bipush qL_41 ?_
  refine wp_iand qL_43 ?_
  refine wp_switch (t := 2139) qL_44 e0 (by rfl) ?_
  refine wp_aload_n qL_2139 (by rfl) ?_
  refine wp_aload_ns qL_2140 (by rfl) ?_
  refine wp_iload qL_2141 (by rfl) ?_
  refine wp_iconst qL_2143 ?_
  refine wp_iadd qL_2144 ?_
  refine wp_sload (x := x1) qL_2145 (by rfl) (by rfl) ?_
  refine wp_aload_ns qL_2146 (by rfl) ?_
  refine wp_iload qL_2147 (by rfl) ?_
  refine wp_iconst qL_2149 ?_
  refine wp_iadd qL_2150 ?_
  refine wp_sload (x := x2) qL_2151 (by rfl) (by rfl) ?_
  refine wp_aload_n qL_2152 (by rfl) ?_
  refine wp_static qL_2153 (by decide) (Nat.le_of_ble_eq_true rfl) (by rfl) (by rfl) ⟨(Nat.le_of_ble_eq_true rfl), (Nat.le_of_ble_eq_true rfl), (Nat.le_of_ble_eq_true rfl)⟩ (Nat.le_of_ble_eq_true rfl) ?_
  refine wp_aload_n q138_0 (by rfl) ?_
  refine wp_iconst q138_1 ?_
  refine wp_aload_n q138_2 (by rfl) ?_
  refine wp_iload_n q138_3 (by rfl) ?_
  refine wp_iload_n q138_4 (by rfl) ?_
  refine wp_virtual q138_5 (by decide) (Nat.le_of_ble_eq_true rfl) (by rfl) (by rfl) (by rfl) ⟨(Nat.le_of_ble_eq_true rfl), (Nat.le_of_ble_eq_true rfl), (Nat.le_of_ble_eq_true rfl)⟩ (Nat.le_of_ble_eq_true rfl) ?_
  refine wp_aload_n q139_0 (by rfl) ?_
  refine wp_iload_n q139_1 (by rfl) ?_
  refine wp_virtual q139_2 (by decide) (Nat.le_of_ble_eq_true rfl) (by rfl) (by rfl) (by rfl) ⟨(Nat.le_of_ble_eq_true rfl), (Nat.le_of_ble_eq_true rfl), (Nat.le_of_ble_eq_true rfl)⟩ (Nat.le_of_ble_eq_true rfl) ?_
  refine wp_iload_n q67_0 (by rfl) ?_
  refine wp_ift (t := 12) q67_1 e1 (by rfl) ?_
  refine wp_throw q67_12 (by decide) ⟨(Nat.le_of_ble_eq_true rfl), (Nat.le_of_ble_eq_true rfl), (Nat.le_of_ble_eq_true rfl)⟩ ?_
  refine wK_x (by rfl) ?_
  refine wK_c (by rfl) (by rfl) (by decide) (by rfl) ?_
  refine wp_iconst q138_22 ?_
  refine wp_ireturn q138_23 (by rfl) (by rfl) ?_
  refine wK_v ?_
  refine wp_istore qL_2156 (Nat.le_of_ble_eq_true rfl) ?_
  refine wp_aload_n qL_2158 (by rfl) ?_
  refine wp_aload_ns qL_2159 (by rfl) ?_
  refine wp_iload qL_2160 (by rfl) ?_
  refine wp_iconst qL_2162 ?_
  refine wp_iadd qL_2163 ?_
  refine wp_sload (x := x1) qL_2164 (by rfl) (by rfl) ?_
  refine wp_aload_ns qL_2165 (by rfl) ?_
  refine wp_iload qL_2166 (by rfl) ?_
  refine wp_iconst qL_2168 ?_
  refine wp_iadd qL_2169 ?_
  refine wp_sload (x := x2) qL_2170 (by rfl) (by rfl) ?_
  refine wp_virtual qL_2171 (by decide) (Nat.le_of_ble_eq_true rfl) (by rfl) (by rfl) (by rfl) ⟨(Nat.le_of_ble_eq_true rfl), (Nat.le_of_ble_eq_true rfl), (Nat.le_of_ble_eq_true rfl)⟩ (Nat.le_of_ble_eq_true rfl) ?_
  refine wp_aload_n q269_0 (by rfl) ?_
  refine wp_aload_n q269_1 (by rfl) ?_
  refine wp_iload_n q269_2 (by rfl) ?_
  refine wp_virtual q269_3 (by decide) (Nat.le_of_ble_eq_true rfl) (by rfl) (by rfl) (by rfl) ⟨(Nat.le_of_ble_eq_true rfl), (Nat.le_of_ble_eq_true rfl), (Nat.le_of_ble_eq_true rfl)⟩ (Nat.le_of_ble_eq_true rfl) ?_
  refine wp_iload_n q223_0 (by rfl) ?_
  refine wp_iconst q223_1 ?_
  refine wp_aload_n q223_2 (by rfl) ?_
  refine wp_getfield q223_3 (by rfl) (by rfl) ?_
  refine wp_iconst q223_6 ?_
  refine wp_isub q223_7 ?_
  refine wp_static q223_8 (by decide) (Nat.le_of_ble_eq_true rfl) (by rfl) (by rfl) ⟨(Nat.le_of_ble_eq_true rfl), (Nat.le_of_ble_eq_true rfl), (Nat.le_of_ble_eq_true rfl)⟩ (Nat.le_of_ble_eq_true rfl) ?_
  refine wp_iload_n q211_0 (by rfl) ?_
  refine wp_iload_n q211_1 (by rfl) ?_
  refine wp_ict (t := 14) q211_2 e2 (by rfl) ?_
  refine wp_iconst q211_14 ?_
  refine wp_ireturn q211_15 (by rfl) (by rfl) ?_
  refine wK_v ?_
  refine wp_ireturn q223_11 (by rfl) (by rfl) ?_
  refine wK_v ?_
  refine wp_ift (t := 21) q269_6 (by rfl) (by rfl) ?_
  refine wp_iconst q269_21 ?_
  refine wp_putfield q269_22 (by rfl) (Nat.le_of_ble_eq_true rfl) (by rfl) ?_
  refine wp_aload_n q269_25 (by rfl) ?_
  refine wp_getfield q269_26 (by rfl) (by rfl) ?_
  refine wp_iff (t := 34) q269_29 (by rfl) (by rfl) ?_
  refine wp_iconst q269_32 ?_
  refine wp_ireturn q269_33 (by rfl) (by rfl) ?_
  refine wK_v ?_
  refine wp_istore qL_2174 (Nat.le_of_ble_eq_true rfl) ?_
  refine wp_aload_n qL_2176 (by rfl) ?_
  refine wp_virtual qL_2177 (by decide) (Nat.le_of_ble_eq_true rfl) (by rfl) (by rfl) (by rfl) ⟨(Nat.le_of_ble_eq_true rfl), (Nat.le_of_ble_eq_true rfl), (Nat.le_of_ble_eq_true rfl)⟩ (Nat.le_of_ble_eq_true rfl) ?_
  refine wp_aload_n q209_0 (by rfl) ?_
  refine wp_getfield q209_1 (by rfl) (by rfl) ?_
  refine wp_ireturn q209_4 (by rfl) (by rfl) ?_
  refine wK_v ?_
  refine wp_iload qL_2180 (by rfl) ?_
  refine wp_ict (t := 2187) qL_2182 (by rfl) (by rfl) ?_
  refine wp_iload qL_2187 (by rfl) ?_
  refine wp_ift (t := 2211) qL_2189 (by rfl) (by rfl) ?_
  refine wp_goto (t := 3983) qL_2211 (by rfl) ?_
  refine wp_iinc qL_3983 (by rfl) (Nat.le_of_ble_eq_true rfl) ?_
  refine wp_goto (t := 28) qL_3986 (by rfl) ?_
  refine wp_iload qL_28 (by rfl) ?_
  refine wp_aload_ns qL_30 (by rfl) ?_
  refine wp_slen (n := 5) qL_31 rfl ?_
  refine wp_iconst qL_32 ?_
  refine wp_isub qL_33 ?_
  refine wp_ict (t := 3989) qL_34 (by rfl) (by rfl) ?_
  refine wp_iconst qL_3989 ?_
  refine wp_ireturn qL_3990 (by rfl) (by rfl) ?_
  rfl
theorem pt_31_1 {x0 x1 x2 x3 x4 : Int32} (e0 : x0 &&& 63 = Int32.ofNat 31) (e1 : sC1 .lt x1 = false) (e2 : sC2 .lt x1 (0) = false) (e3 : sC2 .lt x1 (0) = false) (e4 : sC2 .gt x1 (-1) = true) : wLaw [x0, x1, x2, x3, x4] := by
  unfold wLaw
  refine wp_iload qL_28 (by rfl) ?_
  refine wp_aload_ns qL_30 (by rfl) ?_
  refine wp_slen (n := 5) qL_31 rfl ?_
  refine wp_iconst qL_32 ?_
  refine wp_isub qL_33 ?_
  refine wp_icf (t := 3989) qL_34 (by rfl) (by rfl) ?_
  refine wp_aload_ns qL_37 (by rfl) ?_
  refine wp_iload qL_38 (by rfl) ?_
  refine wp_sload (x := x0) qL_40 (by rfl) (by rfl) ?_
  refine wp_bipush qL_41 ?_
  refine wp_iand qL_43 ?_
  refine wp_switch (t := 2139) qL_44 e0 (by rfl) ?_
  refine wp_aload_n qL_2139 (by rfl) ?_
  refine wp_aload_ns qL_2140 (by rfl) ?_
  refine wp_iload qL_2141 (by rfl) ?_
  refine wp_iconst qL_2143 ?_
  refine wp_iadd qL_2144 ?_
  refine wp_sload (x := x1) qL_2145 (by rfl) (by rfl) ?_
  refine wp_aload_ns qL_2146 (by rfl) ?_
  refine wp_iload qL_2147 (by rfl) ?_
  refine wp_iconst qL_2149 ?_
  refine wp_iadd qL_2150 ?_
  refine wp_sload (x := x2) qL_2151 (by rfl) (by rfl) ?_
  refine wp_aload_n qL_2152 (by rfl) ?_
  refine wp_static qL_2153 (by decide) (Nat.le_of_ble_eq_true rfl) (by rfl) (by rfl) ⟨(Nat.le_of_ble_eq_true rfl), (Nat.le_of_ble_eq_true rfl), (Nat.le_of_ble_eq_true rfl)⟩ (Nat.le_of_ble_eq_true rfl) ?_
  refine wp_aload_n q138_0 (by rfl) ?_
  refine wp_iconst q138_1 ?_
  refine wp_aload_n q138_2 (by rfl) ?_
  refine wp_iload_n q138_3 (by rfl) ?_
  refine wp_iload_n q138_4 (by rfl) ?_
  refine wp_virtual q138_5 (by decide) (Nat.le_of_ble_eq_true rfl) (by rfl) (by rfl) (by rfl) ⟨(Nat.le_of_ble_eq_true rfl), (Nat.le_of_ble_eq_true rfl), (Nat.le_of_ble_eq_true rfl)⟩ (Nat.le_of_ble_eq_true rfl) ?_
  refine wp_aload_n q139_0 (by rfl) ?_
  refine wp_iload_n q139_1 (by rfl) ?_
  refine wp_virtual q139_2 (by decide) (Nat.le_of_ble_eq_true rfl) (by rfl) (by rfl) (by rfl) ⟨(Nat.le_of_ble_eq_true rfl), (Nat.le_of_ble_eq_true rfl), (Nat.le_of_ble_eq_true rfl)⟩ (Nat.le_of_ble_eq_true rfl) ?_
  refine wp_iload_n q67_0 (by rfl) ?_
  refine wp_iff (t := 12) q67_1 e1 (by rfl) ?_
  refine wp_iload_n q67_4 (by rfl) ?_
  refine wp_aload_n q67_5 (by rfl) ?_
  refine wp_getfield q67_6 (by rfl) (by rfl) ?_
  refine wp_icf (t := 23) q67_9 e2 (by rfl) ?_
  refine wp_throw q67_12 (by decide) ⟨(Nat.le_of_ble_eq_true rfl), (Nat.le_of_ble_eq_true rfl), (Nat.le_of_ble_eq_true rfl)⟩ ?_
  refine wK_x (by rfl) ?_
  refine wK_c (by rfl) (by rfl) (by decide) (by rfl) ?_
  refine wp_iconst q138_22 ?_
  refine wp_ireturn q138_23 (by rfl) (by rfl) ?_
  refine wK_v ?_
  refine wp_istore qL_2156 (Nat.le_of_ble_eq_true rfl) ?_
  refine wp_aload_n qL_2158 (by rfl) ?_
  refine wp_aload_ns qL_2159 (by rfl) ?_
  refine wp_iload qL_2160 (by rfl) ?_
  refine wp_iconst qL_2162 ?_
  refine wp_iadd qL_2163 ?_
  refine wp_sload (x := x1) qL_2164 (by rfl) (by rfl) ?_
  refine wp_aload_ns qL_2165 (by rfl) ?_
  refine wp_iload qL_2166 (by rfl) ?_
  refine wp_iconst qL_2168 ?_
  refine wp_iadd qL_2169 ?_
  refine wp_sload (x := x2) qL_2170 (by rfl) (by rfl) ?_
  refine wp_virtual qL_2171 (by decide) (Nat.le_of_ble_eq_true rfl) (by rfl) (by rfl) (by rfl) ⟨(Nat.le_of_ble_eq_true rfl), (Nat.le_of_ble_eq_true rfl), (Nat.le_of_ble_eq_true rfl)⟩ (Nat.le_of_ble_eq_true rfl) ?_
  refine wp_aload_n q269_0 (by rfl) ?_
  refine wp_aload_n q269_1 (by rfl) ?_
  refine wp_iload_n q269_2 (by rfl) ?_
  refine wp_virtual q269_3 (by decide) (Nat.le_of_ble_eq_true rfl) (by rfl) (by rfl) (by rfl) ⟨(Nat.le_of_ble_eq_true rfl), (Nat.le_of_ble_eq_true rfl), (Nat.le_of_ble_eq_true rfl)⟩ (Nat.le_of_ble_eq_true rfl) ?_
  refine wp_iload_n q223_0 (by rfl) ?_
  refine wp_iconst q223_1 ?_
  refine wp_aload_n q223_2 (by rfl) ?_
  refine wp_getfield q223_3 (by rfl) (by rfl) ?_
  refine wp_iconst q223_6 ?_
  refine wp_isub q223_7 ?_
  refine wp_static q223_8 (by decide) (Nat.le_of_ble_eq_true rfl) (by rfl) (by rfl) ⟨(Nat.le_of_ble_eq_true rfl), (Nat.le_of_ble_eq_true rfl), (Nat.le_of_ble_eq_true rfl)⟩ (Nat.le_of_ble_eq_true rfl) ?_
  refine wp_iload_n q211_0 (by rfl) ?_
  refine wp_iload_n q211_1 (by rfl) ?_
  refine wp_icf (t := 14) q211_2 e3 (by rfl) ?_
  refine wp_iload_n q211_5 (by rfl) ?_
  refine wp_iload_n q211_6 (by rfl) ?_
  refine wp_ict (t := 14) q211_7 e4 (by rfl) ?_
  refine wp_iconst q211_14 ?_
  refine wp_ireturn q211_15 (by rfl) (by rfl) ?_
  refine wK_v ?_
  refine wp_ireturn q223_11 (by rfl) (by rfl) ?_
  refine wK_v ?_
  refine wp_ift (t := 21) q269_6 (by rfl) (by rfl) ?_
  refine wp_iconst q269_21 ?_
  refine wp_putfield q269_22 (by rfl) (Nat.le_of_ble_eq_true rfl) (by rfl) ?_
  refine wp_aload_n q269_25 (by rfl) ?_
  refine wp_getfield q269_26 (by rfl) (by rfl) ?_
  refine wp_iff (t := 34) q269_29 (by rfl) (by rfl) ?_
  refine wp_iconst q269_32 ?_
  refine wp_ireturn q269_33 (by rfl) (by rfl) ?_
  refine wK_v ?_
  refine wp_istore qL_2174 (Nat.le_of_ble_eq_true rfl) ?_
  refine wp_aload_n qL_2176 (by rfl) ?_
  refine wp_virtual qL_2177 (by decide) (Nat.le_of_ble_eq_true rfl) (by rfl) (by rfl) (by rfl) ⟨(Nat.le_of_ble_eq_true rfl), (Nat.le_of_ble_eq_true rfl), (Nat.le_of_ble_eq_true rfl)⟩ (Nat.le_of_ble_eq_true rfl) ?_
  refine wp_aload_n q209_0 (by rfl) ?_
  refine wp_getfield q209_1 (by rfl) (by rfl) ?_
  refine wp_ireturn q209_4 (by rfl) (by rfl) ?_
  refine wK_v ?_
  refine wp_iload qL_2180 (by rfl) ?_
  refine wp_ict (t := 2187) qL_2182 (by rfl) (by rfl) ?_
  refine wp_iload qL_2187 (by rfl) ?_
  refine wp_ift (t := 2211) qL_2189 (by rfl) (by rfl) ?_
  refine wp_goto (t := 3983) qL_2211 (by rfl) ?_
  refine wp_iinc qL_3983 (by rfl) (Nat.le_of_ble_eq_true rfl) ?_
  refine wp_goto (t := 28) qL_3986 (by rfl) ?_
  refine wp_iload qL_28 (by rfl) ?_
  refine wp_aload_ns qL_30 (by rfl) ?_
  refine wp_slen (n := 5) qL_31 rfl ?_
  refine wp_iconst qL_32 ?_
  refine wp_isub qL_33 ?_
  refine wp_ict (t := 3989) qL_34 (by rfl) (by rfl) ?_
  refine wp_iconst qL_3989 ?_
  refine wp_ireturn qL_3990 (by rfl) (by rfl) ?_
  rfl
theorem pt_32_0 {x0 x1 x2 x3 x4 : Int32} (e0 : x0 &&& 63 = Int32.ofNat 32) (e1 : sC1 .lt x1 = true) (e2 : sC2 .lt x1 (0) = true) : wLaw [x0, x1, x2, x3, x4] := by
  unfold wLaw
  refine wp_iload qL_28 (by rfl) ?_
  refine wp_aload_ns qL_30 (by rfl) ?_
  refine wp_slen (n := 5) qL_31 rfl ?_
  refine wp_iconst qL_32 ?_
  refine wp_isub qL_33 ?_
  refine wp_icf (t := 3989) qL_34 (by rfl) (by rfl) ?_
  refine wp_aload_ns qL_37 (by rfl) ?_
  refine wp_iload qL_38 (by rfl) ?_
  refine wp_sload (x := x0) qL_40 (by rfl) (by rfl) ?_
  refine wp_bipush qL_41 ?_
  refine wp_iand qL_43 ?_
  refine wp_switch (t := 2214) qL_44 e0 (by rfl) ?_
  refine wp_aload_n qL_2214 (by rfl) ?_
  refine wp_aload_ns qL_2215 (by rfl) ?_
  refine wp_iload qL_2216 (by rfl) ?_
  refine wp_iconst qL_2218 ?_
  refine wp_iadd qL_2219 ?_
  refine wp_sload (x := x1) qL_2220 (by rfl) (by rfl) ?_
  refine wp_aload_n qL_2221 (by rfl) ?_
  refine wp_static qL_2222 (by decide) (Nat.le_of_ble_eq_true rfl) (by rfl) (by rfl) ⟨(Nat.le_of_ble_eq_true rfl), (Nat.le_of_ble_eq_true rfl), (Nat.le_of_ble_eq_true rfl)⟩ (Nat.le_of_ble_eq_true rfl) ?_
  refine wp_aload_n q140_0 (by rfl) ?_
  refine wp_iconst q140_1 ?_
  refine wp_aload_n q140_2 (by rfl) ?_
  refine wp_iload_n q140_3 (by rfl) ?_
  refine wp_virtual q140_4 (by decide) (Nat.le_of_ble_eq_true rfl) (by rfl) (by rfl) (by rfl) ⟨(Nat.le_of_ble_eq_true rfl), (Nat.le_of_ble_eq_true rfl), (Nat.le_of_ble_eq_true rfl)⟩ (Nat.le_of_ble_eq_true rfl) ?_
  refine wp_aload_n q141_0 (by rfl) ?_
  refine wp_iload_n q141_1 (by rfl) ?_
  refine wp_virtual q141_2 (by decide) (Nat.le_of_ble_eq_true rfl) (by rfl) (by rfl) (by rfl) ⟨(Nat.le_of_ble_eq_true rfl), (Nat.le_of_ble_eq_true rfl), (Nat.le_of_ble_eq_true rfl)⟩ (Nat.le_of_ble_eq_true rfl) ?_
  refine wp_iload_n q61_0 (by rfl) ?_
  refine wp_ift (t := 12) q61_1 e1 (by rfl) ?_
  refine wp_throw q61_12 (by decide) ⟨(Nat.le_of_ble_eq_true rfl), (Nat.le_of_ble_eq_true rfl), (Nat.le_of_ble_eq_true rfl)⟩ ?_
  refine wK_x (by rfl) ?_
  refine wK_c (by rfl) (by rfl) (by decide) (by rfl) ?_
  refine wp_iconst q140_13 ?_
  refine wp_ireturn q140_14 (by rfl) (by rfl) ?_
  refine wK_v ?_
  refine wp_istore qL_2225 (Nat.le_of_ble_eq_true rfl) ?_
  refine wp_aload_n qL_2227 (by rfl) ?_
  refine wp_aload_ns qL_2228 (by rfl) ?_
  refine wp_iload qL_2229 (by rfl) ?_
  refine wp_iconst qL_2231 ?_
  refine wp_iadd qL_2232 ?_
  refine wp_sload (x := x1) qL_2233 (by rfl) (by rfl) ?_
  refine wp_virtual qL_2234 (by decide) (Nat.le_of_ble_eq_true rfl) (by rfl) (by rfl) (by rfl) ⟨(Nat.le_of_ble_eq_true rfl), (Nat.le_of_ble_eq_true rfl), (Nat.le_of_ble_eq_true rfl)⟩ (Nat.le_of_ble_eq_true rfl) ?_
  refine wp_aload_n q270_0 (by rfl) ?_
  refine wp_aload_n q270_1 (by rfl) ?_
  refine wp_iload_n q270_2 (by rfl) ?_
  refine wp_virtual q270_3 (by decide) (Nat.le_of_ble_eq_true rfl) (by rfl) (by rfl) (by rfl) ⟨(Nat.le_of_ble_eq_true rfl), (Nat.le_of_ble_eq_true rfl), (Nat.le_of_ble_eq_true rfl)⟩ (Nat.le_of_ble_eq_true rfl) ?_
  refine wp_iload_n q220_0 (by rfl) ?_
  refine wp_iconst q220_1 ?_
  refine wp_aload_n q220_2 (by rfl) ?_
  refine wp_getfield q220_3 (by rfl) (by rfl) ?_
  refine wp_iconst q220_6 ?_
  refine wp_isub q220_7 ?_
  refine wp_static q220_8 (by decide) (Nat.le_of_ble_eq_true rfl) (by rfl) (by rfl) ⟨(Nat.le_of_ble_eq_true rfl), (Nat.le_of_ble_eq_true rfl), (Nat.le_of_ble_eq_true rfl)⟩ (Nat.le_of_ble_eq_true rfl) ?_
  refine wp_iload_n q211_0 (by rfl) ?_
  refine wp_iload_n q211_1 (by rfl) ?_
  refine wp_ict (t := 14) q211_2 e2 (by rfl) ?_
  refine wp_iconst q211_14 ?_
  refine wp_ireturn q211_15 (by rfl) (by rfl) ?_
  refine wK_v ?_
  refine wp_ireturn q220_11 (by rfl) (by rfl) ?_
  refine wK_v ?_
  refine wp_iff (t := 13) q270_6 (by rfl) (by rfl) ?_
  refine wp_iconst q270_9 ?_
  refine wp_goto (t := 27) q270_10 (by rfl) ?_
  refine wp_putfield q270_27 (by rfl) (Nat.le_of_ble_eq_true rfl) (by rfl) ?_
  refine wp_aload_n q270_30 (by rfl) ?_
  refine wp_getfield q270_31 (by rfl) (by rfl) ?_
  refine wp_iff (t := 39) q270_34 (by rfl) (by rfl) ?_
  refine wp_iconst q270_37 ?_
  refine wp_ireturn q270_38 (by rfl) (by rfl) ?_
  refine wK_v ?_
  refine wp_istore qL_2237 (Nat.le_of_ble_eq_true rfl) ?_
  refine wp_aload_n qL_2239 (by rfl) ?_
  refine wp_virtual qL_2240 (by decide) (Nat.le_of_ble_eq_true rfl) (by rfl) (by rfl) (by rfl) ⟨(Nat.le_of_ble_eq_true rfl), (Nat.le_of_ble_eq_true rfl), (Nat.le_of_ble_eq_true rfl)⟩ (Nat.le_of_ble_eq_true rfl) ?_
  refine wp_aload_n q209_0 (by rfl) ?_
  refine wp_getfield q209_1 (by rfl) (by rfl) ?_
  refine wp_ireturn q209_4 (by rfl) (by rfl) ?_
  refine wK_v ?_
  refine wp_iload qL_2243 (by rfl) ?_
  refine wp_ict (t := 2250) qL_2245 (by rfl) (by rfl) ?_
  refine wp_iload qL_2250 (by rfl) ?_
  refine wp_ift (t := 2267) qL_2252 (by rfl) (by rfl) ?_
  refine wp_goto (t := 3983) qL_2267 (by rfl) ?_
  refine wp_iinc qL_3983 (by rfl) (Nat.le_of_ble_eq_true rfl) ?_
  refine wp_goto (t := 28) qL_3986 (by rfl) ?_
  refine wp_iload qL_28 (by rfl) ?_
  refine wp_aload_ns qL_30 (by rfl) ?_
  refine wp_slen (n := 5) qL_31 rfl ?_
  refine wp_iconst qL_32 ?_
  refine wp_isub qL_33 ?_
  refine wp_ict (t := 3989) qL_34 (by rfl) (by rfl) ?_
  refine wp_iconst qL_3989 ?_
  refine wp_ireturn qL_3990 (by rfl) (by rfl) ?_
  rfl
theorem pt_32_1 {x0 x1 x2 x3 x4 : Int32} (e0 : x0 &&& 63 = Int32.ofNat 32) (e1 : sC1 .lt x1 = false) (e2 : sC2 .lt x1 (0) = false) (e3 : sC2 .lt x1 (0) = false) (e4 : sC2 .gt x1 (-1) = true) : wLaw [x0, x1, x2, x3, x4] := by
  unfold wLaw
  refine wp_iload qL_28 (by rfl) ?_
  refine wp_aload_ns qL_30 (by rfl) ?_
  refine wp_slen (n := 5) qL_31 rfl ?_
  refine wp_iconst qL_32 ?_
  refine wp_isub qL_33 ?_
  refine wp_icf (t := 3989) qL_34 (by rfl) (by rfl) ?_
  refine wp_aload_ns qL_37 (by rfl) ?_
  refine wp_iload qL_38 (by rfl) ?_
  refine wp_sload (x := x0) qL_40 (by rfl) (by rfl) ?_
  refine wp_bipush qL_41 ?_
  refine wp_iand qL_43 ?_
  refine wp_switch (t := 2214) qL_44 e0 (by rfl) ?_
  refine wp_aload_n qL_2214 (by rfl) ?_
  refine wp_aload_ns qL_2215 (by rfl) ?_
  refine wp_iload qL_2216 (by rfl) ?_
  refine wp_iconst qL_2218 ?_
  refine wp_iadd qL_2219 ?_
  refine wp_sload (x := x1) qL_2220 (by rfl) (by rfl) ?_
  refine wp_aload_n qL_2221 (by rfl) ?_
  refine wp_static qL_2222 (by decide) (Nat.le_of_ble_eq_true rfl) (by rfl) (by rfl) ⟨(Nat.le_of_ble_eq_true rfl), (Nat.le_of_ble_eq_true rfl), (Nat.le_of_ble_eq_true rfl)⟩ (Nat.le_of_ble_eq_true rfl) ?_
  refine wp_aload_n q140_0 (by rfl) ?_
  refine wp_iconst q140_1 ?_
  refine wp_aload_n q140_2 (by rfl) ?_
  refine wp_iload_n q140_3 (by rfl) ?_
  refine wp_virtual q140_4 (by decide) (Nat.le_of_ble_eq_true rfl) (by rfl) (by rfl) (by rfl) ⟨(Nat.le_of_ble_eq_true rfl), (Nat.le_of_ble_eq_true rfl), (Nat.le_of_ble_eq_true rfl)⟩ (Nat.le_of_ble_eq_true rfl) ?_
  refine wp_aload_n q141_0 (by rfl) ?_
  refine wp_iload_n q141_1 (by rfl) ?_
  refine wp_virtual q141_2 (by decide) (Nat.le_of_ble_eq_true rfl) (by rfl) (by rfl) (by rfl) ⟨(Nat.le_of_ble_eq_true rfl), (Nat.le_of_ble_eq_true rfl), (Nat.le_of_ble_eq_true rfl)⟩ (Nat.le_of_ble_eq_true rfl) ?_
  refine wp_iload_n q61_0 (by rfl) ?_
  refine wp_iff (t := 12) q61_1 e1 (by rfl) ?_
  refine wp_iload_n q61_4 (by rfl) ?_
  refine wp_aload_n q61_5 (by rfl) ?_
  refine wp_getfield q61_6 (by rfl) (by rfl) ?_
  refine wp_icf (t := 23) q61_9 e2 (by rfl) ?_
  refine wp_throw q61_12 (by decide) ⟨(Nat.le_of_ble_eq_true rfl), (Nat.le_of_ble_eq_true rfl), (Nat.le_of_ble_eq_true rfl)⟩ ?_
  refine wK_x (by rfl) ?_
  refine wK_c (by rfl) (by rfl) (by decide) (by rfl) ?_
  refine wp_iconst q140_13 ?_
  refine wp_ireturn q140_14 (by rfl) (by rfl) ?_
  refine wK_v ?_
  refine wp_istore qL_2225 (Nat.le_of_ble_eq_true rfl) ?_
  refine wp_aload_n qL_2227 (by rfl) ?_
  refine wp_aload_ns qL_2228 (by rfl) ?_
  refine wp_iload qL_2229 (by rfl) ?_
  refine wp_iconst qL_2231 ?_
  refine wp_iadd qL_2232 ?_
  refine wp_sload (x := x1) qL_2233 (by rfl) (by rfl) ?_
  refine wp_virtual qL_2234 (by decide) (Nat.le_of_ble_eq_true rfl) (by rfl) (by rfl) (by rfl) ⟨(Nat.le_of_ble_eq_true rfl), (Nat.le_of_ble_eq_true rfl), (Nat.le_of_ble_eq_true rfl)⟩ (Nat.le_of_ble_eq_true rfl) ?_
  refine wp_aload_n q270_0 (by rfl) ?_
  refine wp_aload_n q270_1 (by rfl) ?_
  refine wp_iload_n q270_2 (by rfl) ?_
  refine wp_virtual q270_3 (by decide) (Nat.le_of_ble_eq_true rfl) (by rfl) (by rfl) (by rfl) ⟨(Nat.le_of_ble_eq_true rfl), (Nat.le_of_ble_eq_true rfl), (Nat.le_of_ble_eq_true rfl)⟩ (Nat.le_of_ble_eq_true rfl) ?_
  refine wp_iload_n q220_0 (by rfl) ?_
  refine wp_iconst q220_1 ?_
  refine wp_aload_n q220_2 (by rfl) ?_
  refine wp_getfield q220_3 (by rfl) (by rfl) ?_
  refine wp_iconst q220_6 ?_
  refine wp_isub q220_7 ?_
  refine wp_static q220_8 (by decide) (Nat.le_of_ble_eq_true rfl) (by rfl) (by rfl) ⟨(Nat.le_of_ble_eq_true rfl), (Nat.le_of_ble_eq_true rfl), (Nat.le_of_ble_eq_true rfl)⟩ (Nat.le_of_ble_eq_true rfl) ?_
  refine wp_iload_n q211_0 (by rfl) ?_
  refine wp_iload_n q211_1 (by rfl) ?_
  refine wp_icf (t := 14) q211_2 e3 (by rfl) ?_
  refine wp_iload_n q211_5 (by rfl) ?_
  refine wp_iload_n q211_6 (by rfl) ?_
  refine wp_ict (t := 14) q211_7 e4 (by rfl) ?_
  refine wp_iconst q211_14 ?_
  refine wp_ireturn q211_15 (by rfl) (by rfl) ?_
  refine wK_v ?_
  refine wp_ireturn q220_11 (by rfl) (by rfl) ?_
  refine wK_v ?_
  refine wp_iff (t := 13) q270_6 (by rfl) (by rfl) ?_
  refine wp_iconst q270_9 ?_
  refine wp_goto (t := 27) q270_10 (by rfl) ?_
  refine wp_putfield q270_27 (by rfl) (Nat.le_of_ble_eq_true rfl) (by rfl) ?_
  refine wp_aload_n q270_30 (by rfl) ?_
  refine wp_getfield q270_31 (by rfl) (by rfl) ?_
  refine wp_iff (t := 39) q270_34 (by rfl) (by rfl) ?_
  refine wp_iconst q270_37 ?_
  refine wp_ireturn q270_38 (by rfl) (by rfl) ?_
  refine wK_v ?_
  refine wp_istore qL_2237 (Nat.le_of_ble_eq_true rfl) ?_
  refine wp_aload_n qL_2239 (by rfl) ?_
  refine wp_virtual qL_2240 (by decide) (Nat.le_of_ble_eq_true rfl) (by rfl) (by rfl) (by rfl) ⟨(Nat.le_of_ble_eq_true rfl), (Nat.le_of_ble_eq_true rfl), (Nat.le_of_ble_eq_true rfl)⟩ (Nat.le_of_ble_eq_true rfl) ?_
  refine wp_aload_n q209_0 (by rfl) ?_
  refine wp_getfield q209_1 (by rfl) (by rfl) ?_
  refine wp_ireturn q209_4 (by rfl) (by rfl) ?_
  refine wK_v ?_
  refine wp_iload qL_2243 (by rfl) ?_
  refine wp_ict (t := 2250) qL_2245 (by rfl) (by rfl) ?_
  refine wp_iload qL_2250 (by rfl) ?_
  refine wp_ift (t := 2267) qL_2252 (by rfl) (by rfl) ?_
  refine wp_goto (t := 3983) qL_2267 (by rfl) ?_
  refine wp_iinc qL_3983 (by rfl) (Nat.le_of_ble_eq_true rfl) ?_
  refine wp_goto (t := 28) qL_3986 (by rfl) ?_
  refine wp_iload qL_28 (by rfl) ?_
  refine wp_aload_ns qL_30 (by rfl) ?_
  refine wp_slen (n := 5) qL_31 rfl ?_
  refine wp_iconst qL_32 ?_
  refine wp_isub qL_33 ?_
  refine wp_ict (t := 3989) qL_34 (by rfl) (by rfl) ?_
  refine wp_iconst qL_3989 ?_
  refine wp_ireturn qL_3990 (by rfl) (by rfl) ?_
  rfl
theorem pt_33_0 {x0 x1 x2 x3 x4 : Int32} (e0 : x0 &&& 63 = Int32.ofNat 33) (e1 : sC1 .lt x1 = true) (e2 : sC2 .lt x1 (0) = true) : wLaw [x0, x1, x2, x3, x4] := by
  unfold wLaw
  refine wp_iload qL_28 (by rfl) ?_
  refine wp_aload_ns qL_30 (by rfl) ?_
  refine wp_slen (n := 5) qL_31 rfl ?_
  refine wp_iconst qL_32 ?_
  refine wp_isub qL_33 ?_
  refine wp_icf (t := 3989) qL_34 (by rfl) (by rfl) ?_
  refine wp_aload_ns qL_37 (by rfl) ?_
  refine wp_iload qL_38 (by rfl) ?_
  refine wp_sload (x := x0) qL_40 (by rfl) (by rfl) ?_
  refine wp_bipush qL_41 ?_
  refine wp_iand qL_43 ?_
  refine wp_switch (t := 2270) qL_44 e0 (by rfl) ?_
  refine wp_aload_n qL_2270 (by rfl) ?_
  refine wp_aload_ns qL_2271 (by rfl) ?_
  refine wp_iload qL_2272 (by rfl) ?_
  refine wp_iconst qL_2274 ?_
  refine wp_iadd qL_2275 ?_
  refine wp_sload (x := x1) qL_2276 (by rfl) (by rfl) ?_
  refine wp_aload_ns qL_2277 (by rfl) ?_
  refine wp_iload qL_2278 (by rfl) ?_
  refine wp_iconst qL_2280 ?_
  refine wp_iadd qL_2281 ?_
  refine wp_sload (x := x2) qL_2282 (by rfl) (by rfl) ?_
  refine wp_aload_ns qL_2283 (by rfl) ?_
  refine wp_iload qL_2284 (by rfl) ?_
  refine wp_iconst qL_2286 ?_
  refine wp_iadd qL_2287 ?_
  refine wp_sload (x := x3) qL_2288 (by rfl) (by rfl) ?_
  refine wp_aload_n qL_2289 (by rfl) ?_
  refine wp_static qL_2290 (by decide) (Nat.le_of_ble_eq_true rfl) (by rfl) (by rfl) ⟨(Nat.le_of_ble_eq_true rfl), (Nat.le_of_ble_eq_true rfl), (Nat.le_of_ble_eq_true rfl)⟩ (Nat.le_of_ble_eq_true rfl) ?_
  refine wp_aload q142_0 (by rfl) ?_
  refine wp_iconst q142_2 ?_
  refine wp_aload_n q142_3 (by rfl) ?_
  refine wp_iload_n q142_4 (by rfl) ?_
  refine wp_iload_n q142_5 (by rfl) ?_
  refine wp_iload_n q142_6 (by rfl) ?_
  refine wp_virtual q142_7 (by decide) (Nat.le_of_ble_eq_true rfl) (by rfl) (by rfl) (by rfl) ⟨(Nat.le_of_ble_eq_true rfl), (Nat.le_of_ble_eq_true rfl), (Nat.le_of_ble_eq_true rfl)⟩ (Nat.le_of_ble_eq_true rfl) ?_
  refine wp_aload_n q143_0 (by rfl) ?_
  refine wp_iload_n q143_1 (by rfl) ?_
  refine wp_virtual q143_2 (by decide) (Nat.le_of_ble_eq_true rfl) (by rfl) (by rfl) (by rfl) ⟨(Nat.le_of_ble_eq_true rfl), (Nat.le_of_ble_eq_true rfl), (Nat.le_of_ble_eq_true rfl)⟩ (Nat.le_of_ble_eq_true rfl) ?_
  refine wp_iload_n q67_0 (by rfl) ?_
  refine wp_ift (t := 12) q67_1 e1 (by rfl) ?_
  refine wp_throw q67_12 (by decide) ⟨(Nat.le_of_ble_eq_true rfl), (Nat.le_of_ble_eq_true rfl), (Nat.le_of_ble_eq_true rfl)⟩ ?_
  refine wK_x (by rfl) ?_
  refine wK_c (by rfl) (by rfl) (by decide) (by rfl) ?_
  refine wp_iconst q142_17 ?_
  refine wp_ireturn q142_18 (by rfl) (by rfl) ?_
  refine wK_v ?_
  refine wp_istore qL_2293 (Nat.le_of_ble_eq_true rfl) ?_
  refine wp_aload_n qL_2295 (by rfl) ?_
  refine wp_aload_ns qL_2296 (by rfl) ?_
  refine wp_iload qL_2297 (by rfl) ?_
  refine wp_iconst qL_2299 ?_
  refine wp_iadd qL_2300 ?_
  refine wp_sload (x := x1) qL_2301 (by rfl) (by rfl) ?_
  refine wp_aload_ns qL_2302 (by rfl) ?_
  refine wp_iload qL_2303 (by rfl) ?_
  refine wp_iconst qL_2305 ?_
  refine wp_iadd qL_2306 ?_
  refine wp_sload (x := x2) qL_2307 (by rfl) (by rfl) ?_
  refine wp_aload_ns qL_2308 (by rfl) ?_
  refine wp_iload qL_2309 (by rfl) ?_
  refine wp_iconst qL_2311 ?_
  refine wp_iadd qL_2312 ?_
  refine wp_sload (x := x3) qL_2313 (by rfl) (by rfl) ?_
  refine wp_virtual qL_2314 (by decide) (Nat.le_of_ble_eq_true rfl) (by rfl) (by rfl) (by rfl) ⟨(Nat.le_of_ble_eq_true rfl), (Nat.le_of_ble_eq_true rfl), (Nat.le_of_ble_eq_true rfl)⟩ (Nat.le_of_ble_eq_true rfl) ?_
  refine wp_aload_n q271_0 (by rfl) ?_
  refine wp_iload_n q271_1 (by rfl) ?_
  refine wp_virtual q271_2 (by decide) (Nat.le_of_ble_eq_true rfl) (by rfl) (by rfl) (by rfl) ⟨(Nat.le_of_ble_eq_true rfl), (Nat.le_of_ble_eq_true rfl), (Nat.le_of_ble_eq_true rfl)⟩ (Nat.le_of_ble_eq_true rfl) ?_
  refine wp_iload_n q223_0 (by rfl) ?_
  refine wp_iconst q223_1 ?_
  refine wp_aload_n q223_2 (by rfl) ?_
  refine wp_getfield q223_3 (by rfl) (by rfl) ?_
  refine wp_iconst q223_6 ?_
  refine wp_isub q223_7 ?_
  refine wp_static q223_8 (by decide) (Nat.le_of_ble_eq_true rfl) (by rfl) (by rfl) ⟨(Nat.le_of_ble_eq_true rfl), (Nat.le_of_ble_eq_true rfl), (Nat.le_of_ble_eq_true rfl)⟩ (Nat.le_of_ble_eq_true rfl) ?_
  refine wp_iload_n q211_0 (by rfl) ?_
  refine wp_iload_n q211_1 (by rfl) ?_
  refine wp_ict (t := 14) q211_2 e2 (by rfl) ?_
  refine wp_iconst q211_14 ?_
  refine wp_ireturn q211_15 (by rfl) (by rfl) ?_
  refine wK_v ?_
  refine wp_ireturn q223_11 (by rfl) (by rfl) ?_
  refine wK_v ?_
  refine wp_ift (t := 28) q271_5 (by rfl) (by rfl) ?_
  refine wp_iconst q271_28 ?_
  refine wp_istore q271_29 (Nat.le_of_ble_eq_true rfl) ?_
  refine wp_aload_n q271_31 (by rfl) ?_
  refine wp_iload q271_32 (by rfl) ?_
  refine wp_iff (t := 41) q271_34 (by rfl) (by rfl) ?_
  refine wp_iconst q271_37 ?_
  refine wp_goto (t := 72) q271_38 (by rfl) ?_
  refine wp_putfield q271_72 (by rfl) (Nat.le_of_ble_eq_true rfl) (by rfl) ?_
  refine wp_aload_n q271_75 (by rfl) ?_
  refine wp_getfield q271_76 (by rfl) (by rfl) ?_
  refine wp_iff (t := 84) q271_79 (by rfl) (by rfl) ?_
  refine wp_iconst q271_82 ?_
  refine wp_ireturn q271_83 (by rfl) (by rfl) ?_
  refine wK_v ?_
  refine wp_istore qL_2317 (Nat.le_of_ble_eq_true rfl) ?_
  refine wp_aload_n qL_2319 (by rfl) ?_
  refine wp_virtual qL_2320 (by decide) (Nat.le_of_ble_eq_true rfl) (by rfl) (by rfl) (by rfl) ⟨(Nat.le_of_ble_eq_true rfl), (Nat.le_of_ble_eq_true rfl), (Nat.le_of_ble_eq_true rfl)⟩ (Nat.le_of_ble_eq_true rfl) ?_
  refine wp_aload_n q209_0 (by rfl) ?_
  refine wp_getfield q209_1 (by rfl) (by rfl) ?_
  refine wp_ireturn q209_4 (by rfl) (by rfl) ?_
  refine wK_v ?_
  refine wp_iload qL_2323 (by rfl) ?_
  refine wp_ict (t := 2330) qL_2325 (by rfl) (by rfl) ?_
  refine wp_iload qL_2330 (by rfl) ?_
  refine wp_ift (t := 2347) qL_2332 (by rfl) (by rfl) ?_
  refine wp_goto (t := 3983) qL_2347 (by rfl) ?_
  refine wp_iinc qL_3983 (by rfl) (Nat.le_of_ble_eq_true rfl) ?_
  refine wp_goto (t := 28) qL_3986 (by rfl) ?_
  refine wp_iload qL_28 (by rfl) ?_
  refine wp_aload_ns qL_30 (by rfl) ?_
  refine wp_slen (n := 5) qL_31 rfl ?_
  refine wp_iconst qL_32 ?_
  refine wp_isub qL_33 ?_
  refine wp_ict (t := 3989) qL_34 (by rfl) (by rfl) ?_
  refine wp_iconst qL_3989 ?_
  refine wp_ireturn qL_3990 (by rfl) (by rfl) ?_
  rfl
theorem pt_33_1 {x0 x1 x2 x3 x4 : Int32} (e0 : x0 &&& 63 = Int32.ofNat 33) (e1 : sC1 .lt x1 = false) (e2 : sC2 .lt x1 (0) = false) (e3 : sC2 .lt x1 (0) = false) (e4 : sC2 .gt x1 (-1) = true) : wLaw [x0, x1, x2, x3, x4] := by
  unfold wLaw
  refine wp_iload qL_28 (by rfl) ?_
  refine wp_aload_ns qL_30 (by rfl) ?_
  refine wp_slen (n := 5) qL_31 rfl ?_
  refine wp_iconst qL_32 ?_
  refine wp_isub qL_33 ?_
  refine wp_icf (t := 3989) qL_34 (by rfl) (by rfl) ?_
  refine wp_aload_ns qL_37 (by rfl) ?_
  refine wp_iload qL_38 (by rfl) ?_
  refine wp_sload (x := x0) qL_40 (by rfl) (by rfl) ?_
  refine wp_bipush qL_41 ?_
  refine wp_iand qL_43 ?_
  refine wp_switch (t := 2270) qL_44 e0 (by rfl) ?_
  refine wp_aload_n qL_2270 (by rfl) ?_
  refine wp_aload_ns qL_2271 (by rfl) ?_
  refine wp_iload qL_2272 (by rfl) ?_
  refine wp_iconst qL_2274 ?_
  refine wp_iadd qL_2275 ?_
  refine wp_sload (x := x1) qL_2276 (by rfl) (by rfl) ?_
  refine wp_aload_ns qL_2277 (by rfl) ?_
  refine wp_iload qL_2278 (by rfl) ?_
  refine wp_iconst qL_2280 ?_
  refine wp_iadd qL_2281 ?_
  refine wp_sload (x := x2) qL_2282 (by rfl) (by rfl) ?_
  refine wp_aload_ns qL_2283 (by rfl) ?_
  refine wp_iload qL_2284 (by rfl) ?_
  refine wp_iconst qL_2286 ?_
  refine wp_iadd qL_2287 ?_
  refine wp_sload (x := x3) qL_2288 (by rfl) (by rfl) ?_
  refine wp_aload_n qL_2289 (by rfl) ?_
  refine wp_static qL_2290 (by decide) (Nat.le_of_ble_eq_true rfl) (by rfl) (by rfl) ⟨(Nat.le_of_ble_eq_true rfl), (Nat.le_of_ble_eq_true rfl), (Nat.le_of_ble_eq_true rfl)⟩ (Nat.le_of_ble_eq_true rfl) ?_
  refine wp_aload q142_0 (by rfl) ?_
  refine wp_iconst q142_2 ?_
  refine wp_aload_n q142_3 (by rfl) ?_
  refine wp_iload_n q142_4 (by rfl) ?_
  refine wp_iload_n q142_5 (by rfl) ?_
  refine wp_iload_n q142_6 (by rfl) ?_
  refine wp_virtual q142_7 (by decide) (Nat.le_of_ble_eq_true rfl) (by rfl) (by rfl) (by rfl) ⟨(Nat.le_of_ble_eq_true rfl), (Nat.le_of_ble_eq_true rfl), (Nat.le_of_ble_eq_true rfl)⟩ (Nat.le_of_ble_eq_true rfl) ?_
  refine wp_aload_n q143_0 (by rfl) ?_
  refine wp_iload_n q143_1 (by rfl) ?_
  refine wp_virtual q143_2 (by decide) (Nat.le_of_ble_eq_true rfl) (by rfl) (by rfl) (by rfl) ⟨(Nat.le_of_ble_eq_true rfl), (Nat.le_of_ble_eq_true rfl), (Nat.le_of_ble_eq_true rfl)⟩ (Nat.le_of_ble_eq_true rfl) ?_
  refine wp_iload_n q67_0 (by rfl) ?_
  refine wp_iff (t := 12) q67_1 e1 (by rfl) ?_
  refine wp_iload_n q67_4 (by rfl) ?_
  refine wp_aload_n q67_5 (by rfl) ?_
  refine wp_getfield q67_6 (by rfl) (by rfl) ?_
  refine wp_icf (t := 23) q67_9 e2 (by rfl) ?_
  refine wp_throw q67_12 (by decide) ⟨(Nat.le_of_ble_eq_true rfl), (Nat.le_of_ble_eq_true rfl), (Nat.le_of_ble_eq_true rfl)⟩ ?_
  refine wK_x (by rfl) ?_
  refine wK_c (by rfl) (by rfl) (by decide) (by rfl) ?_
  refine wp_iconst q142_17 ?_
  refine wp_ireturn q142_18 (by rfl) (by rfl) ?_
  refine wK_v ?_
  refine wp_istore qL_2293 (Nat.le_of_ble_eq_true rfl) ?_
  refine wp_aload_n qL_2295 (by rfl) ?_
  refine wp_aload_ns qL_2296 (by rfl) ?_
  refine wp_iload qL_2297 (by rfl) ?_
  refine wp_iconst qL_2299 ?_
  refine wp_iadd qL_2300 ?_
  refine wp_sload (x := x1) qL_2301 (by rfl) (by rfl) ?_
  refine wp_aload_ns qL_2302 (by rfl) ?_
  refine wp_iload qL_2303 (by rfl) ?_
  refine wp_iconst qL_2305 ?_
  refine wp_iadd qL_2306 ?_
  refine wp_sload (x := x2) qL_2307 (by rfl) (by rfl) ?_
  refine wp_aload_ns qL_2308 (by rfl) ?_
  refine wp_iload qL_2309 (by rfl) ?_
  refine wp_iconst qL_2311 ?_
  refine wp_iadd qL_2312 ?_
  refine wp_sload (x := x3) qL_2313 (by rfl) (by rfl) ?_
  refine wp_virtual qL_2314 (by decide) (Nat.le_of_ble_eq_true rfl) (by rfl) (by rfl) (by rfl) ⟨(Nat.le_of_ble_eq_true rfl), (Nat.le_of_ble_eq_true rfl), (Nat.le_of_ble_eq_true rfl)⟩ (Nat.le_of_ble_eq_true rfl) ?_
  refine wp_aload_n q271_0 (by rfl) ?_
  refine wp_iload_n q271_1 (by rfl) ?_
  refine wp_virtual q271_2 (by decide) (Nat.le_of_ble_eq_true rfl) (by rfl) (by rfl) (by rfl) ⟨(Nat.le_of_ble_eq_true rfl), (Nat.le_of_ble_eq_true rfl), (Nat.le_of_ble_eq_true rfl)⟩ (Nat.le_of_ble_eq_true rfl) ?_
  refine wp_iload_n q223_0 (by rfl) ?_
  refine wp_iconst q223_1 ?_
  refine wp_aload_n q223_2 (by rfl) ?_
  refine wp_getfield q223_3 (by rfl) (by rfl) ?_
  refine wp_iconst q223_6 ?_
  refine wp_isub q223_7 ?_
  refine wp_static q223_8 (by decide) (Nat.le_of_ble_eq_true rfl) (by rfl) (by rfl) ⟨(Nat.le_of_ble_eq_true rfl), (Nat.le_of_ble_eq_true rfl), (Nat.le_of_ble_eq_true rfl)⟩ (Nat.le_of_ble_eq_true rfl) ?_
  refine wp_iload_n q211_0 (by rfl) ?_
  refine wp_iload_n q211_1 (by rfl) ?_
  refine wp_icf (t := 14) q211_2 e3 (by rfl) ?_
  refine wp_iload_n q211_5 (by rfl) ?_
  refine wp_iload_n q211_6 (by rfl) ?_
  refine wp_ict (t := 14) q211_7 e4 (by rfl) ?_
  refine wp_iconst q211_14 ?_
  refine wp_ireturn q211_15 (by rfl) (by rfl) ?_
  refine wK_v ?_
  refine wp_ireturn q223_11 (by rfl) (by rfl) ?_
  refine wK_v ?_
  refine wp_ift (t := 28) q271_5 (by rfl) (by rfl) ?_
  refine wp_iconst q271_28 ?_
  refine wp_istore q271_29 (Nat.le_of_ble_eq_true rfl) ?_
  refine wp_aload_n q271_31 (by rfl) ?_
  refine wp_iload q271_32 (by rfl) ?_
  refine wp_iff (t := 41) q271_34 (by rfl) (by rfl) ?_
  refine wp_iconst q271_37 ?_
  refine wp_goto (t := 72) q271_38 (by rfl) ?_
  refine wp_putfield q271_72 (by rfl) (Nat.le_of_ble_eq_true rfl) (by rfl) ?_
  refine wp_aload_n q271_75 (by rfl) ?_
  refine wp_getfield q271_76 (by rfl) (by rfl) ?_
  refine wp_iff (t := 84) q271_79 (by rfl) (by rfl) ?_
  refine wp_iconst q271_82 ?_
  refine wp_ireturn q271_83 (by rfl) (by rfl) ?_
  refine wK_v ?_
  refine wp_istore qL_2317 (Nat.le_of_ble_eq_true rfl) ?_
  refine wp_aload_n qL_2319 (by rfl) ?_
  refine wp_virtual qL_2320 (by decide) (Nat.le_of_ble_eq_true rfl) (by rfl) (by rfl) (by rfl) ⟨(Nat.le_of_ble_eq_true rfl), (Nat.le_of_ble_eq_true rfl), (Nat.le_of_ble_eq_true rfl)⟩ (Nat.le_of_ble_eq_true rfl) ?_
  refine wp_aload_n q209_0 (by rfl) ?_
  refine wp_getfield q209_1 (by rfl) (by rfl) ?_
  refine wp_ireturn q209_4 (by rfl) (by rfl) ?_
  refine wK_v ?_
  refine wp_iload qL_2323 (by rfl) ?_
  refine wp_ict (t := 2330) qL_2325 (by rfl) (by rfl) ?_
  refine wp_iload qL_2330 (by rfl) ?_
  refine wp_ift (t := 2347) qL_2332 (by rfl) (by rfl) ?_
  refine wp_goto (t := 3983) qL_2347 (by rfl) ?_
  refine wp_iinc qL_3983 (by rfl) (Nat.le_of_ble_eq_true rfl) ?_
  refine wp_goto (t := 28) qL_3986 (by rfl) ?_
  refine wp_iload qL_28 (by rfl) ?_
  refine wp_aload_ns qL_30 (by rfl) ?_
  refine wp_slen (n := 5) qL_31 rfl ?_
  refine wp_iconst qL_32 ?_
  refine wp_isub qL_33 ?_
  refine wp_ict (t := 3989) qL_34 (by rfl) (by rfl) ?_
  refine wp_iconst qL_3989 ?_
  refine wp_ireturn qL_3990 (by rfl) (by rfl) ?_
  rfl
theorem pt_34_0 {x0 x1 x2 x3 x4 : Int32} (e0 : x0 &&& 63 = Int32.ofNat 34) (e1 : sC2 .lt x1 (1) = true) (e2 : sC2 .lt x1 (1) = true) : wLaw [x0, x1, x2, x3, x4] := by
  unfold wLaw
  refine wp_iload qL_28 (by rfl) ?_
  refine wp_aload_ns qL_30 (by rfl) ?_
  refine wp_slen (n := 5) qL_31 rfl ?_
  refine wp_iconst qL_32 ?_
  refine wp_isub qL_33 ?_
  refine wp_icf (t := 3989) qL_34 (by rfl) (by rfl) ?_
  refine wp_aload_ns qL_37 (by rfl) ?_
  refine wp_iload qL_38 (by rfl) ?_
  refine wp_sload (x := x0) qL_40 (by rfl) (by rfl) ?_
  refine wp_bipush qL_41 ?_
  refine wp_iand qL_43 ?_
  refine wp_switch (t := 2350) qL_44 e0 (by rfl) ?_
  refine wp_aload_n qL_2350 (by rfl) ?_
  refine wp_aload_ns qL_2351 (by rfl) ?_
  refine wp_iload qL_2352 (by rfl) ?_
  refine wp_iconst qL_2354 ?_
  refine wp_iadd qL_2355 ?_
  refine wp_sload (x := x1) qL_2356 (by rfl) (by rfl) ?_
  refine wp_aload_n qL_2357 (by rfl) ?_
  refine wp_static qL_2358 (by decide) (Nat.le_of_ble_eq_true rfl) (by rfl) (by rfl) ⟨(Nat.le_of_ble_eq_true rfl), (Nat.le_of_ble_eq_true rfl), (Nat.le_of_ble_eq_true rfl)⟩ (Nat.le_of_ble_eq_true rfl) ?_
  refine wp_aload_n q144_0 (by rfl) ?_
  refine wp_iconst q144_1 ?_
  refine wp_aload_n q144_2 (by rfl) ?_
  refine wp_iload_n q144_3 (by rfl) ?_
  refine wp_virtual q144_4 (by decide) (Nat.le_of_ble_eq_true rfl) (by rfl) (by rfl) (by rfl) ⟨(Nat.le_of_ble_eq_true rfl), (Nat.le_of_ble_eq_true rfl), (Nat.le_of_ble_eq_true rfl)⟩ (Nat.le_of_ble_eq_true rfl) ?_
  refine wp_aload_n q145_0 (by rfl) ?_
  refine wp_iload_n q145_1 (by rfl) ?_
  refine wp_virtual q145_2 (by decide) (Nat.le_of_ble_eq_true rfl) (by rfl) (by rfl) (by rfl) ⟨(Nat.le_of_ble_eq_true rfl), (Nat.le_of_ble_eq_true rfl), (Nat.le_of_ble_eq_true rfl)⟩ (Nat.le_of_ble_eq_true rfl) ?_
  refine wp_iload_n q146_0 (by rfl) ?_
  refine wp_iconst q146_1 ?_
  refine wp_bipush q146_2 ?_
  refine wp_static q146_4 (by decide) (Nat.le_of_ble_eq_true rfl) (by rfl) (by rfl) ⟨(Nat.le_of_ble_eq_true rfl), (Nat.le_of_ble_eq_true rfl), (Nat.le_of_ble_eq_true rfl)⟩ (Nat.le_of_ble_eq_true rfl) ?_
  refine wp_iload_n q47_0 (by rfl) ?_
  refine wp_iload_n q47_1 (by rfl) ?_
  refine wp_ict (t := 14) q47_2 e1 (by rfl) ?_
  refine wp_iconst q47_14 ?_
  refine wp_ireturn q47_15 (by rfl) (by rfl) ?_
  refine wK_v ?_
  refine wp_iff (t := 21) q146_7 (by rfl) (by rfl) ?_
  refine wp_throw q146_10 (by decide) ⟨(Nat.le_of_ble_eq_true rfl), (Nat.le_of_ble_eq_true rfl), (Nat.le_of_ble_eq_true rfl)⟩ ?_
  refine wK_x (by rfl) ?_
  refine wK_c (by rfl) (by rfl) (by decide) (by rfl) ?_
  refine wp_iconst q144_13 ?_
  refine wp_ireturn q144_14 (by rfl) (by rfl) ?_
  refine wK_v ?_
  refine wp_istore qL_2361 (Nat.le_of_ble_eq_true rfl) ?_
  refine wp_aload_n qL_2363 (by rfl) ?_
  refine wp_aload_ns qL_2364 (by rfl) ?_
  refine wp_iload qL_2365 (by rfl) ?_
  refine wp_iconst qL_2367 ?_
  refine wp_iadd qL_2368 ?_
  refine wp_sload (x := x1) qL_2369 (by rfl) (by rfl) ?_
  refine wp_virtual qL_2370 (by decide) (Nat.le_of_ble_eq_true rfl) (by rfl) (by rfl) (by rfl) ⟨(Nat.le_of_ble_eq_true rfl), (Nat.le_of_ble_eq_true rfl), (Nat.le_of_ble_eq_true rfl)⟩ (Nat.le_of_ble_eq_true rfl) ?_
  refine wp_aload_n q272_0 (by rfl) ?_
  refine wp_iload_n q272_1 (by rfl) ?_
  refine wp_iconst q272_2 ?_
  refine wp_bipush q272_3 ?_
  refine wp_static q272_5 (by decide) (Nat.le_of_ble_eq_true rfl) (by rfl) (by rfl) ⟨(Nat.le_of_ble_eq_true rfl), (Nat.le_of_ble_eq_true rfl), (Nat.le_of_ble_eq_true rfl)⟩ (Nat.le_of_ble_eq_true rfl) ?_
  refine wp_iload_n q211_0 (by rfl) ?_
  refine wp_iload_n q211_1 (by rfl) ?_
  refine wp_ict (t := 14) q211_2 e2 (by rfl) ?_
  refine wp_iconst q211_14 ?_
  refine wp_ireturn q211_15 (by rfl) (by rfl) ?_
  refine wK_v ?_
  refine wp_ift (t := 15) q272_8 (by rfl) (by rfl) ?_
  refine wp_iconst q272_15 ?_
  refine wp_putfield q272_16 (by rfl) (Nat.le_of_ble_eq_true rfl) (by rfl) ?_
  refine wp_aload_n q272_19 (by rfl) ?_
  refine wp_getfield q272_20 (by rfl) (by rfl) ?_
  refine wp_iff (t := 30) q272_23 (by rfl) (by rfl) ?_
  refine wp_iconst q272_26 ?_
  refine wp_goto (t := 40) q272_27 (by rfl) ?_
  refine wp_ireturn q272_40 (by rfl) (by rfl) ?_
  refine wK_v ?_
  refine wp_istore qL_2373 (Nat.le_of_ble_eq_true rfl) ?_
  refine wp_aload_n qL_2375 (by rfl) ?_
  refine wp_virtual qL_2376 (by decide) (Nat.le_of_ble_eq_true rfl) (by rfl) (by rfl) (by rfl) ⟨(Nat.le_of_ble_eq_true rfl), (Nat.le_of_ble_eq_true rfl), (Nat.le_of_ble_eq_true rfl)⟩ (Nat.le_of_ble_eq_true rfl) ?_
  refine wp_aload_n q209_0 (by rfl) ?_
  refine wp_getfield q209_1 (by rfl) (by rfl) ?_
  refine wp_ireturn q209_4 (by rfl) (by rfl) ?_
  refine wK_v ?_
  refine wp_iload qL_2379 (by rfl) ?_
  refine wp_ict (t := 2386) qL_2381 (by rfl) (by rfl) ?_
  refine wp_iload qL_2386 (by rfl) ?_
  refine wp_ift (t := 2403) qL_2388 (by rfl) (by rfl) ?_
  refine wp_goto (t := 3983) qL_2403 (by rfl) ?_
  refine wp_iinc qL_3983 (by rfl) (Nat.le_of_ble_eq_true rfl) ?_
  refine wp_goto (t := 28) qL_3986 (by rfl) ?_
  refine wp_iload qL_28 (by rfl) ?_
  refine wp_aload_ns qL_30 (by rfl) ?_
  refine wp_slen (n := 5) qL_31 rfl ?_
  refine wp_iconst qL_32 ?_
  refine wp_isub qL_33 ?_
  refine wp_ict (t := 3989) qL_34 (by rfl) (by rfl) ?_
  refine wp_iconst qL_3989 ?_
  refine wp_ireturn qL_3990 (by rfl) (by rfl) ?_
  rfl
theorem pt_34_1 {x0 x2 x3 x4 : Int32} (e0 : x0 &&& 63 = Int32.ofNat 34) : wLaw [x0, (1), x2, x3, x4] := by
  unfold wLaw
  refine wp_iload qL_28 (by rfl) ?_
  refine wp_aload_ns qL_30 (by rfl) ?_
  refine wp_slen (n := 5) qL_31 rfl ?_
  refine wp_iconst qL_32 ?_
  refine wp_isub qL_33 ?_
  refine wp_icf (t := 3989) qL_34 (by rfl) (by rfl) ?_
  refine wp_aload_ns qL_37 (by rfl) ?_
  refine wp_iload qL_38 (by rfl) ?_
  refine wp_sload (x := x0) qL_40 (by rfl) (by rfl) ?_
  refine wp_bipush qL_41 ?_
  refine wp_iand qL_43 ?_
  refine wp_switch (t := 2350) qL_44 e0 (by rfl) ?_
  refine wp_aload_n qL_2350 (by rfl) ?_
  refine wp_aload_ns qL_2351 (by rfl) ?_
  refine wp_iload qL_2352 (by rfl) ?_
  refine wp_iconst qL_2354 ?_
  refine wp_iadd qL_2355 ?_
  refine wp_sload (x := (1)) qL_2356 (by rfl) (by rfl) ?_
  refine wp_aload_n qL_2357 (by rfl) ?_
  refine wp_static qL_2358 (by decide) (Nat.le_of_ble_eq_true rfl) (by rfl) (by rfl) ⟨(Nat.le_of_ble_eq_true rfl), (Nat.le_of_ble_eq_true rfl), (Nat.le_of_ble_eq_true rfl)⟩ (Nat.le_of_ble_eq_true rfl) ?_
  refine wp_aload_n q144_0 (by rfl) ?_
  refine wp_iconst q144_1 ?_
  refine wp_aload_n q144_2 (by rfl) ?_
  refine wp_iload_n q144_3 (by rfl) ?_
  refine wp_virtual q144_4 (by decide) (Nat.le_of_ble_eq_true rfl) (by rfl) (by rfl) (by rfl) ⟨(Nat.le_of_ble_eq_true rfl), (Nat.le_of_ble_eq_true rfl), (Nat.le_of_ble_eq_true rfl)⟩ (Nat.le_of_ble_eq_true rfl) ?_
  refine wp_aload_n q145_0 (by rfl) ?_
  refine wp_iload_n q145_1 (by rfl) ?_
  refine wp_virtual q145_2 (by decide) (Nat.le_of_ble_eq_true rfl) (by rfl) (by rfl) (by rfl) ⟨(Nat.le_of_ble_eq_true rfl), (Nat.le_of_ble_eq_true rfl), (Nat.le_of_ble_eq_true rfl)⟩ (Nat.le_of_ble_eq_true rfl) ?_
  refine wp_iload_n q146_0 (by rfl) ?_
  refine wp_iconst q146_1 ?_
  refine wp_bipush q146_2 ?_
  refine wp_static q146_4 (by decide) (Nat.le_of_ble_eq_true rfl) (by rfl) (by rfl) ⟨(Nat.le_of_ble_eq_true rfl), (Nat.le_of_ble_eq_true rfl), (Nat.le_of_ble_eq_true rfl)⟩ (Nat.le_of_ble_eq_true rfl) ?_
  refine wp_iload_n q47_0 (by rfl) ?_
  refine wp_iload_n q47_1 (by rfl) ?_
  refine wp_icf (t := 14) q47_2 (by rfl) (by rfl) ?_
  refine wp_iload_n q47_5 (by rfl) ?_
  refine wp_iload_n q47_6 (by rfl) ?_
  refine wp_icf (t := 14) q47_7 (by rfl) (by rfl) ?_
  refine wp_iconst q47_10 ?_
  refine wp_goto (t := 15) q47_11 (by rfl) ?_
  refine wp_ireturn q47_15 (by rfl) (by rfl) ?_
  refine wK_v ?_
  refine wp_ift (t := 21) q146_7 (by rfl) (by rfl) ?_
  refine wp_return q146_21 (by rfl) ?_
  refine wK_n ?_
  refine wp_iload_n q145_5 (by rfl) ?_
  refine wp_aload_n q145_6 (by rfl) ?_
  refine wp_virtual q145_7 (by decide) (Nat.le_of_ble_eq_true rfl) (by rfl) (by rfl) (by rfl) ⟨(Nat.le_of_ble_eq_true rfl), (Nat.le_of_ble_eq_true rfl), (Nat.le_of_ble_eq_true rfl)⟩ (Nat.le_of_ble_eq_true rfl) ?_
  refine wp_iconst q12_0 ?_
  refine wp_istore_n q12_1 (Nat.le_of_ble_eq_true rfl) ?_
  refine wp_iconst q12_2 ?_
  refine wp_istore_n q12_3 (Nat.le_of_ble_eq_true rfl) ?_
  refine wp_iload_n q12_4 (by rfl) ?_
  refine wp_aload_n q12_5 (by rfl) ?_
  refine wp_getfield q12_6 (by rfl) (by rfl) ?_
  refine wp_ict (t := 34) q12_9 (by rfl) (by rfl) ?_
  refine wp_iload_n q12_34 (by rfl) ?_
  refine wp_ireturn q12_35 (by rfl) (by rfl) ?_
  refine wK_v ?_
  refine wp_static q145_10 (by decide) (Nat.le_of_ble_eq_true rfl) (by rfl) (by rfl) ⟨(Nat.le_of_ble_eq_true rfl), (Nat.le_of_ble_eq_true rfl), (Nat.le_of_ble_eq_true rfl)⟩ (Nat.le_of_ble_eq_true rfl) ?_
  refine wp_iload_n q147_0 (by rfl) ?_
  refine wp_iff (t := 14) q147_1 (by rfl) (by rfl) ?_
  refine wp_iload_n q147_4 (by rfl) ?_
  refine wp_iload_n q147_5 (by rfl) ?_
  refine wp_iadd q147_6 ?_
  refine wp_iconst q147_7 ?_
  refine wp_isub q147_8 ?_
  refine wp_iload_n q147_9 (by rfl) ?_
  refine wp_idiv q147_10 (by decide) ?_
  refine wp_goto (t := 15) q147_11 (by rfl) ?_
  refine wp_ireturn q147_15 (by rfl) (by rfl) ?_
  refine wK_v ?_
  refine wp_ireturn q145_13 (by rfl) (by rfl) ?_
  refine wK_v ?_
  refine wp_i2l q144_7 ?_
  refine wp_lastore q144_8 (by rfl) (by rfl) ?_
  refine wp_goto (t := 15) q144_9 (by rfl) ?_
  refine wp_iconst q144_15 ?_
  refine wp_ireturn q144_16 (by rfl) (by rfl) ?_
  refine wK_v ?_
  refine wp_istore qL_2361 (Nat.le_of_ble_eq_true rfl) ?_
  refine wp_aload_n qL_2363 (by rfl) ?_
  refine wp_aload_ns qL_2364 (by rfl) ?_
  refine wp_iload qL_2365 (by rfl) ?_
  refine wp_iconst qL_2367 ?_
  refine wp_iadd qL_2368 ?_
  refine wp_sload (x := (1)) qL_2369 (by rfl) (by rfl) ?_
  refine wp_virtual qL_2370 (by decide) (Nat.le_of_ble_eq_true rfl) (by rfl) (by rfl) (by rfl) ⟨(Nat.le_of_ble_eq_true rfl), (Nat.le_of_ble_eq_true rfl), (Nat.le_of_ble_eq_true rfl)⟩ (Nat.le_of_ble_eq_true rfl) ?_
  refine wp_aload_n q272_0 (by rfl) ?_
  refine wp_iload_n q272_1 (by rfl) ?_
  refine wp_iconst q272_2 ?_
  refine wp_bipush q272_3 ?_
  refine wp_static q272_5 (by decide) (Nat.le_of_ble_eq_true rfl) (by rfl) (by rfl) ⟨(Nat.le_of_ble_eq_true rfl), (Nat.le_of_ble_eq_true rfl), (Nat.le_of_ble_eq_true rfl)⟩ (Nat.le_of_ble_eq_true rfl) ?_
  refine wp_iload_n q211_0 (by rfl) ?_
  refine wp_iload_n q211_1 (by rfl) ?_
  refine wp_icf (t := 14) q211_2 (by rfl) (by rfl) ?_
  refine wp_iload_n q211_5 (by rfl) ?_
  refine wp_iload_n q211_6 (by rfl) ?_
  refine wp_icf (t := 14) q211_7 (by rfl) (by rfl) ?_
  refine wp_iconst q211_10 ?_
  refine wp_goto (t := 15) q211_11 (by rfl) ?_
  refine wp_ireturn q211_15 (by rfl) (by rfl) ?_
  refine wK_v ?_
  refine wp_iff (t := 15) q272_8 (by rfl) (by rfl) ?_
  refine wp_iconst q272_11 ?_
  refine wp_goto (t := 16) q272_12 (by rfl) ?_
  refine wp_putfield q272_16 (by rfl) (Nat.le_of_ble_eq_true rfl) (by rfl) ?_
  refine wp_aload_n q272_19 (by rfl) ?_
  refine wp_getfield q272_20 (by rfl) (by rfl) ?_
  refine wp_ift (t := 30) q272_23 (by rfl) (by rfl) ?_
  refine wp_aload_n q272_30 (by rfl) ?_
  refine wp_virtual q272_31 (by decide) (Nat.le_of_ble_eq_true rfl) (by rfl) (by rfl) (by rfl) ⟨(Nat.le_of_ble_eq_true rfl), (Nat.le_of_ble_eq_true rfl), (Nat.le_of_ble_eq_true rfl)⟩ (Nat.le_of_ble_eq_true rfl) ?_
  refine wp_iconst q247_0 ?_
  refine wp_istore_n q247_1 (Nat.le_of_ble_eq_true rfl) ?_
  refine wp_iconst q247_2 ?_
  refine wp_istore_n q247_3 (Nat.le_of_ble_eq_true rfl) ?_
  refine wp_iload_n q247_4 (by rfl) ?_
  refine wp_aload_n q247_5 (by rfl) ?_
  refine wp_getfield q247_6 (by rfl) (by rfl) ?_
  refine wp_ict (t := 34) q247_9 (by rfl) (by rfl) ?_
  refine wp_iload_n q247_34 (by rfl) ?_
  refine wp_ireturn q247_35 (by rfl) (by rfl) ?_
  refine wK_v ?_
  refine wp_iload_n q272_34 (by rfl) ?_
  refine wp_iadd q272_35 ?_
  refine wp_iconst q272_36 ?_
  refine wp_isub q272_37 ?_
  refine wp_iload_n q272_38 (by rfl) ?_
  refine wp_idiv q272_39 (by decide) ?_
  refine wp_ireturn q272_40 (by rfl) (by rfl) ?_
  refine wK_v ?_
  refine wp_istore qL_2373 (Nat.le_of_ble_eq_true rfl) ?_
  refine wp_aload_n qL_2375 (by rfl) ?_
  refine wp_virtual qL_2376 (by decide) (Nat.le_of_ble_eq_true rfl) (by rfl) (by rfl) (by rfl) ⟨(Nat.le_of_ble_eq_true rfl), (Nat.le_of_ble_eq_true rfl), (Nat.le_of_ble_eq_true rfl)⟩ (Nat.le_of_ble_eq_true rfl) ?_
  refine wp_aload_n q209_0 (by rfl) ?_
  refine wp_getfield q209_1 (by rfl) (by rfl) ?_
  refine wp_ireturn q209_4 (by rfl) (by rfl) ?_
  refine wK_v ?_
  refine wp_iload qL_2379 (by rfl) ?_
  refine wp_ict (t := 2386) qL_2381 (by rfl) (by rfl) ?_
  refine wp_iload qL_2386 (by rfl) ?_
  refine wp_iff (t := 2403) qL_2388 (by rfl) (by rfl) ?_
  refine wp_aload_n qL_2391 (by rfl) ?_
  refine wp_iconst qL_2392 ?_
  refine wp_laload qL_2393 (by rfl) (by rfl) ?_
  refine wp_iload qL_2394 (by rfl) ?_
  refine wp_i2l qL_2396 ?_
  refine wp_lcmp qL_2397 ?_
  refine wp_ift (t := 2403) qL_2398 (by rfl) (by rfl) ?_
  refine wp_goto (t := 3983) qL_2403 (by rfl) ?_
  refine wp_iinc qL_3983 (by rfl) (Nat.le_of_ble_eq_true rfl) ?_
  refine wp_goto (t := 28) qL_3986 (by rfl) ?_
  refine wp_iload qL_28 (by rfl) ?_
  refine wp_aload_ns qL_30 (by rfl) ?_
  refine wp_slen (n := 5) qL_31 rfl ?_
  refine wp_iconst qL_32 ?_
  refine wp_isub qL_33 ?_
  refine wp_ict (t := 3989) qL_34 (by rfl) (by rfl) ?_
  refine wp_iconst qL_3989 ?_
  refine wp_ireturn qL_3990 (by rfl) (by rfl) ?_
  rfl
theorem pt_34_2 {x0 x2 x3 x4 : Int32} (e0 : x0 &&& 63 = Int32.ofNat 34) : wLaw [x0, (2), x2, x3, x4] := by
  unfold wLaw
  refine wp_iload qL_28 (by rfl) ?_
  refine wp_aload_ns qL_30 (by rfl) ?_
  refine wp_slen (n := 5) qL_31 rfl ?_
  refine wp_iconst qL_32 ?_
  refine wp_isub qL_33 ?_
  refine wp_icf (t := 3989) qL_34 (by rfl) (by rfl) ?_
  refine wp_aload_ns qL_37 (by rfl) ?_
  refine wp_iload qL_38 (by rfl) ?_
  refine wp_sload (x := x0) qL_40 (by rfl) (by rfl) ?_
  refine wp_bipush qL_41 ?_
  refine wp_iand qL_43 ?_
  refine wp_switch (t := 2350) qL_44 e0 (by rfl) ?_
  refine wp_aload_n qL_2350 (by rfl) ?_
  refine wp_aload_ns qL_2351 (by rfl) ?_
  refine wp_iload qL_2352 (by rfl) ?_
  refine wp_iconst qL_2354 ?_
  refine wp_iadd qL_2355 ?_
  refine wp_sload (x := (2)) qL_2356 (by rfl) (by rfl) ?_
  refine wp_aload_n qL_2357 (by rfl) ?_
  refine wp_static qL_2358 (by decide) (Nat.le_of_ble_eq_true rfl) (by rfl) (by rfl) ⟨(Nat.le_of_ble_eq_true rfl), (Nat.le_of_ble_eq_true rfl), (Nat.le_of_ble_eq_true rfl)⟩ (Nat.le_of_ble_eq_true rfl) ?_
  refine wp_aload_n q144_0 (by rfl) ?_
  refine wp_iconst q144_1 ?_
  refine wp_aload_n q144_2 (by rfl) ?_
  refine wp_iload_n q144_3 (by rfl) ?_
  refine wp_virtual q144_4 (by decide) (Nat.le_of_ble_eq_true rfl) (by rfl) (by rfl) (by rfl) ⟨(Nat.le_of_ble_eq_true rfl), (Nat.le_of_ble_eq_true rfl), (Nat.le_of_ble_eq_true rfl)⟩ (Nat.le_of_ble_eq_true rfl) ?_
  refine wp_aload_n q145_0 (by rfl) ?_
  refine wp_iload_n q145_1 (by rfl) ?_
  refine wp_virtual q145_2 (by decide) (Nat.le_of_ble_eq_true rfl) (by rfl) (by rfl) (by rfl) ⟨(Nat.le_of_ble_eq_true rfl), (Nat.le_of_ble_eq_true rfl), (Nat.le_of_ble_eq_true rfl)⟩ (Nat.le_of_ble_eq_true rfl) ?_
  refine wp_iload_n q146_0 (by rfl) ?_
  refine wp_iconst q146_1 ?_
  refine wp_bipush q146_2 ?_
  refine wp_static q146_4 (by decide) (Nat.le_of_ble_eq_true rfl) (by rfl) (by rfl) ⟨(Nat.le_of_ble_eq_true rfl), (Nat.le_of_ble_eq_true rfl), (Nat.le_of_ble_eq_true rfl)⟩ (Nat.le_of_ble_eq_true rfl) ?_
  refine wp_iload_n q47_0 (by rfl) ?_
  refine wp_iload_n q47_1 (by rfl) ?_
  refine wp_icf (t := 14) q47_2 (by rfl) (by rfl) ?_
  refine wp_iload_n q47_5 (by rfl) ?_
  refine wp_iload_n q47_6 (by rfl) ?_
  refine wp_icf (t := 14) q47_7 (by rfl) (by rfl) ?_
  refine wp_iconst q47_10 ?_
  refine wp_goto (t := 15) q47_11 (by rfl) ?_
  refine wp_ireturn q47_15 (by rfl) (by rfl) ?_
  refine wK_v ?_
  refine wp_ift (t := 21) q146_7 (by rfl) (by rfl) ?_
  refine wp_return q146_21 (by rfl) ?_
  refine wK_n ?_
  refine wp_iload_n q145_5 (by rfl) ?_
  refine wp_aload_n q145_6 (by rfl) ?_
  refine wp_virtual q145_7 (by decide) (Nat.le_of_ble_eq_true rfl) (by rfl) (by rfl) (by rfl) ⟨(Nat.le_of_ble_eq_true rfl), (Nat.le_of_ble_eq_true rfl), (Nat.le_of_ble_eq_true rfl)⟩ (Nat.le_of_ble_eq_true rfl) ?_
  refine wp_iconst q12_0 ?_
  refine wp_istore_n q12_1 (Nat.le_of_ble_eq_true rfl) ?_
  refine wp_iconst q12_2 ?_
  refine wp_istore_n q12_3 (Nat.le_of_ble_eq_true rfl) ?_
  refine wp_iload_n q12_4 (by rfl) ?_
  refine wp_aload_n q12_5 (by rfl) ?_
  refine wp_getfield q12_6 (by rfl) (by rfl) ?_
  refine wp_ict (t := 34) q12_9 (by rfl) (by rfl) ?_
  refine wp_iload_n q12_34 (by rfl) ?_
  refine wp_ireturn q12_35 (by rfl) (by rfl) ?_
  refine wK_v ?_
  refine wp_static q145_10 (by decide) (Nat.le_of_ble_eq_true rfl) (by rfl) (by rfl) ⟨(Nat.le_of_ble_eq_true rfl), (Nat.le_of_ble_eq_true rfl), (Nat.le_of_ble_eq_true rfl)⟩ (Nat.le_of_ble_eq_true rfl) ?_
  refine wp_iload_n q147_0 (by rfl) ?_
  refine wp_iff (t := 14) q147_1 (by rfl) (by rfl) ?_
  refine wp_iload_n q147_4 (by rfl) ?_
  refine wp_iload_n q147_5 (by rfl) ?_
  refine wp_iadd q147_6 ?_
  refine wp_iconst q147_7 ?_
  refine wp_isub q147_8 ?_
  refine wp_iload_n q147_9 (by rfl) ?_
  refine wp_idiv q147_10 (by decide) ?_
  refine wp_goto (t := 15) q147_11 (by rfl) ?_
  refine wp_ireturn q147_15 (by rfl) (by rfl) ?_
  refine wK_v ?_
  refine wp_ireturn q145_13 (by rfl) (by rfl) ?_
  refine wK_v ?_
  refine wp_i2l q144_7 ?_
  refine wp_lastore q144_8 (by rfl) (by rfl) ?_
  refine wp_goto (t := 15) q144_9 (by rfl) ?_
  refine wp_iconst q144_15 ?_
  refine wp_ireturn q144_16 (by rfl) (by rfl) ?_
  refine wK_v ?_
  refine wp_istore qL_2361 (Nat.le_of_ble_eq_true rfl) ?_
  refine wp_aload_n qL_2363 (by rfl) ?_
  refine wp_aload_ns qL_2364 (by rfl) ?_
  refine wp_iload qL_2365 (by rfl) ?_
  refine wp_iconst qL_2367 ?_
  refine wp_iadd qL_2368 ?_
  refine wp_sload (x := (2)) qL_2369 (by rfl) (by rfl) ?_
  refine wp_virtual qL_2370 (by decide) (Nat.le_of_ble_eq_true rfl) (by rfl) (by rfl) (by rfl) ⟨(Nat.le_of_ble_eq_true rfl), (Nat.le_of_ble_eq_true rfl), (Nat.le_of_ble_eq_true rfl)⟩ (Nat.le_of_ble_eq_true rfl) ?_
  refine wp_aload_n q272_0 (by rfl) ?_
  refine wp_iload_n q272_1 (by rfl) ?_
  refine wp_iconst q272_2 ?_
  refine wp_bipush q272_3 ?_
  refine wp_static q272_5 (by decide) (Nat.le_of_ble_eq_true rfl) (by rfl) (by rfl) ⟨(Nat.le_of_ble_eq_true rfl), (Nat.le_of_ble_eq_true rfl), (Nat.le_of_ble_eq_true rfl)⟩ (Nat.le_of_ble_eq_true rfl) ?_
  refine wp_iload_n q211_0 (by rfl) ?_
  refine wp_iload_n q211_1 (by rfl) ?_
  refine wp_icf (t := 14) q211_2 (by rfl) (by rfl) ?_
  refine wp_iload_n q211_5 (by rfl) ?_
  refine wp_iload_n q211_6 (by rfl) ?_
  refine wp_icf (t := 14) q211_7 (by rfl) (by rfl) ?_
  refine wp_iconst q211_10 ?_
  refine wp_goto (t := 15) q211_11 (by rfl) ?_
  refine wp_ireturn q211_15 (by rfl) (by rfl) ?_
  refine wK_v ?_
  refine wp_iff (t := 15) q272_8 (by rfl) (by rfl) ?_
  refine wp_iconst q272_11 ?_
  refine wp_goto (t := 16) q272_12 (by rfl) ?_
  refine wp_putfield q272_16 (by rfl) (Nat.le_of_ble_eq_true rfl) (by rfl) ?_
  refine wp_aload_n q272_19 (by rfl) ?_
  refine wp_getfield q272_20 (by rfl) (by rfl) ?_
  refine wp_ift (t := 30) q272_23 (by rfl) (by rfl) ?_
  refine wp_aload_n q272_30 (by rfl) ?_
  refine wp_virtual q272_31 (by decide) (Nat.le_of_ble_eq_true rfl) (by rfl) (by rfl) (by rfl) ⟨(Nat.le_of_ble_eq_true rfl), (Nat.le_of_ble_eq_true rfl), (Nat.le_of_ble_eq_true rfl)⟩ (Nat.le_of_ble_eq_true rfl) ?_
  refine wp_iconst q247_0 ?_
  refine wp_istore_n q247_1 (Nat.le_of_ble_eq_true rfl) ?_
  refine wp_iconst q247_2 ?_
  refine wp_istore_n q247_3 (Nat.le_of_ble_eq_true rfl) ?_
  refine wp_iload_n q247_4 (by rfl) ?_
  refine wp_aload_n q247_5 (by rfl) ?_
  refine wp_getfield q247_6 (by rfl) (by rfl) ?_
  refine wp_ict (t := 34) q247_9 (by rfl) (by rfl) ?_
  refine wp_iload_n q247_34 (by rfl) ?_
  refine wp_ireturn q247_35 (by rfl) (by rfl) ?_
  refine wK_v ?_
  refine wp_iload_n q272_34 (by rfl) ?_
  refine wp_iadd q272_35 ?_
  refine wp_iconst q272_36 ?_
  refine wp_isub q272_37 ?_
  refine wp_iload_n q272_38 (by rfl) ?_
  refine wp_idiv q272_39 (by decide) ?_
  refine wp_ireturn q272_40 (by rfl) (by rfl) ?_
  refine wK_v ?_
  refine wp_istore qL_2373 (Nat.le_of_ble_eq_true rfl) ?_
  refine wp_aload_n qL_2375 (by rfl) ?_
  refine wp_virtual qL_2376 (by decide) (Nat.le_of_ble_eq_true rfl) (by rfl) (by rfl) (by rfl) ⟨(Nat.le_of_ble_eq_true rfl), (Nat.le_of_ble_eq_true rfl), (Nat.le_of_ble_eq_true rfl)⟩ (Nat.le_of_ble_eq_true rfl) ?_
  refine wp_aload_n q209_0 (by rfl) ?_
  refine wp_getfield q209_1 (by rfl) (by rfl) ?_
  refine wp_ireturn q209_4 (by rfl) (by rfl) ?_
  refine wK_v ?_
  refine wp_iload qL_2379 (by rfl) ?_
  refine wp_ict (t := 2386) qL_2381 (by rfl) (by rfl) ?_
  refine wp_iload qL_2386 (by rfl) ?_
  refine wp_iff (t := 2403) qL_2388 (by rfl) (by rfl) ?_
  refine wp_aload_n qL_2391 (by rfl) ?_
  refine wp_iconst qL_2392 ?_
  refine wp_laload qL_2393 (by rfl) (by rfl) ?_
  refine wp_iload qL_2394 (by rfl) ?_
  refine wp_i2l qL_2396 ?_
  refine wp_lcmp qL_2397 ?_
  refine wp_ift (t := 2403) qL_2398 (by rfl) (by rfl) ?_
  refine wp_goto (t := 3983) qL_2403 (by rfl) ?_
  refine wp_iinc qL_3983 (by rfl) (Nat.le_of_ble_eq_true rfl) ?_
  refine wp_goto (t := 28) qL_3986 (by rfl) ?_
  refine wp_iload qL_28 (by rfl) ?_
  refine wp_aload_ns qL_30 (by rfl) ?_
  refine wp_slen (n := 5) qL_31 rfl ?_
  refine wp_iconst qL_32 ?_
  refine wp_isub qL_33 ?_
  refine wp_ict (t := 3989) qL_34 (by rfl) (by rfl) ?_
  refine wp_iconst qL_3989 ?_
  refine wp_ireturn qL_3990 (by rfl) (by rfl) ?_
  rfl
theorem pt_34_3 {x0 x2 x3 x4 : Int32} (e0 : x0 &&& 63 = Int32.ofNat 34) : wLaw [x0, (3), x2, x3, x4] := by
  unfold wLaw
  refine wp_iload qL_28 (by rfl) ?_
  refine wp_aload_ns qL_30 (by rfl) ?_
  refine wp_slen (n := 5) qL_31 rfl ?_
  refine wp_iconst qL_32 ?_
  refine wp_isub qL_33 ?_
  refine wp_icf (t := 3989) qL_34 (by rfl) (by rfl) ?_
  refine wp_aload_ns qL_37 (by rfl) ?_
  refine wp_iload qL_38 (by rfl) ?_
  refine wp_sload (x := x0) qL_40 (by rfl) (by rfl) ?_
  refine wp_bipush qL_41 ?_
  refine wp_iand qL_43 ?_
  refine wp_switch (t := 2350) qL_44 e0 (by rfl) ?_
  refine wp_aload_n qL_2350 (by rfl) ?_
  refine wp_aload_ns qL_2351 (by rfl) ?_
  refine wp_iload qL_2352 (by rfl) ?_
  refine wp_iconst qL_2354 ?_
  refine wp_iadd qL_2355 ?_
  refine wp_sload (x := (3)) qL_2356 (by rfl) (by rfl) ?_
  refine wp_aload_n qL_2357 (by rfl) ?_
  refine wp_static qL_2358 (by decide) (Nat.le_of_ble_eq_true rfl) (by rfl) (by rfl) ⟨(Nat.le_of_ble_eq_true rfl), (Nat.le_of_ble_eq_true rfl), (Nat.le_of_ble_eq_true rfl)⟩ (Nat.le_of_ble_eq_true rfl) ?_
  refine wp_aload_n q144_0 (by rfl) ?_
  refine wp_iconst q144_1 ?_
  refine wp_aload_n q144_2 (by rfl) ?_
  refine wp_iload_n q144_3 (by rfl) ?_
  refine wp_virtual q144_4 (by decide) (Nat.le_of_ble_eq_true rfl) (by rfl) (by rfl) (by rfl) ⟨(Nat.le_of_ble_eq_true rfl), (Nat.le_of_ble_eq_true rfl), (Nat.le_of_ble_eq_true rfl)⟩ (Nat.le_of_ble_eq_true rfl) ?_
  refine wp_aload_n q145_0 (by rfl) ?_
  refine wp_iload_n q145_1 (by rfl) ?_
  refine wp_virtual q145_2 (by decide) (Nat.le_of_ble_eq_true rfl) (by rfl) (by rfl) (by rfl) ⟨(Nat.le_of_ble_eq_true rfl), (Nat.le_of_ble_eq_true rfl), (Nat.le_of_ble_eq_true rfl)⟩ (Nat.le_of_ble_eq_true rfl) ?_
  refine wp_iload_n q146_0 (by rfl) ?_
  refine wp_iconst q146_1 ?_
  refine wp_bipush q146_2 ?_
  refine wp_static q146_4 (by decide) (Nat.le_of_ble_eq_true rfl) (by rfl) (by rfl) ⟨(Nat.le_of_ble_eq_true rfl), (Nat.le_of_ble_eq_true rfl), (Nat.le_of_ble_eq_true rfl)⟩ (Nat.le_of_ble_eq_true rfl) ?_
  refine wp_iload_n q47_0 (by rfl) ?_
  refine wp_iload_n q47_1 (by rfl) ?_
  refine wp_icf (t := 14) q47_2 (by rfl) (by rfl) ?_
  refine wp_iload_n q47_5 (by rfl) ?_
  refine wp_iload_n q47_6 (by rfl) ?_
  refine wp_icf (t := 14) q47_7 (by rfl) (by rfl) ?_
  refine wp_iconst q47_10 ?_
  refine wp_goto (t := 15) q47_11 (by rfl) ?_
  refine wp_ireturn q47_15 (by rfl) (by rfl) ?_
  refine wK_v ?_
  refine wp_ift (t := 21) q146_7 (by rfl) (by rfl) ?_
  refine wp_return q146_21 (by rfl) ?_
  refine wK_n ?_
  refine wp_iload_n q145_5 (by rfl) ?_
  refine wp_aload_n q145_6 (by rfl) ?_
  refine wp_virtual q145_7 (by decide) (Nat.le_of_ble_eq_true rfl) (by rfl) (by rfl) (by rfl) ⟨(Nat.le_of_ble_eq_true rfl), (Nat.le_of_ble_eq_true rfl), (Nat.le_of_ble_eq_true rfl)⟩ (Nat.le_of_ble_eq_true rfl) ?_
  refine wp_iconst q12_0 ?_
  refine wp_istore_n q12_1 (Nat.le_of_ble_eq_true rfl) ?_
  refine wp_iconst q12_2 ?_
  refine wp_istore_n q12_3 (Nat.le_of_ble_eq_true rfl) ?_
  refine wp_iload_n q12_4 (by rfl) ?_
  refine wp_aload_n q12_5 (by rfl) ?_
  refine wp_getfield q12_6 (by rfl) (by rfl) ?_
  refine wp_ict (t := 34) q12_9 (by rfl) (by rfl) ?_
  refine wp_iload_n q12_34 (by rfl) ?_
  refine wp_ireturn q12_35 (by rfl) (by rfl) ?_
  refine wK_v ?_
  refine wp_static q145_10 (by decide) (Nat.le_of_ble_eq_true rfl) (by rfl) (by rfl) ⟨(Nat.le_of_ble_eq_true rfl), (Nat.le_of_ble_eq_true rfl), (Nat.le_of_ble_eq_true rfl)⟩ (Nat.le_of_ble_eq_true rfl) ?_
  refine wp_iload_n q147_0 (by rfl) ?_
  refine wp_iff (t := 14) q147_1 (by rfl) (by rfl) ?_
  refine wp_iload_n q147_4 (by rfl) ?_
  refine wp_iload_n q147_5 (by rfl) ?_
  refine wp_iadd q147_6 ?_
  refine wp_iconst q147_7 ?_
  refine wp_isub q147_8 ?_
  refine wp_iload_n q147_9 (by rfl) ?_
  refine wp_idiv q147_10 (by decide) ?_
  refine wp_goto (t := 15) q147_11 (by rfl) ?_
  refine wp_ireturn q147_15 (by rfl) (by rfl) ?_
  refine wK_v ?_
  refine wp_ireturn q145_13 (by rfl) (by rfl) ?_
  refine wK_v ?_
  refine wp_i2l q144_7 ?_
  refine wp_lastore q144_8 (by rfl) (by rfl) ?_
  refine wp_goto (t := 15) q144_9 (by rfl) ?_
  refine wp_iconst q144_15 ?_
  refine wp_ireturn q144_16 (by rfl) (by rfl) ?_
  refine wK_v ?_
  refine wp_istore qL_2361 (Nat.le_of_ble_eq_true rfl) ?_
  refine wp_aload_n qL_2363 (by rfl) ?_
  refine wp_aload_ns qL_2364 (by rfl) ?_
  refine wp_iload qL_2365 (by rfl) ?_
  refine wp_iconst qL_2367 ?_
  refine wp_iadd qL_2368 ?_
  refine wp_sload (x := (3)) qL_2369 (by rfl) (by rfl) ?_
  refine wp_virtual qL_2370 (by decide) (Nat.le_of_ble_eq_true rfl) (by rfl) (by rfl) (by rfl) ⟨(Nat.le_of_ble_eq_true rfl), (Nat.le_of_ble_eq_true rfl), (Nat.le_of_ble_eq_true rfl)⟩ (Nat.le_of_ble_eq_true rfl) ?_
  refine wp_aload_n q272_0 (by rfl) ?_
  refine wp_iload_n q272_1 (by rfl) ?_
  refine wp_iconst q272_2 ?_
  refine wp_bipush q272_3 ?_
  refine wp_static q272_5 (by decide) (Nat.le_of_ble_eq_true rfl) (by rfl) (by rfl) ⟨(Nat.le_of_ble_eq_true rfl), (Nat.le_of_ble_eq_true rfl), (Nat.le_of_ble_eq_true rfl)⟩ (Nat.le_of_ble_eq_true rfl) ?_
  refine wp_iload_n q211_0 (by rfl) ?_
  refine wp_iload_n q211_1 (by rfl) ?_
  refine wp_icf (t := 14) q211_2 (by rfl) (by rfl) ?_
  refine wp_iload_n q211_5 (by rfl) ?_
  refine wp_iload_n q211_6 (by rfl) ?_
  refine wp_icf (t := 14) q211_7 (by rfl) (by rfl) ?_
  refine wp_iconst q211_10 ?_
  refine wp_goto (t := 15) q211_11 (by rfl) ?_
  refine wp_ireturn q211_15 (by rfl) (by rfl) ?_
  refine wK_v ?_
  refine wp_iff (t := 15) q272_8 (by rfl) (by rfl) ?_
  refine wp_iconst q272_11 ?_
  refine wp_goto (t := 16) q272_12 (by rfl) ?_
  refine wp_putfield q272_16 (by rfl) (Nat.le_of_ble_eq_true rfl) (by rfl) ?_
  refine wp_aload_n q272_19 (by rfl) ?_
  refine wp_getfield q272_20 (by rfl) (by rfl) ?_
  refine wp_ift (t := 30) q272_23 (by rfl) (by rfl) ?_
  refine wp_aload_n q272_30 (by rfl) ?_
  refine wp_virtual q272_31 (by decide) (Nat.le_of_ble_eq_true rfl) (by rfl) (by rfl) (by rfl) ⟨(Nat.le_of_ble_eq_true rfl), (Nat.le_of_ble_eq_true rfl), (Nat.le_of_ble_eq_true rfl)⟩ (Nat.le_of_ble_eq_true rfl) ?_
  refine wp_iconst q247_0 ?_
  refine wp_istore_n q247_1 (Nat.le_of_ble_eq_true rfl) ?_
  refine wp_iconst q247_2 ?_
  refine wp_istore_n q247_3 (Nat.le_of_ble_eq_true rfl) ?_
  refine wp_iload_n q247_4 (by rfl) ?_
  refine wp_aload_n q247_5 (by rfl) ?_
  refine wp_getfield q247_6 (by rfl) (by rfl) ?_
  refine wp_ict (t := 34) q247_9 (by rfl) (by rfl) ?_
  refine wp_iload_n q247_34 (by rfl) ?_
  refine wp_ireturn q247_35 (by rfl) (by rfl) ?_
  refine wK_v ?_
  refine wp_iload_n q272_34 (by rfl) ?_
  refine wp_iadd q272_35 ?_
  refine wp_iconst q272_36 ?_
  refine wp_isub q272_37 ?_
  refine wp_iload_n q272_38 (by rfl) ?_
  refine wp_idiv q272_39 (by decide) ?_
  refine wp_ireturn q272_40 (by rfl) (by rfl) ?_
  refine wK_v ?_
  refine wp_istore qL_2373 (Nat.le_of_ble_eq_true rfl) ?_
  refine wp_aload_n qL_2375 (by rfl) ?_
  refine wp_virtual qL_2376 (by decide) (Nat.le_of_ble_eq_true rfl) (by rfl) (by rfl) (by rfl) ⟨(Nat.le_of_ble_eq_true rfl), (Nat.le_of_ble_eq_true rfl), (Nat.le_of_ble_eq_true rfl)⟩ (Nat.le_of_ble_eq_true rfl) ?_
  refine wp_aload_n q209_0 (by rfl) ?_
  refine wp_getfield q209_1 (by rfl) (by rfl) ?_
  refine wp_ireturn q209_4 (by rfl) (by rfl) ?_
  refine wK_v ?_
  refine wp_iload qL_2379 (by rfl) ?_
  refine wp_ict (t := 2386) qL_2381 (by rfl) (by rfl) ?_
  refine wp_iload qL_2386 (by rfl) ?_
  refine wp_iff (t := 2403) qL_2388 (by rfl) (by rfl) ?_
  refine wp_aload_n qL_2391 (by rfl) ?_
  refine wp_iconst qL_2392 ?_
  refine wp_laload qL_2393 (by rfl) (by rfl) ?_
  refine wp_iload qL_2394 (by rfl) ?_
  refine wp_i2l qL_2396 ?_
  refine wp_lcmp qL_2397 ?_
  refine wp_ift (t := 2403) qL_2398 (by rfl) (by rfl) ?_
  refine wp_goto (t := 3983) qL_2403 (by rfl) ?_
  refine wp_iinc qL_3983 (by rfl) (Nat.le_of_ble_eq_true rfl) ?_
  refine wp_goto (t := 28) qL_3986 (by rfl) ?_
  refine wp_iload qL_28 (by rfl) ?_
  refine wp_aload_ns qL_30 (by rfl) ?_
  refine wp_slen (n := 5) qL_31 rfl ?_
  refine wp_iconst qL_32 ?_
  refine wp_isub qL_33 ?_
  refine wp_ict (t := 3989) qL_34 (by rfl) (by rfl) ?_
  refine wp_iconst qL_3989 ?_
  refine wp_ireturn qL_3990 (by rfl) (by rfl) ?_
  rfl
theorem pt_34_4 {x0 x2 x3 x4 : Int32} (e0 : x0 &&& 63 = Int32.ofNat 34) : wLaw [x0, (4), x2, x3, x4] := by
  unfold wLaw
  refine wp_iload qL_28 (by rfl) ?_
  refine wp_aload_ns qL_30 (by rfl) ?_
  refine wp_slen (n := 5) qL_31 rfl ?_
  refine wp_iconst qL_32 ?_
  refine wp_isub qL_33 ?_
  refine wp_icf (t := 3989) qL_34 (by rfl) (by rfl) ?_
  refine wp_aload_ns qL_37 (by rfl) ?_
  refine wp_iload qL_38 (by rfl) ?_
  refine wp_sload (x := x0) qL_40 (by rfl) (by rfl) ?_
  refine wp_bipush qL_41 ?_
  refine wp_iand qL_43 ?_
  refine wp_switch (t := 2350) qL_44 e0 (by rfl) ?_
  refine wp_aload_n qL_2350 (by rfl) ?_
  refine wp_aload_ns qL_2351 (by rfl) ?_
  refine wp_iload qL_2352 (by rfl) ?_
  refine wp_iconst qL_2354 ?_
  refine wp_iadd qL_2355 ?_
  refine wp_sload (x := (4)) qL_2356 (by rfl) (by rfl) ?_
  refine wp_aload_n qL_2357 (by rfl) ?_
  refine wp_static qL_2358 (by decide) (Nat.le_of_ble_eq_true rfl) (by rfl) (by rfl) ⟨(Nat.le_of_ble_eq_true rfl), (Nat.le_of_ble_eq_true rfl), (Nat.le_of_ble_eq_true rfl)⟩ (Nat.le_of_ble_eq_true rfl) ?_
  refine wp_aload_n q144_0 (by rfl) ?_
  refine wp_iconst q144_1 ?_
  refine wp_aload_n q144_2 (by rfl) ?_
  refine wp_iload_n q144_3 (by rfl) ?_
  refine wp_virtual q144_4 (by decide) (Nat.le_of_ble_eq_true rfl) (by rfl) (by rfl) (by rfl) ⟨(Nat.le_of_ble_eq_true rfl), (Nat.le_of_ble_eq_true rfl), (Nat.le_of_ble_eq_true rfl)⟩ (Nat.le_of_ble_eq_true rfl) ?_
  refine wp_aload_n q145_0 (by rfl) ?_
  refine wp_iload_n q145_1 (by rfl) ?_
  refine wp_virtual q145_2 (by decide) (Nat.le_of_ble_eq_true rfl) (by rfl) (by rfl) (by rfl) ⟨(Nat.le_of_ble_eq_true rfl), (Nat.le_of_ble_eq_true rfl), (Nat.le_of_ble_eq_true rfl)⟩ (Nat.le_of_ble_eq_true rfl) ?_
  refine wp_iload_n q146_0 (by rfl) ?_
  refine wp_iconst q146_1 ?_
  refine wp_bipush q146_2 ?_
  refine wp_static q146_4 (by decide) (Nat.le_of_ble_eq_true rfl) (by rfl) (by rfl) ⟨(Nat.le_of_ble_eq_true rfl), (Nat.le_of_ble_eq_true rfl), (Nat.le_of_ble_eq_true rfl)⟩ (Nat.le_of_ble_eq_true rfl) ?_
  refine wp_iload_n q47_0 (by rfl) ?_
  refine wp_iload_n q47_1 (by rfl) ?_
  refine wp_icf (t := 14) q47_2 (by rfl) (by rfl) ?_
  refine wp_iload_n q47_5 (by rfl) ?_
  refine wp_iload_n q47_6 (by rfl) ?_
  refine wp_icf (t := 14) q47_7 (by rfl) (by rfl) ?_
  refine wp_iconst q47_10 ?_
  refine wp_goto (t := 15) q47_11 (by rfl) ?_
  refine wp_ireturn q47_15 (by rfl) (by rfl) ?_
  refine wK_v ?_
  refine wp_ift (t := 21) q146_7 (by rfl) (by rfl) ?_
  refine wp_return q146_21 (by rfl) ?_
  refine wK_n ?_
  refine wp_iload_n q145_5 (by rfl) ?_
  refine wp_aload_n q145_6 (by rfl) ?_
  refine wp_virtual q145_7 (by decide) (Nat.le_of_ble_eq_true rfl) (by rfl) (by rfl) (by rfl) ⟨(Nat.le_of_ble_eq_true rfl), (Nat.le_of_ble_eq_true rfl), (Nat.le_of_ble_eq_true rfl)⟩ (Nat.le_of_ble_eq_true rfl) ?_
  refine wp_iconst q12_0 ?_
  refine wp_istore_n q12_1 (Nat.le_of_ble_eq_true rfl) ?_
  refine wp_iconst q12_2 ?_
  refine wp_istore_n q12_3 (Nat.le_of_ble_eq_true rfl) ?_
  refine wp_iload_n q12_4 (by rfl) ?_
  refine wp_aload_n q12_5 (by rfl) ?_
  refine wp_getfield q12_6 (by rfl) (by rfl) ?_
  refine wp_ict (t := 34) q12_9 (by rfl) (by rfl) ?_
  refine wp_iload_n q12_34 (by rfl) ?_
  refine wp_ireturn q12_35 (by rfl) (by rfl) ?_
  refine wK_v ?_
  refine wp_static q145_10 (by decide) (Nat.le_of_ble_eq_true rfl) (by rfl) (by rfl) ⟨(Nat.le_of_ble_eq_true rfl), (Nat.le_of_ble_eq_true rfl), (Nat.le_of_ble_eq_true rfl)⟩ (Nat.le_of_ble_eq_true rfl) ?_
  refine wp_iload_n q147_0 (by rfl) ?_
  refine wp_iff (t := 14) q147_1 (by rfl) (by rfl) ?_
  refine wp_iload_n q147_4 (by rfl) ?_
  refine wp_iload_n q147_5 (by rfl) ?_
  refine wp_iadd q147_6 ?_
  refine wp_iconst q147_7 ?_
  refine wp_isub q147_8 ?_
  refine wp_iload_n q147_9 (by rfl) ?_
  refine wp_idiv q147_10 (by decide) ?_
  refine wp_goto (t := 15) q147_11 (by rfl) ?_
  refine wp_ireturn q147_15 (by rfl) (by rfl) ?_
  refine wK_v ?_
  refine wp_ireturn q145_13 (by rfl) (by rfl) ?_
  refine wK_v ?_
  refine wp_i2l q144_7 ?_
  refine wp_lastore q144_8 (by rfl) (by rfl) ?_
  refine wp_goto (t := 15) q144_9 (by rfl) ?_
  refine wp_iconst q144_15 ?_
  refine wp_ireturn q144_16 (by rfl) (by rfl) ?_
  refine wK_v ?_
  refine wp_istore qL_2361 (Nat.le_of_ble_eq_true rfl) ?_
  refine wp_aload_n qL_2363 (by rfl) ?_
  refine wp_aload_ns qL_2364 (by rfl) ?_
  refine wp_iload qL_2365 (by rfl) ?_
  refine wp_iconst qL_2367 ?_
  refine wp_iadd qL_2368 ?_
  refine wp_sload (x := (4)) qL_2369 (by rfl) (by rfl) ?_
  refine wp_virtual qL_2370 (by decide) (Nat.le_of_ble_eq_true rfl) (by rfl) (by rfl) (by rfl) ⟨(Nat.le_of_ble_eq_true rfl), (Nat.le_of_ble_eq_true rfl), (Nat.le_of_ble_eq_true rfl)⟩ (Nat.le_of_ble_eq_true rfl) ?_
  refine wp_aload_n q272_0 (by rfl) ?_
  refine wp_iload_n q272_1 (by rfl) ?_
  refine wp_iconst q272_2 ?_
  refine wp_bipush q272_3 ?_
  refine wp_static q272_5 (by decide) (Nat.le_of_ble_eq_true rfl) (by rfl) (by rfl) ⟨(Nat.le_of_ble_eq_true rfl), (Nat.le_of_ble_eq_true rfl), (Nat.le_of_ble_eq_true rfl)⟩ (Nat.le_of_ble_eq_true rfl) ?_
  refine wp_iload_n q211_0 (by rfl) ?_
  refine wp_iload_n q211_1 (by rfl) ?_
  refine wp_icf (t := 14) q211_2 (by rfl) (by rfl) ?_
  refine wp_iload_n q211_5 (by rfl) ?_
  refine wp_iload_n q211_6 (by rfl) ?_
  refine wp_icf (t := 14) q211_7 (by rfl) (by rfl) ?_
  refine wp_iconst q211_10 ?_
  refine wp_goto (t := 15) q211_11 (by rfl) ?_
  refine wp_ireturn q211_15 (by rfl) (by rfl) ?_
  refine wK_v ?_
  refine wp_iff (t := 15) q272_8 (by rfl) (by rfl) ?_
  refine wp_iconst q272_11 ?_
  refine wp_goto (t := 16) q272_12 (by rfl) ?_
  refine wp_putfield q272_16 (by rfl) (Nat.le_of_ble_eq_true rfl) (by rfl) ?_
  refine wp_aload_n q272_19 (by rfl) ?_
  refine wp_getfield q272_20 (by rfl) (by rfl) ?_
  refine wp_ift (t := 30) q272_23 (by rfl) (by rfl) ?_
  refine wp_aload_n q272_30 (by rfl) ?_
  refine wp_virtual q272_31 (by decide) (Nat.le_of_ble_eq_true rfl) (by rfl) (by rfl) (by rfl) ⟨(Nat.le_of_ble_eq_true rfl), (Nat.le_of_ble_eq_true rfl), (Nat.le_of_ble_eq_true rfl)⟩ (Nat.le_of_ble_eq_true rfl) ?_
  refine wp_iconst q247_0 ?_
  refine wp_istore_n q247_1 (Nat.le_of_ble_eq_true rfl) ?_
  refine wp_iconst q247_2 ?_
  refine wp_istore_n q247_3 (Nat.le_of_ble_eq_true rfl) ?_
  refine wp_iload_n q247_4 (by rfl) ?_
  refine wp_aload_n q247_5 (by rfl) ?_
  refine wp_getfield q247_6 (by rfl) (by rfl) ?_
  refine wp_ict (t := 34) q247_9 (by rfl) (by rfl) ?_
  refine wp_iload_n q247_34 (by rfl) ?_
  refine wp_ireturn q247_35 (by rfl) (by rfl) ?_
  refine wK_v ?_
  refine wp_iload_n q272_34 (by rfl) ?_
  refine wp_iadd q272_35 ?_
  refine wp_iconst q272_36 ?_
  refine wp_isub q272_37 ?_
  refine wp_iload_n q272_38 (by rfl) ?_
  refine wp_idiv q272_39 (by decide) ?_
  refine wp_ireturn q272_40 (by rfl) (by rfl) ?_
  refine wK_v ?_
  refine wp_istore qL_2373 (Nat.le_of_ble_eq_true rfl) ?_
  refine wp_aload_n qL_2375 (by rfl) ?_
  refine wp_virtual qL_2376 (by decide) (Nat.le_of_ble_eq_true rfl) (by rfl) (by rfl) (by rfl) ⟨(Nat.le_of_ble_eq_true rfl), (Nat.le_of_ble_eq_true rfl), (Nat.le_of_ble_eq_true rfl)⟩ (Nat.le_of_ble_eq_true rfl) ?_
  refine wp_aload_n q209_0 (by rfl) ?_
  refine wp_getfield q209_1 (by rfl) (by rfl) ?_
  refine wp_ireturn q209_4 (by rfl) (by rfl) ?_
  refine wK_v ?_
  refine wp_iload qL_2379 (by rfl) ?_
  refine wp_ict (t := 2386) qL_2381 (by rfl) (by rfl) ?_
  refine wp_iload qL_2386 (by rfl) ?_
  refine wp_iff (t := 2403) qL_2388 (by rfl) (by rfl) ?_
  refine wp_aload_n qL_2391 (by rfl) ?_
  refine wp_iconst qL_2392 ?_
  refine wp_laload qL_2393 (by rfl) (by rfl) ?_
  refine wp_iload qL_2394 (by rfl) ?_
  refine wp_i2l qL_2396 ?_
  refine wp_lcmp qL_2397 ?_
  refine wp_ift (t := 2403) qL_2398 (by rfl) (by rfl) ?_
  refine wp_goto (t := 3983) qL_2403 (by rfl) ?_
  refine wp_iinc qL_3983 (by rfl) (Nat.le_of_ble_eq_true rfl) ?_
  refine wp_goto (t := 28) qL_3986 (by rfl) ?_
  refine wp_iload qL_28 (by rfl) ?_
  refine wp_aload_ns qL_30 (by rfl) ?_
  refine wp_slen (n := 5) qL_31 rfl ?_
  refine wp_iconst qL_32 ?_
  refine wp_isub qL_33 ?_
  refine wp_ict (t := 3989) qL_34 (by rfl) (by rfl) ?_
  refine wp_iconst qL_3989 ?_
  refine wp_ireturn qL_3990 (by rfl) (by rfl) ?_
  rfl
theorem pt_34_5 {x0 x2 x3 x4 : Int32} (e0 : x0 &&& 63 = Int32.ofNat 34) : wLaw [x0, (5), x2, x3, x4] := by
  unfold wLaw
  refine wp_iload qL_28 (by rfl) ?_
  refine wp_aload_ns qL_30 (by rfl) ?_
  refine wp_slen (n := 5) qL_31 rfl ?_
  refine wp_iconst qL_32 ?_
  refine wp_isub qL_33 ?_
  refine wp_icf (t := 3989) qL_34 (by rfl) (by rfl) ?_
  refine wp_aload_ns qL_37 (by rfl) ?_
  refine wp_iload qL_38 (by rfl) ?_
  refine wp_sload (x := x0) qL_40 (by rfl) (by rfl) ?_
  refine wp_bipush qL_41 ?_
  refine wp_iand qL_43 ?_
  refine wp_switch (t := 2350) qL_44 e0 (by rfl) ?_
  refine wp_aload_n qL_2350 (by rfl) ?_
  refine wp_aload_ns qL_2351 (by rfl) ?_
  refine wp_iload qL_2352 (by rfl) ?_
  refine wp_iconst qL_2354 ?_
  refine wp_iadd qL_2355 ?_
  refine wp_sload (x := (5)) qL_2356 (by rfl) (by rfl) ?_
  refine wp_aload_n qL_2357 (by rfl) ?_
  refine wp_static qL_2358 (by decide) (Nat.le_of_ble_eq_true rfl) (by rfl) (by rfl) ⟨(Nat.le_of_ble_eq_true rfl), (Nat.le_of_ble_eq_true rfl), (Nat.le_of_ble_eq_true rfl)⟩ (Nat.le_of_ble_eq_true rfl) ?_
  refine wp_aload_n q144_0 (by rfl) ?_
  refine wp_iconst q144_1 ?_
  refine wp_aload_n q144_2 (by rfl) ?_
  refine wp_iload_n q144_3 (by rfl) ?_
  refine wp_virtual q144_4 (by decide) (Nat.le_of_ble_eq_true rfl) (by rfl) (by rfl) (by rfl) ⟨(Nat.le_of_ble_eq_true rfl), (Nat.le_of_ble_eq_true rfl), (Nat.le_of_ble_eq_true rfl)⟩ (Nat.le_of_ble_eq_true rfl) ?_
  refine wp_aload_n q145_0 (by rfl) ?_
  refine wp_iload_n q145_1 (by rfl) ?_
  refine wp_virtual q145_2 (by decide) (Nat.le_of_ble_eq_true rfl) (by rfl) (by rfl) (by rfl) ⟨(Nat.le_of_ble_eq_true rfl), (Nat.le_of_ble_eq_true rfl), (Nat.le_of_ble_eq_true rfl)⟩ (Nat.le_of_ble_eq_true rfl) ?_
  refine wp_iload_n q146_0 (by rfl) ?_
  refine wp_iconst q146_1 ?_
  refine wp_bipush q146_2 ?_
  refine wp_static q146_4 (by decide) (Nat.le_of_ble_eq_true rfl) (by rfl) (by rfl) ⟨(Nat.le_of_ble_eq_true rfl), (Nat.le_of_ble_eq_true rfl), (Nat.le_of_ble_eq_true rfl)⟩ (Nat.le_of_ble_eq_true rfl) ?_
  refine wp_iload_n q47_0 (by rfl) ?_
  refine wp_iload_n q47_1 (by rfl) ?_
  refine wp_icf (t := 14) q47_2 (by rfl) (by rfl) ?_
  refine wp_iload_n q47_5 (by rfl) ?_
  refine wp_iload_n q47_6 (by rfl) ?_
  refine wp_icf (t := 14) q47_7 (by rfl) (by rfl) ?_
  refine wp_iconst q47_10 ?_
  refine wp_goto (t := 15) q47_11 (by rfl) ?_
  refine wp_ireturn q47_15 (by rfl) (by rfl) ?_
  refine wK_v ?_
  refine wp_ift (t := 21) q146_7 (by rfl) (by rfl) ?_
  refine wp_return q146_21 (by rfl) ?_
  refine wK_n ?_
  refine wp_iload_n q145_5 (by rfl) ?_
  refine wp_aload_n q145_6 (by rfl) ?_
  refine wp_virtual q145_7 (by decide) (Nat.le_of_ble_eq_true rfl) (by rfl) (by rfl) (by rfl) ⟨(Nat.le_of_ble_eq_true rfl), (Nat.le_of_ble_eq_true rfl), (Nat.le_of_ble_eq_true rfl)⟩ (Nat.le_of_ble_eq_true rfl) ?_
  refine wp_iconst q12_0 ?_
  refine wp_istore_n q12_1 (Nat.le_of_ble_eq_true rfl) ?_
  refine wp_iconst q12_2 ?_
  refine wp_istore_n q12_3 (Nat.le_of_ble_eq_true rfl) ?_
  refine wp_iload_n q12_4 (by rfl) ?_
  refine wp_aload_n q12_5 (by rfl) ?_
  refine wp_getfield q12_6 (by rfl) (by rfl) ?_
  refine wp_ict (t := 34) q12_9 (by rfl) (by rfl) ?_
  refine wp_iload_n q12_34 (by rfl) ?_
  refine wp_ireturn q12_35 (by rfl) (by rfl) ?_
  refine wK_v ?_
  refine wp_static q145_10 (by decide) (Nat.le_of_ble_eq_true rfl) (by rfl) (by rfl) ⟨(Nat.le_of_ble_eq_true rfl), (Nat.le_of_ble_eq_true rfl), (Nat.le_of_ble_eq_true rfl)⟩ (Nat.le_of_ble_eq_true rfl) ?_
  refine wp_iload_n q147_0 (by rfl) ?_
  refine wp_iff (t := 14) q147_1 (by rfl) (by rfl) ?_
  refine wp_iload_n q147_4 (by rfl) ?_
  refine wp_iload_n q147_5 (by rfl) ?_
  refine wp_iadd q147_6 ?_
  refine wp_iconst q147_7 ?_
  refine wp_isub q147_8 ?_
  refine wp_iload_n q147_9 (by rfl) ?_
  refine wp_idiv q147_10 (by decide) ?_
  refine wp_goto (t := 15) q147_11 (by rfl) ?_
  refine wp_ireturn q147_15 (by rfl) (by rfl) ?_
  refine wK_v ?_
  refine wp_ireturn q145_13 (by rfl) (by rfl) ?_
  refine wK_v ?_
  refine wp_i2l q144_7 ?_
  refine wp_lastore q144_8 (by rfl) (by rfl) ?_
  refine wp_goto (t := 15) q144_9 (by rfl) ?_
  refine wp_iconst q144_15 ?_
  refine wp_ireturn q144_16 (by rfl) (by rfl) ?_
  refine wK_v ?_
  refine wp_istore qL_2361 (Nat.le_of_ble_eq_true rfl) ?_
  refine wp_aload_n qL_2363 (by rfl) ?_
  refine wp_aload_ns qL_2364 (by rfl) ?_
  refine wp_iload qL_2365 (by rfl) ?_
  refine wp_iconst qL_2367 ?_
  refine wp_iadd qL_2368 ?_
  refine wp_sload (x := (5)) qL_2369 (by rfl) (by rfl) ?_
  refine wp_virtual qL_2370 (by decide) (Nat.le_of_ble_eq_true rfl) (by rfl) (by rfl) (by rfl) ⟨(Nat.le_of_ble_eq_true rfl), (Nat.le_of_ble_eq_true rfl), (Nat.le_of_ble_eq_true rfl)⟩ (Nat.le_of_ble_eq_true rfl) ?_
  refine wp_aload_n q272_0 (by rfl) ?_
  refine wp_iload_n q272_1 (by rfl) ?_
  refine wp_iconst q272_2 ?_
  refine wp_bipush q272_3 ?_
  refine wp_static q272_5 (by decide) (Nat.le_of_ble_eq_true rfl) (by rfl) (by rfl) ⟨(Nat.le_of_ble_eq_true rfl), (Nat.le_of_ble_eq_true rfl), (Nat.le_of_ble_eq_true rfl)⟩ (Nat.le_of_ble_eq_true rfl) ?_
  refine wp_iload_n q211_0 (by rfl) ?_
  refine wp_iload_n q211_1 (by rfl) ?_
  refine wp_icf (t := 14) q211_2 (by rfl) (by rfl) ?_
  refine wp_iload_n q211_5 (by rfl) ?_
  refine wp_iload_n q211_6 (by rfl) ?_
  refine wp_icf (t := 14) q211_7 (by rfl) (by rfl) ?_
  refine wp_iconst q211_10 ?_
  refine wp_goto (t := 15) q211_11 (by rfl) ?_
  refine wp_ireturn q211_15 (by rfl) (by rfl) ?_
  refine wK_v ?_
  refine wp_iff (t := 15) q272_8 (by rfl) (by rfl) ?_
  refine wp_iconst q272_11 ?_
  refine wp_goto (t := 16) q272_12 (by rfl) ?_
  refine wp_putfield q272_16 (by rfl) (Nat.le_of_ble_eq_true rfl) (by rfl) ?_
  refine wp_aload_n q272_19 (by rfl) ?_
  refine wp_getfield q272_20 (by rfl) (by rfl) ?_
  refine wp_ift (t := 30) q272_23 (by rfl) (by rfl) ?_
  refine wp_aload_n q272_30 (by rfl) ?_
  refine wp_virtual q272_31 (by decide) (Nat.le_of_ble_eq_true rfl) (by rfl) (by rfl) (by rfl) ⟨(Nat.le_of_ble_eq_true rfl), (Nat.le_of_ble_eq_true rfl), (Nat.le_of_ble_eq_true rfl)⟩ (Nat.le_of_ble_eq_true rfl) ?_
  refine wp_iconst q247_0 ?_
  refine wp_istore_n q247_1 (Nat.le_of_ble_eq_true rfl) ?_
  refine wp_iconst q247_2 ?_
  refine wp_istore_n q247_3 (Nat.le_of_ble_eq_true rfl) ?_
  refine wp_iload_n q247_4 (by rfl) ?_
  refine wp_aload_n q247_5 (by rfl) ?_
  refine wp_getfield q247_6 (by rfl) (by rfl) ?_
  refine wp_ict (t := 34) q247_9 (by rfl) (by rfl) ?_
  refine wp_iload_n q247_34 (by rfl) ?_
  refine wp_ireturn q247_35 (by rfl) (by rfl) ?_
  refine wK_v ?_
  refine wp_iload_n q272_34 (by rfl) ?_
  refine wp_iadd q272_35 ?_
  refine wp_iconst q272_36 ?_
  refine wp_isub q272_37 ?_
  refine wp_iload_n q272_38 (by rfl) ?_
  refine wp_idiv q272_39 (by decide) ?_
  refine wp_ireturn q272_40 (by rfl) (by rfl) ?_
  refine wK_v ?_
  refine wp_istore qL_2373 (Nat.le_of_ble_eq_true rfl) ?_
  refine wp_aload_n qL_2375 (by rfl) ?_
  refine wp_virtual qL_2376 (by decide) (Nat.le_of_ble_eq_true rfl) (by rfl) (by rfl) (by rfl) ⟨(Nat.le_of_ble_eq_true rfl), (Nat.le_of_ble_eq_true rfl), (Nat.le_of_ble_eq_true rfl)⟩ (Nat.le_of_ble_eq_true rfl) ?_
  refine wp_aload_n q209_0 (by rfl) ?_
  refine wp_getfield q209_1 (by rfl) (by rfl) ?_
  refine wp_ireturn q209_4 (by rfl) (by rfl) ?_
  refine wK_v ?_
  refine wp_iload qL_2379 (by rfl) ?_
  refine wp_ict (t := 2386) qL_2381 (by rfl) (by rfl) ?_
  refine wp_iload qL_2386 (by rfl) ?_
  refine wp_iff (t := 2403) qL_2388 (by rfl) (by rfl) ?_
  refine wp_aload_n qL_2391 (by rfl) ?_
  refine wp_iconst qL_2392 ?_
  refine wp_laload qL_2393 (by rfl) (by rfl) ?_
  refine wp_iload qL_2394 (by rfl) ?_
  refine wp_i2l qL_2396 ?_
  refine wp_lcmp qL_2397 ?_
  refine wp_ift (t := 2403) qL_2398 (by rfl) (by rfl) ?_
  refine wp_goto (t := 3983) qL_2403 (by rfl) ?_
  refine wp_iinc qL_3983 (by rfl) (Nat.le_of_ble_eq_true rfl) ?_
  refine wp_goto (t := 28) qL_3986 (by rfl) ?_
  refine wp_iload qL_28 (by rfl) ?_
  refine wp_aload_ns qL_30 (by rfl) ?_
  refine wp_slen (n := 5) qL_31 rfl ?_
  refine wp_iconst qL_32 ?_
  refine wp_isub qL_33 ?_
  refine wp_ict (t := 3989) qL_34 (by rfl) (by rfl) ?_
  refine wp_iconst qL_3989 ?_
  refine wp_ireturn qL_3990 (by rfl) (by rfl) ?_
  rfl
theorem pt_34_6 {x0 x2 x3 x4 : Int32} (e0 : x0 &&& 63 = Int32.ofNat 34) : wLaw [x0, (6), x2, x3, x4] := by
  unfold wLaw
  refine wp_iload qL_28 (by rfl) ?_
  refine wp_aload_ns qL_30 (by rfl) ?_
  refine wp_slen (n := 5) qL_31 rfl ?_
  refine wp_iconst qL_32 ?_
  refine wp_isub qL_33 ?_
  refine wp_icf (t := 3989) qL_34 (by rfl) (by rfl) ?_
  refine wp_aload_ns qL_37 (by rfl) ?_
  refine wp_iload qL_38 (by rfl) ?_
  refine wp_sload (x := x0) qL_40 (by rfl) (by rfl) ?_
  refine wp_bipush qL_41 ?_
  refine wp_iand qL_43 ?_
  refine wp_switch (t := 2350) qL_44 e0 (by rfl) ?_
  refine wp_aload_n qL_2350 (by rfl) ?_
  refine wp_aload_ns qL_2351 (by rfl) ?_
  refine wp_iload qL_2352 (by rfl) ?_
  refine wp_iconst qL_2354 ?_
  refine wp_iadd qL_2355 ?_
  refine wp_sload (x := (6)) qL_2356 (by rfl) (by rfl) ?_
  refine wp_aload_n qL_2357 (by rfl) ?_
  refine wp_static qL_2358 (by decide) (Nat.le_of_ble_eq_true rfl) (by rfl) (by rfl) ⟨(Nat.le_of_ble_eq_true rfl), (Nat.le_of_ble_eq_true rfl), (Nat.le_of_ble_eq_true rfl)⟩ (Nat.le_of_ble_eq_true rfl) ?_
  refine wp_aload_n q144_0 (by rfl) ?_
  refine wp_iconst q144_1 ?_
  refine wp_aload_n q144_2 (by rfl) ?_
  refine wp_iload_n q144_3 (by rfl) ?_
  refine wp_virtual q144_4 (by decide) (Nat.le_of_ble_eq_true rfl) (by rfl) (by rfl) (by rfl) ⟨(Nat.le_of_ble_eq_true rfl), (Nat.le_of_ble_eq_true rfl), (Nat.le_of_ble_eq_true rfl)⟩ (Nat.le_of_ble_eq_true rfl) ?_
  refine wp_aload_n q145_0 (by rfl) ?_
  refine wp_iload_n q145_1 (by rfl) ?_
  refine wp_virtual q145_2 (by decide) (Nat.le_of_ble_eq_true rfl) (by rfl) (by rfl) (by rfl) ⟨(Nat.le_of_ble_eq_true rfl), (Nat.le_of_ble_eq_true rfl), (Nat.le_of_ble_eq_true rfl)⟩ (Nat.le_of_ble_eq_true rfl) ?_
  refine wp_iload_n q146_0 (by rfl) ?_
  refine wp_iconst q146_1 ?_
  refine wp_bipush q146_2 ?_
  refine wp_static q146_4 (by decide) (Nat.le_of_ble_eq_true rfl) (by rfl) (by rfl) ⟨(Nat.le_of_ble_eq_true rfl), (Nat.le_of_ble_eq_true rfl), (Nat.le_of_ble_eq_true rfl)⟩ (Nat.le_of_ble_eq_true rfl) ?_
  refine wp_iload_n q47_0 (by rfl) ?_
  refine wp_iload_n q47_1 (by rfl) ?_
  refine wp_icf (t := 14) q47_2 (by rfl) (by rfl) ?_
  refine wp_iload_n q47_5 (by rfl) ?_
  refine wp_iload_n q47_6 (by rfl) ?_
  refine wp_icf (t := 14) q47_7 (by rfl) (by rfl) ?_
  refine wp_iconst q47_10 ?_
  refine wp_goto (t := 15) q47_11 (by rfl) ?_
  refine wp_ireturn q47_15 (by rfl) (by rfl) ?_
  refine wK_v ?_
  refine wp_ift (t := 21) q146_7 (by rfl) (by rfl) ?_
  refine wp_return q146_21 (by rfl) ?_
  refine wK_n ?_
  refine wp_iload_n q145_5 (by rfl) ?_
  refine wp_aload_n q145_6 (by rfl) ?_
  refine wp_virtual q145_7 (by decide) (Nat.le_of_ble_eq_true rfl) (by rfl) (by rfl) (by rfl) ⟨(Nat.le_of_ble_eq_true rfl), (Nat.le_of_ble_eq_true rfl), (Nat.le_of_ble_eq_true rfl)⟩ (Nat.le_of_ble_eq_true rfl) ?_
  refine wp_iconst q12_0 ?_
  refine wp_istore_n q12_1 (Nat.le_of_ble_eq_true rfl) ?_
  refine wp_iconst q12_2 ?_
  refine wp_istore_n q12_3 (Nat.le_of_ble_eq_true rfl) ?_
  refine wp_iload_n q12_4 (by rfl) ?_
  refine wp_aload_n q12_5 (by rfl) ?_
  refine wp_getfield q12_6 (by rfl) (by rfl) ?_
  refine wp_ict (t := 34) q12_9 (by rfl) (by rfl) ?_
  refine wp_iload_n q12_34 (by rfl) ?_
  refine wp_ireturn q12_35 (by rfl) (by rfl) ?_
  refine wK_v ?_
  refine wp_static q145_10 (by decide) (Nat.le_of_ble_eq_true rfl) (by rfl) (by rfl) ⟨(Nat.le_of_ble_eq_true rfl), (Nat.le_of_ble_eq_true rfl), (Nat.le_of_ble_eq_true rfl)⟩ (Nat.le_of_ble_eq_true rfl) ?_
  refine wp_iload_n q147_0 (by rfl) ?_
  refine wp_iff (t := 14) q147_1 (by rfl) (by rfl) ?_
  refine wp_iload_n q147_4 (by rfl) ?_
  refine wp_iload_n q147_5 (by rfl) ?_
  refine wp_iadd q147_6 ?_
  refine wp_iconst q147_7 ?_
  refine wp_isub q147_8 ?_
  refine wp_iload_n q147_9 (by rfl) ?_
  refine wp_idiv q147_10 (by decide) ?_
  refine wp_goto (t := 15) q147_11 (by rfl) ?_
  refine wp_ireturn q147_15 (by rfl) (by rfl) ?_
  refine wK_v ?_
  refine wp_ireturn q145_13 (by rfl) (by rfl) ?_
  refine wK_v ?_
  refine wp_i2l q144_7 ?_
  refine wp_lastore q144_8 (by rfl) (by rfl) ?_
  refine wp_goto (t := 15) q144_9 (by rfl) ?_
  refine wp_iconst q144_15 ?_
  refine wp_ireturn q144_16 (by rfl) (by rfl) ?_
  refine wK_v ?_
  refine wp_istore qL_2361 (Nat.le_of_ble_eq_true rfl) ?_
  refine wp_aload_n qL_2363 (by rfl) ?_
  refine wp_aload_ns qL_2364 (by rfl) ?_
  refine wp_iload qL_2365 (by rfl) ?_
  refine wp_iconst qL_2367 ?_
  refine wp_iadd qL_2368 ?_
  refine wp_sload (x := (6)) qL_2369 (by rfl) (by rfl) ?_
  refine wp_virtual qL_2370 (by decide) (Nat.le_of_ble_eq_true rfl) (by rfl) (by rfl) (by rfl) ⟨(Nat.le_of_ble_eq_true rfl), (Nat.le_of_ble_eq_true rfl), (Nat.le_of_ble_eq_true rfl)⟩ (Nat.le_of_ble_eq_true rfl) ?_
  refine wp_aload_n q272_0 (by rfl) ?_
  refine wp_iload_n q272_1 (by rfl) ?_
  refine wp_iconst q272_2 ?_
  refine wp_bipush q272_3 ?_
  refine wp_static q272_5 (by decide) (Nat.le_of_ble_eq_true rfl) (by rfl) (by rfl) ⟨(Nat.le_of_ble_eq_true rfl), (Nat.le_of_ble_eq_true rfl), (Nat.le_of_ble_eq_true rfl)⟩ (Nat.le_of_ble_eq_true rfl) ?_
  refine wp_iload_n q211_0 (by rfl) ?_
  refine wp_iload_n q211_1 (by rfl) ?_
  refine wp_icf (t := 14) q211_2 (by rfl) (by rfl) ?_
  refine wp_iload_n q211_5 (by rfl) ?_
  refine wp_iload_n q211_6 (by rfl) ?_
  refine wp_icf (t := 14) q211_7 (by rfl) (by rfl) ?_
  refine wp_iconst q211_10 ?_
  refine wp_goto (t := 15) q211_11 (by rfl) ?_
  refine wp_ireturn q211_15 (by rfl) (by rfl) ?_
  refine wK_v ?_
  refine wp_iff (t := 15) q272_8 (by rfl) (by rfl) ?_
  refine wp_iconst q272_11 ?_
  refine wp_goto (t := 16) q272_12 (by rfl) ?_
  refine wp_putfield q272_16 (by rfl) (Nat.le_of_ble_eq_true rfl) (by rfl) ?_
  refine wp_aload_n q272_19 (by rfl) ?_
  refine wp_getfield q272_20 (by rfl) (by rfl) ?_
  refine wp_ift (t := 30) q272_23 (by rfl) (by rfl) ?_
  refine wp_aload_n q272_30 (by rfl) ?_
  refine wp_virtual q272_31 (by decide) (Nat.le_of_ble_eq_true rfl) (by rfl) (by rfl) (by rfl) ⟨(Nat.le_of_ble_eq_true rfl), (Nat.le_of_ble_eq_true rfl), (Nat.le_of_ble_eq_true rfl)⟩ (Nat.le_of_ble_eq_true rfl) ?_
  refine wp_iconst q247_0 ?_
  refine wp_istore_n q247_1 (Nat.le_of_ble_eq_true rfl) ?_
  refine wp_iconst q247_2 ?_
  refine wp_istore_n q247_3 (Nat.le_of_ble_eq_true rfl) ?_
  refine wp_iload_n q247_4 (by rfl) ?_
  refine wp_aload_n q247_5 (by rfl) ?_
  refine wp_getfield q247_6 (by rfl) (by rfl) ?_
  refine wp_ict (t := 34) q247_9 (by rfl) (by rfl) ?_
  refine wp_iload_n q247_34 (by rfl) ?_
  refine wp_ireturn q247_35 (by rfl) (by rfl) ?_
  refine wK_v ?_
  refine wp_iload_n q272_34 (by rfl) ?_
  refine wp_iadd q272_35 ?_
  refine wp_iconst q272_36 ?_
  refine wp_isub q272_37 ?_
  refine wp_iload_n q272_38 (by rfl) ?_
  refine wp_idiv q272_39 (by decide) ?_
  refine wp_ireturn q272_40 (by rfl) (by rfl) ?_
  refine wK_v ?_
  refine wp_istore qL_2373 (Nat.le_of_ble_eq_true rfl) ?_
  refine wp_aload_n qL_2375 (by rfl) ?_
  refine wp_virtual qL_2376 (by decide) (Nat.le_of_ble_eq_true rfl) (by rfl) (by rfl) (by rfl) ⟨(Nat.le_of_ble_eq_true rfl), (Nat.le_of_ble_eq_true rfl), (Nat.le_of_ble_eq_true rfl)⟩ (Nat.le_of_ble_eq_true rfl) ?_
  refine wp_aload_n q209_0 (by rfl) ?_
  refine wp_getfield q209_1 (by rfl) (by rfl) ?_
  refine wp_ireturn q209_4 (by rfl) (by rfl) ?_
  refine wK_v ?_
  refine wp_iload qL_2379 (by rfl) ?_
  refine wp_ict (t := 2386) qL_2381 (by rfl) (by rfl) ?_
  refine wp_iload qL_2386 (by rfl) ?_
  refine wp_iff (t := 2403) qL_2388 (by rfl) (by rfl) ?_
  refine wp_aload_n qL_2391 (by rfl) ?_
  refine wp_iconst qL_2392 ?_
  refine wp_laload qL_2393 (by rfl) (by rfl) ?_
  refine wp_iload qL_2394 (by rfl) ?_
  refine wp_i2l qL_2396 ?_
  refine wp_lcmp qL_2397 ?_
  refine wp_ift (t := 2403) qL_2398 (by rfl) (by rfl) ?_
  refine wp_goto (t := 3983) qL_2403 (by rfl) ?_
  refine wp_iinc qL_3983 (by rfl) (Nat.le_of_ble_eq_true rfl) ?_
  refine wp_goto (t := 28) qL_3986 (by rfl) ?_
  refine wp_iload qL_28 (by rfl) ?_
  refine wp_aload_ns qL_30 (by rfl) ?_
  refine wp_slen (n := 5) qL_31 rfl ?_
  refine wp_iconst qL_32 ?_
  refine wp_isub qL_33 ?_
  refine wp_ict (t := 3989) qL_34 (by rfl) (by rfl) ?_
  refine wp_iconst qL_3989 ?_
  refine wp_ireturn qL_3990 (by rfl) (by rfl) ?_
  rfl
theorem pt_34_7 {x0 x2 x3 x4 : Int32} (e0 : x0 &&& 63 = Int32.ofNat 34) : wLaw [x0, (7), x2, x3, x4] := by
  unfold wLaw
  refine wp_iload qL_28 (by rfl) ?_
  refine wp_aload_ns qL_30 (by rfl) ?_
  refine wp_slen (n := 5) qL_31 rfl ?_
  refine wp_iconst qL_32 ?_
  refine wp_isub qL_33 ?_
  refine wp_icf (t := 3989) qL_34 (by rfl) (by rfl) ?_
  refine wp_aload_ns qL_37 (by rfl) ?_
  refine wp_iload qL_38 (by rfl) ?_
  refine wp_sload (x := x0) qL_40 (by rfl) (by rfl) ?_
  refine wp_bipush qL_41 ?_
  refine wp_iand qL_43 ?_
  refine wp_switch (t := 2350) qL_44 e0 (by rfl) ?_
  refine wp_aload_n qL_2350 (by rfl) ?_
  refine wp_aload_ns qL_2351 (by rfl) ?_
  refine wp_iload qL_2352 (by rfl) ?_
  refine wp_iconst qL_2354 ?_
  refine wp_iadd qL_2355 ?_
  refine wp_sload (x := (7)) qL_2356 (by rfl) (by rfl) ?_
  refine wp_aload_n qL_2357 (by rfl) ?_
  refine wp_static qL_2358 (by decide) (Nat.le_of_ble_eq_true rfl) (by rfl) (by rfl) ⟨(Nat.le_of_ble_eq_true rfl), (Nat.le_of_ble_eq_true rfl), (Nat.le_of_ble_eq_true rfl)⟩ (Nat.le_of_ble_eq_true rfl) ?_
  refine wp_aload_n q144_0 (by rfl) ?_
  refine wp_iconst q144_1 ?_
  refine wp_aload_n q144_2 (by rfl) ?_
  refine wp_iload_n q144_3 (by rfl) ?_
  refine wp_virtual q144_4 (by decide) (Nat.le_of_ble_eq_true rfl) (by rfl) (by rfl) (by rfl) ⟨(Nat.le_of_ble_eq_true rfl), (Nat.le_of_ble_eq_true rfl), (Nat.le_of_ble_eq_true rfl)⟩ (Nat.le_of_ble_eq_true rfl) ?_
  refine wp_aload_n q145_0 (by rfl) ?_
  refine wp_iload_n q145_1 (by rfl) ?_
  refine wp_virtual q145_2 (by decide) (Nat.le_of_ble_eq_true rfl) (by rfl) (by rfl) (by rfl) ⟨(Nat.le_of_ble_eq_true rfl), (Nat.le_of_ble_eq_true rfl), (Nat.le_of_ble_eq_true rfl)⟩ (Nat.le_of_ble_eq_true rfl) ?_
  refine wp_iload_n q146_0 (by rfl) ?_
  refine wp_iconst q146_1 ?_
  refine wp_bipush q146_2 ?_
  refine wp_static q146_4 (by decide) (Nat.le_of_ble_eq_true rfl) (by rfl) (by rfl) ⟨(Nat.le_of_ble_eq_true rfl), (Nat.le_of_ble_eq_true rfl), (Nat.le_of_ble_eq_true rfl)⟩ (Nat.le_of_ble_eq_true rfl) ?_
  refine wp_iload_n q47_0 (by rfl) ?_
  refine wp_iload_n q47_1 (by rfl) ?_
  refine wp_icf (t := 14) q47_2 (by rfl) (by rfl) ?_
  refine wp_iload_n q47_5 (by rfl) ?_
  refine wp_iload_n q47_6 (by rfl) ?_
  refine wp_icf (t := 14) q47_7 (by rfl) (by rfl) ?_
  refine wp_iconst q47_10 ?_
  refine wp_goto (t := 15) q47_11 (by rfl) ?_
  refine wp_ireturn q47_15 (by rfl) (by rfl) ?_
  refine wK_v ?_
  refine wp_ift (t := 21) q146_7 (by rfl) (by rfl) ?_
  refine wp_return q146_21 (by rfl) ?_
  refine wK_n ?_
  refine wp_iload_n q145_5 (by rfl) ?_
  refine wp_aload_n q145_6 (by rfl) ?_
  refine wp_virtual q145_7 (by decide) (Nat.le_of_ble_eq_true rfl) (by rfl) (by rfl) (by rfl) ⟨(Nat.le_of_ble_eq_true rfl), (Nat.le_of_ble_eq_true rfl), (Nat.le_of_ble_eq_true rfl)⟩ (Nat.le_of_ble_eq_true rfl) ?_
  refine wp_iconst q12_0 ?_
  refine wp_istore_n q12_1 (Nat.le_of_ble_eq_true rfl) ?_
  refine wp_iconst q12_2 ?_
  refine wp_istore_n q12_3 (Nat.le_of_ble_eq_true rfl) ?_
  refine wp_iload_n q12_4 (by rfl) ?_
  refine wp_aload_n q12_5 (by rfl) ?_
  refine wp_getfield q12_6 (by rfl) (by rfl) ?_
  refine wp_ict (t := 34) q12_9 (by rfl) (by rfl) ?_
  refine wp_iload_n q12_34 (by rfl) ?_
  refine wp_ireturn q12_35 (by rfl) (by rfl) ?_
  refine wK_v ?_
  refine wp_static q145_10 (by decide) (Nat.le_of_ble_eq_true rfl) (by rfl) (by rfl) ⟨(Nat.le_of_ble_eq_true rfl), (Nat.le_of_ble_eq_true rfl), (Nat.le_of_ble_eq_true rfl)⟩ (Nat.le_of_ble_eq_true rfl) ?_
  refine wp_iload_n q147_0 (by rfl) ?_
  refine wp_iff (t := 14) q147_1 (by rfl) (by rfl) ?_
  refine wp_iload_n q147_4 (by rfl) ?_
  refine wp_iload_n q147_5 (by rfl) ?_
  refine wp_iadd q147_6 ?_
  refine wp_iconst q147_7 ?_
  refine wp_isub q147_8 ?_
  refine wp_iload_n q147_9 (by rfl) ?_
  refine wp_idiv q147_10 (by decide) ?_
  refine wp_goto (t := 15) q147_11 (by rfl) ?_
  refine wp_ireturn q147_15 (by rfl) (by rfl) ?_
  refine wK_v ?_
  refine wp_ireturn q145_13 (by rfl) (by rfl) ?_
  refine wK_v ?_
  refine wp_i2l q144_7 ?_
  refine wp_lastore q144_8 (by rfl) (by rfl) ?_
  refine wp_goto (t := 15) q144_9 (by rfl) ?_
  refine wp_iconst q144_15 ?_
  refine wp_ireturn q144_16 (by rfl) (by rfl) ?_
  refine wK_v ?_
  refine wp_istore qL_2361 (Nat.le_of_ble_eq_true rfl) ?_
  refine wp_aload_n qL_2363 (by rfl) ?_
  refine wp_aload_ns qL_2364 (by rfl) ?_
  refine wp_iload qL_2365 (by rfl) ?_
  refine wp_iconst qL_2367 ?_
  refine wp_iadd qL_2368 ?_
  refine wp_sload (x := (7)) qL_2369 (by rfl) (by rfl) ?_
  refine wp_virtual qL_2370 (by decide) (Nat.le_of_ble_eq_true rfl) (by rfl) (by rfl) (by rfl) ⟨(Nat.le_of_ble_eq_true rfl), (Nat.le_of_ble_eq_true rfl), (Nat.le_of_ble_eq_true rfl)⟩ (Nat.le_of_ble_eq_true rfl) ?_
  refine wp_aload_n q272_0 (by rfl) ?_
  refine wp_iload_n q272_1 (by rfl) ?_
  refine wp_iconst q272_2 ?_
  refine wp_bipush q272_3 ?_
  refine wp_static q272_5 (by decide) (Nat.le_of_ble_eq_true rfl) (by rfl) (by rfl) ⟨(Nat.le_of_ble_eq_true rfl), (Nat.le_of_ble_eq_true rfl), (Nat.le_of_ble_eq_true rfl)⟩ (Nat.le_of_ble_eq_true rfl) ?_
  refine wp_iload_n q211_0 (by rfl) ?_
  refine wp_iload_n q211_1 (by rfl) ?_
  refine wp_icf (t := 14) q211_2 (by rfl) (by rfl) ?_
  refine wp_iload_n q211_5 (by rfl) ?_
  refine wp_iload_n q211_6 (by rfl) ?_
  refine wp_icf (t := 14) q211_7 (by rfl) (by rfl) ?_
  refine wp_iconst q211_10 ?_
  refine wp_goto (t := 15) q211_11 (by rfl) ?_
  refine wp_ireturn q211_15 (by rfl) (by rfl) ?_
  refine wK_v ?_
  refine wp_iff (t := 15) q272_8 (by rfl) (by rfl) ?_
  refine wp_iconst q272_11 ?_
  refine wp_goto (t := 16) q272_12 (by rfl) ?_
  refine wp_putfield q272_16 (by rfl) (Nat.le_of_ble_eq_true rfl) (by rfl) ?_
  refine wp_aload_n q272_19 (by rfl) ?_
  refine wp_getfield q272_20 (by rfl) (by rfl) ?_
  refine wp_ift (t := 30) q272_23 (by rfl) (by rfl) ?_
  refine wp_aload_n q272_30 (by rfl) ?_
  refine wp_virtual q272_31 (by decide) (Nat.le_of_ble_eq_true rfl) (by rfl) (by rfl) (by rfl) ⟨(Nat.le_of_ble_eq_true rfl), (Nat.le_of_ble_eq_true rfl), (Nat.le_of_ble_eq_true rfl)⟩ (Nat.le_of_ble_eq_true rfl) ?_
  refine wp_iconst q247_0 ?_
  refine wp_istore_n q247_1 (Nat.le_of_ble_eq_true rfl) ?_
  refine wp_iconst q247_2 ?_
  refine wp_istore_n q247_3 (Nat.le_of_ble_eq_true rfl) ?_
  refine wp_iload_n q247_4 (by rfl) ?_
  refine wp_aload_n q247_5 (by rfl) ?_
  refine wp_getfield q247_6 (by rfl) (by rfl) ?_
  refine wp_ict (t := 34) q247_9 (by rfl) (by rfl) ?_
  refine wp_iload_n q247_34 (by rfl) ?_
  refine wp_ireturn q247_35 (by rfl) (by rfl) ?_
  refine wK_v ?_
  refine wp_iload_n q272_34 (by rfl) ?_
  refine wp_iadd q272_35 ?_
  refine wp_iconst q272_36 ?_
  refine wp_isub q272_37 ?_
  refine wp_iload_n q272_38 (by rfl) ?_
  refine wp_idiv q272_39 (by decide) ?_
  refine wp_ireturn q272_40 (by rfl) (by rfl) ?_
  refine wK_v ?_
  refine wp_istore qL_2373 (Nat.le_of_ble_eq_true rfl) ?_
  refine wp_aload_n qL_2375 (by rfl) ?_
  refine wp_virtual qL_2376 (by decide) (Nat.le_of_ble_eq_true rfl) (by rfl) (by rfl) (by rfl) ⟨(Nat.le_of_ble_eq_true rfl), (Nat.le_of_ble_eq_true rfl), (Nat.le_of_ble_eq_true rfl)⟩ (Nat.le_of_ble_eq_true rfl) ?_
  refine wp_aload_n q209_0 (by rfl) ?_
  refine wp_getfield q209_1 (by rfl) (by rfl) ?_
  refine wp_ireturn q209_4 (by rfl) (by rfl) ?_
  refine wK_v ?_
  refine wp_iload qL_2379 (by rfl) ?_
  refine wp_ict (t := 2386) qL_2381 (by rfl) (by rfl) ?_
  refine wp_iload qL_2386 (by rfl) ?_
  refine wp_iff (t := 2403) qL_2388 (by rfl) (by rfl) ?_
  refine wp_aload_n qL_2391 (by rfl) ?_
  refine wp_iconst qL_2392 ?_
  refine wp_laload qL_2393 (by rfl) (by rfl) ?_
  refine wp_iload qL_2394 (by rfl) ?_
  refine wp_i2l qL_2396 ?_
  refine wp_lcmp qL_2397 ?_
  refine wp_ift (t := 2403) qL_2398 (by rfl) (by rfl) ?_
  refine wp_goto (t := 3983) qL_2403 (by rfl) ?_
  refine wp_iinc qL_3983 (by rfl) (Nat.le_of_ble_eq_true rfl) ?_
  refine wp_goto (t := 28) qL_3986 (by rfl) ?_
  refine wp_iload qL_28 (by rfl) ?_
  refine wp_aload_ns qL_30 (by rfl) ?_
  refine wp_slen (n := 5) qL_31 rfl ?_
  refine wp_iconst qL_32 ?_
  refine wp_isub qL_33 ?_
  refine wp_ict (t := 3989) qL_34 (by rfl) (by rfl) ?_
  refine wp_iconst qL_3989 ?_
  refine wp_ireturn qL_3990 (by rfl) (by rfl) ?_
  rfl
theorem pt_34_8 {x0 x2 x3 x4 : Int32} (e0 : x0 &&& 63 = Int32.ofNat 34) : wLaw [x0, (8), x2, x3, x4] := by
  unfold wLaw
  refine wp_iload qL_28 (by rfl) ?_
  refine wp_aload_ns qL_30 (by rfl) ?_
  refine wp_slen (n := 5) qL_31 rfl ?_
  refine wp_iconst qL_32 ?_
  refine wp_isub qL_33 ?_
  refine wp_icf (t := 3989) qL_34 (by rfl) (by rfl) ?_
  refine wp_aload_ns qL_37 (by rfl) ?_
  refine wp_iload qL_38 (by rfl) ?_
  refine wp_sload (x := x0) qL_40 (by rfl) (by rfl) ?_
  refine wp_bipush qL_41 ?_
  refine wp_iand qL_43 ?_
  refine wp_switch (t := 2350) qL_44 e0 (by rfl) ?_
  refine wp_aload_n qL_2350 (by rfl) ?_
  refine wp_aload_ns qL_2351 (by rfl) ?_
  refine wp_iload qL_2352 (by rfl) ?_
  refine wp_iconst qL_2354 ?_
  refine wp_iadd qL_2355 ?_
  refine wp_sload (x := (8)) qL_2356 (by rfl) (by rfl) ?_
  refine wp_aload_n qL_2357 (by rfl) ?_
  refine wp_static qL_2358 (by decide) (Nat.le_of_ble_eq_true rfl) (by rfl) (by rfl) ⟨(Nat.le_of_ble_eq_true rfl), (Nat.le_of_ble_eq_true rfl), (Nat.le_of_ble_eq_true rfl)⟩ (Nat.le_of_ble_eq_true rfl) ?_
  refine wp_aload_n q144_0 (by rfl) ?_
  refine wp_iconst q144_1 ?_
  refine wp_aload_n q144_2 (by rfl) ?_
  refine wp_iload_n q144_3 (by rfl) ?_
  refine wp_virtual q144_4 (by decide) (Nat.le_of_ble_eq_true rfl) (by rfl) (by rfl) (by rfl) ⟨(Nat.le_of_ble_eq_true rfl), (Nat.le_of_ble_eq_true rfl), (Nat.le_of_ble_eq_true rfl)⟩ (Nat.le_of_ble_eq_true rfl) ?_
  refine wp_aload_n q145_0 (by rfl) ?_
  refine wp_iload_n q145_1 (by rfl) ?_
  refine wp_virtual q145_2 (by decide) (Nat.le_of_ble_eq_true rfl) (by rfl) (by rfl) (by rfl) ⟨(Nat.le_of_ble_eq_true rfl), (Nat.le_of_ble_eq_true rfl), (Nat.le_of_ble_eq_true rfl)⟩ (Nat.le_of_ble_eq_true rfl) ?_
  refine wp_iload_n q146_0 (by rfl) ?_
  refine wp_iconst q146_1 ?_
  refine wp_bipush q146_2 ?_
  refine wp_static q146_4 (by decide) (Nat.le_of_ble_eq_true rfl) (by rfl) (by rfl) ⟨(Nat.le_of_ble_eq_true rfl), (Nat.le_of_ble_eq_true rfl), (Nat.le_of_ble_eq_true rfl)⟩ (Nat.le_of_ble_eq_true rfl) ?_
  refine wp_iload_n q47_0 (by rfl) ?_
  refine wp_iload_n q47_1 (by rfl) ?_
  refine wp_icf (t := 14) q47_2 (by rfl) (by rfl) ?_
  refine wp_iload_n q47_5 (by rfl) ?_
  refine wp_iload_n q47_6 (by rfl) ?_
  refine wp_icf (t := 14) q47_7 (by rfl) (by rfl) ?_
  refine wp_iconst q47_10 ?_
  refine wp_goto (t := 15) q47_11 (by rfl) ?_
  refine wp_ireturn q47_15 (by rfl) (by rfl) ?_
  refine wK_v ?_
  refine wp_ift (t := 21) q146_7 (by rfl) (by rfl) ?_
  refine wp_return q146_21 (by rfl) ?_
  refine wK_n ?_
  refine wp_iload_n q145_5 (by rfl) ?_
  refine wp_aload_n q145_6 (by rfl) ?_
  refine wp_virtual q145_7 (by decide) (Nat.le_of_ble_eq_true rfl) (by rfl) (by rfl) (by rfl) ⟨(Nat.le_of_ble_eq_true rfl), (Nat.le_of_ble_eq_true rfl), (Nat.le_of_ble_eq_true rfl)⟩ (Nat.le_of_ble_eq_true rfl) ?_
  refine wp_iconst q12_0 ?_
  refine wp_istore_n q12_1 (Nat.le_of_ble_eq_true rfl) ?_
  refine wp_iconst q12_2 ?_
  refine wp_istore_n q12_3 (Nat.le_of_ble_eq_true rfl) ?_
  refine wp_iload_n q12_4 (by rfl) ?_
  refine wp_aload_n q12_5 (by rfl) ?_
  refine wp_getfield q12_6 (by rfl) (by rfl) ?_
  refine wp_ict (t := 34) q12_9 (by rfl) (by rfl) ?_
  refine wp_iload_n q12_34 (by rfl) ?_
  refine wp_ireturn q12_35 (by rfl) (by rfl) ?_
  refine wK_v ?_
  refine wp_static q145_10 (by decide) (Nat.le_of_ble_eq_true rfl) (by rfl) (by rfl) ⟨(Nat.le_of_ble_eq_true rfl), (Nat.le_of_ble_eq_true rfl), (Nat.le_of_ble_eq_true rfl)⟩ (Nat.le_of_ble_eq_true rfl) ?_
  refine wp_iload_n q147_0 (by rfl) ?_
  refine wp_iff (t := 14) q147_1 (by rfl) (by rfl) ?_
  refine wp_iload_n q147_4 (by rfl) ?_
  refine wp_iload_n q147_5 (by rfl) ?_
  refine wp_iadd q147_6 ?_
  refine wp_iconst q147_7 ?_
  refine wp_isub q147_8 ?_
  refine wp_iload_n q147_9 (by rfl) ?_
  refine wp_idiv q147_10 (by decide) ?_
  refine wp_goto (t := 15) q147_11 (by rfl) ?_
  refine wp_ireturn q147_15 (by rfl) (by rfl) ?_
  refine wK_v ?_
  refine wp_ireturn q145_13 (by rfl) (by rfl) ?_
  refine wK_v ?_
  refine wp_i2l q144_7 ?_
  refine wp_lastore q144_8 (by rfl) (by rfl) ?_
  refine wp_goto (t := 15) q144_9 (by rfl) ?_
  refine wp_iconst q144_15 ?_
  refine wp_ireturn q144_16 (by rfl) (by rfl) ?_
  refine wK_v ?_
  refine wp_istore qL_2361 (Nat.le_of_ble_eq_true rfl) ?_
  refine wp_aload_n qL_2363 (by rfl) ?_
  refine wp_aload_ns qL_2364 (by rfl) ?_
  refine wp_iload qL_2365 (by rfl) ?_
  refine wp_iconst qL_2367 ?_
  refine wp_iadd qL_2368 ?_
  refine wp_sload (x := (8)) qL_2369 (by rfl) (by rfl) ?_
  refine wp_virtual qL_2370 (by decide) (Nat.le_of_ble_eq_true rfl) (by rfl) (by rfl) (by rfl) ⟨(Nat.le_of_ble_eq_true rfl), (Nat.le_of_ble_eq_true rfl), (Nat.le_of_ble_eq_true rfl)⟩ (Nat.le_of_ble_eq_true rfl) ?_
  refine wp_aload_n q272_0 (by rfl) ?_
  refine wp_iload_n q272_1 (by rfl) ?_
  refine wp_iconst q272_2 ?_
  refine wp_bipush q272_3 ?_
  refine wp_static q272_5 (by decide) (Nat.le_of_ble_eq_true rfl) (by rfl) (by rfl) ⟨(Nat.le_of_ble_eq_true rfl), (Nat.le_of_ble_eq_true rfl), (Nat.le_of_ble_eq_true rfl)⟩ (Nat.le_of_ble_eq_true rfl) ?_
  refine wp_iload_n q211_0 (by rfl) ?_
  refine wp_iload_n q211_1 (by rfl) ?_
  refine wp_icf (t := 14) q211_2 (by rfl) (by rfl) ?_
  refine wp_iload_n q211_5 (by rfl) ?_
  refine wp_iload_n q211_6 (by rfl) ?_
  refine wp_icf (t := 14) q211_7 (by rfl) (by rfl) ?_
  refine wp_iconst q211_10 ?_
  refine wp_goto (t := 15) q211_11 (by rfl) ?_
  refine wp_ireturn q211_15 (by rfl) (by rfl) ?_
  refine wK_v ?_
  refine wp_iff (t := 15) q272_8 (by rfl) (by rfl) ?_
  refine wp_iconst q272_11 ?_
  refine wp_goto (t := 16) q272_12 (by rfl) ?_
  refine wp_putfield q272_16 (by rfl) (Nat.le_of_ble_eq_true rfl) (by rfl) ?_
  refine wp_aload_n q272_19 (by rfl) ?_
  refine wp_getfield q272_20 (by rfl) (by rfl) ?_
  refine wp_ift (t := 30) q272_23 (by rfl) (by rfl) ?_
  refine wp_aload_n q272_30 (by rfl) ?_
  refine wp_virtual q272_31 (by decide) (Nat.le_of_ble_eq_true rfl) (by rfl) (by rfl) (by rfl) ⟨(Nat.le_of_ble_eq_true rfl), (Nat.le_of_ble_eq_true rfl), (Nat.le_of_ble_eq_true rfl)⟩ (Nat.le_of_ble_eq_true rfl) ?_
  refine wp_iconst q247_0 ?_
  refine wp_istore_n q247_1 (Nat.le_of_ble_eq_true rfl) ?_
  refine wp_iconst q247_2 ?_
  refine wp_istore_n q247_3 (Nat.le_of_ble_eq_true rfl) ?_
  refine wp_iload_n q247_4 (by rfl) ?_
  refine wp_aload_n q247_5 (by rfl) ?_
  refine wp_getfield q247_6 (by rfl) (by rfl) ?_
  refine wp_ict (t := 34) q247_9 (by rfl) (by rfl) ?_
  refine wp_iload_n q247_34 (by rfl) ?_
  refine wp_ireturn q247_35 (by rfl) (by rfl) ?_
  refine wK_v ?_
  refine wp_iload_n q272_34 (by rfl) ?_
  refine wp_iadd q272_35 ?_
  refine wp_iconst q272_36 ?_
  refine wp_isub q272_37 ?_
  refine wp_iload_n q272_38 (by rfl) ?_
  refine wp_idiv q272_39 (by decide) ?_
  refine wp_ireturn q272_40 (by rfl) (by rfl) ?_
  refine wK_v ?_
  refine wp_istore qL_2373 (Nat.le_of_ble_eq_true rfl) ?_
  refine wp_aload_n qL_2375 (by rfl) ?_
  refine wp_virtual qL_2376 (by decide) (Nat.le_of_ble_eq_true rfl) (by rfl) (by rfl) (by rfl) ⟨(Nat.le_of_ble_eq_true rfl), (Nat.le_of_ble_eq_true rfl), (Nat.le_of_ble_eq_true rfl)⟩ (Nat.le_of_ble_eq_true rfl) ?_
  refine wp_aload_n q209_0 (by rfl) ?_
  refine wp_getfield q209_1 (by rfl) (by rfl) ?_
  refine wp_ireturn q209_4 (by rfl) (by rfl) ?_
  refine wK_v ?_
  refine wp_iload qL_2379 (by rfl) ?_
  refine wp_ict (t := 2386) qL_2381 (by rfl) (by rfl) ?_
  refine wp_iload qL_2386 (by rfl) ?_
  refine wp_iff (t := 2403) qL_2388 (by rfl) (by rfl) ?_
  refine wp_aload_n qL_2391 (by rfl) ?_
  refine wp_iconst qL_2392 ?_
  refine wp_laload qL_2393 (by rfl) (by rfl) ?_
  refine wp_iload qL_2394 (by rfl) ?_
  refine wp_i2l qL_2396 ?_
  refine wp_lcmp qL_2397 ?_
  refine wp_ift (t := 2403) qL_2398 (by rfl) (by rfl) ?_
  refine wp_goto (t := 3983) qL_2403 (by rfl) ?_
  refine wp_iinc qL_3983 (by rfl) (Nat.le_of_ble_eq_true rfl) ?_
  refine wp_goto (t := 28) qL_3986 (by rfl) ?_
  refine wp_iload qL_28 (by rfl) ?_
  refine wp_aload_ns qL_30 (by rfl) ?_
  refine wp_slen (n := 5) qL_31 rfl ?_
  refine wp_iconst qL_32 ?_
  refine wp_isub qL_33 ?_
  refine wp_ict (t := 3989) qL_34 (by rfl) (by rfl) ?_
  refine wp_iconst qL_3989 ?_
  refine wp_ireturn qL_3990 (by rfl) (by rfl) ?_
  rfl
theorem pt_34_9 {x0 x2 x3 x4 : Int32} (e0 : x0 &&& 63 = Int32.ofNat 34) : wLaw [x0, (9), x2, x3, x4] := by
  unfold wLaw
  refine wp_iload qL_28 (by rfl) ?_
  refine wp_aload_ns qL_30 (by rfl) ?_
  refine wp_slen (n := 5) qL_31 rfl ?_
  refine wp_iconst qL_32 ?_
  refine wp_isub qL_33 ?_
  refine wp_icf (t := 3989) qL_34 (by rfl) (by rfl) ?_
  refine wp_aload_ns qL_37 (by rfl) ?_
  refine wp_iload qL_38 (by rfl) ?_
  refine wp_sload (x := x0) qL_40 (by rfl) (by rfl) ?_
  refine wp_bipush qL_41 ?_
  refine wp_iand qL_43 ?_
  refine wp_switch (t := 2350) qL_44 e0 (by rfl) ?_
  refine wp_aload_n qL_2350 (by rfl) ?_
  refine wp_aload_ns qL_2351 (by rfl) ?_
  refine wp_iload qL_2352 (by rfl) ?_
  refine wp_iconst qL_2354 ?_
  refine wp_iadd qL_2355 ?_
  refine wp_sload (x := (9)) qL_2356 (by rfl) (by rfl) ?_
  refine wp_aload_n qL_2357 (by rfl) ?_
  refine wp_static qL_2358 (by decide) (Nat.le_of_ble_eq_true rfl) (by rfl) (by rfl) ⟨(Nat.le_of_ble_eq_true rfl), (Nat.le_of_ble_eq_true rfl), (Nat.le_of_ble_eq_true rfl)⟩ (Nat.le_of_ble_eq_true rfl) ?_
  refine wp_aload_n q144_0 (by rfl) ?_
  refine wp_iconst q144_1 ?_
  refine wp_aload_n q144_2 (by rfl) ?_
  refine wp_iload_n q144_3 (by rfl) ?_
  refine wp_virtual q144_4 (by decide) (Nat.le_of_ble_eq_true rfl) (by rfl) (by rfl) (by rfl) ⟨(Nat.le_of_ble_eq_true rfl), (Nat.le_of_ble_eq_true rfl), (Nat.le_of_ble_eq_true rfl)⟩ (Nat.le_of_ble_eq_true rfl) ?_
  refine wp_aload_n q145_0 (by rfl) ?_
  refine wp_iload_n q145_1 (by rfl) ?_
  refine wp_virtual q145_2 (by decide) (Nat.le_of_ble_eq_true rfl) (by rfl) (by rfl) (by rfl) ⟨(Nat.le_of_ble_eq_true rfl), (Nat.le_of_ble_eq_true rfl), (Nat.le_of_ble_eq_true rfl)⟩ (Nat.le_of_ble_eq_true rfl) ?_
  refine wp_iload_n q146_0 (by rfl) ?_
  refine wp_iconst q146_1 ?_
  refine wp_bipush q146_2 ?_
  refine wp_static q146_4 (by decide) (Nat.le_of_ble_eq_true rfl) (by rfl) (by rfl) ⟨(Nat.le_of_ble_eq_true rfl), (Nat.le_of_ble_eq_true rfl), (Nat.le_of_ble_eq_true rfl)⟩ (Nat.le_of_ble_eq_true rfl) ?_
  refine wp_iload_n q47_0 (by rfl) ?_
  refine wp_iload_n q47_1 (by rfl) ?_
  refine wp_icf (t := 14) q47_2 (by rfl) (by rfl) ?_
  refine wp_iload_n q47_5 (by rfl) ?_
  refine wp_iload_n q47_6 (by rfl) ?_
  refine wp_icf (t := 14) q47_7 (by rfl) (by rfl) ?_
  refine wp_iconst q47_10 ?_
  refine wp_goto (t := 15) q47_11 (by rfl) ?_
  refine wp_ireturn q47_15 (by rfl) (by rfl) ?_
  refine wK_v ?_
  refine wp_ift (t := 21) q146_7 (by rfl) (by rfl) ?_
  refine wp_return q146_21 (by rfl) ?_
  refine wK_n ?_
  refine wp_iload_n q145_5 (by rfl) ?_
  refine wp_aload_n q145_6 (by rfl) ?_
  refine wp_virtual q145_7 (by decide) (Nat.le_of_ble_eq_true rfl) (by rfl) (by rfl) (by rfl) ⟨(Nat.le_of_ble_eq_true rfl), (Nat.le_of_ble_eq_true rfl), (Nat.le_of_ble_eq_true rfl)⟩ (Nat.le_of_ble_eq_true rfl) ?_
  refine wp_iconst q12_0 ?_
  refine wp_istore_n q12_1 (Nat.le_of_ble_eq_true rfl) ?_
  refine wp_iconst q12_2 ?_
  refine wp_istore_n q12_3 (Nat.le_of_ble_eq_true rfl) ?_
  refine wp_iload_n q12_4 (by rfl) ?_
  refine wp_aload_n q12_5 (by rfl) ?_
  refine wp_getfield q12_6 (by rfl) (by rfl) ?_
  refine wp_ict (t := 34) q12_9 (by rfl) (by rfl) ?_
  refine wp_iload_n q12_34 (by rfl) ?_
  refine wp_ireturn q12_35 (by rfl) (by rfl) ?_
  refine wK_v ?_
  refine wp_static q145_10 (by decide) (Nat.le_of_ble_eq_true rfl) (by rfl) (by rfl) ⟨(Nat.le_of_ble_eq_true rfl), (Nat.le_of_ble_eq_true rfl), (Nat.le_of_ble_eq_true rfl)⟩ (Nat.le_of_ble_eq_true rfl) ?_
  refine wp_iload_n q147_0 (by rfl) ?_
  refine wp_iff (t := 14) q147_1 (by rfl) (by rfl) ?_
  refine wp_iload_n q147_4 (by rfl) ?_
  refine wp_iload_n q147_5 (by rfl) ?_
  refine wp_iadd q147_6 ?_
  refine wp_iconst q147_7 ?_
  refine wp_isub q147_8 ?_
  refine wp_iload_n q147_9 (by rfl) ?_
  refine wp_idiv q147_10 (by decide) ?_
  refine wp_goto (t := 15) q147_11 (by rfl) ?_
  refine wp_ireturn q147_15 (by rfl) (by rfl) ?_
  refine wK_v ?_
  refine wp_ireturn q145_13 (by rfl) (by rfl) ?_
  refine wK_v ?_
  refine wp_i2l q144_7 ?_
  refine wp_lastore q144_8 (by rfl) (by rfl) ?_
  refine wp_goto (t := 15) q144_9 (by rfl) ?_
  refine wp_iconst q144_15 ?_
  refine wp_ireturn q144_16 (by rfl) (by rfl) ?_
  refine wK_v ?_
  refine wp_istore qL_2361 (Nat.le_of_ble_eq_true rfl) ?_
  refine wp_aload_n qL_2363 (by rfl) ?_
  refine wp_aload_ns qL_2364 (by rfl) ?_
  refine wp_iload qL_2365 (by rfl) ?_
  refine wp_iconst qL_2367 ?_
  refine wp_iadd qL_2368 ?_
  refine wp_sload (x := (9)) qL_2369 (by rfl) (by rfl) ?_
  refine wp_virtual qL_2370 (by decide) (Nat.le_of_ble_eq_true rfl) (by rfl) (by rfl) (by rfl) ⟨(Nat.le_of_ble_eq_true rfl), (Nat.le_of_ble_eq_true rfl), (Nat.le_of_ble_eq_true rfl)⟩ (Nat.le_of_ble_eq_true rfl) ?_
  refine wp_aload_n q272_0 (by rfl) ?_
  refine wp_iload_n q272_1 (by rfl) ?_
  refine wp_iconst q272_2 ?_
  refine wp_bipush q272_3 ?_
  refine wp_static q272_5 (by decide) (Nat.le_of_ble_eq_true rfl) (by rfl) (by rfl) ⟨(Nat.le_of_ble_eq_true rfl), (Nat.le_of_ble_eq_true rfl), (Nat.le_of_ble_eq_true rfl)⟩ (Nat.le_of_ble_eq_true rfl) ?_
  refine wp_iload_n q211_0 (by rfl) ?_
  refine wp_iload_n q211_1 (by rfl) ?_
  refine wp_icf (t := 14) q211_2 (by rfl) (by rfl) ?_
  refine wp_iload_n q211_5 (by rfl) ?_
  refine wp_iload_n q211_6 (by rfl) ?_
  refine wp_icf (t := 14) q211_7 (by rfl) (by rfl) ?_
  refine wp_iconst q211_10 ?_
  refine wp_goto (t := 15) q211_11 (by rfl) ?_
  refine wp_ireturn q211_15 (by rfl) (by rfl) ?_
  refine wK_v ?_
  refine wp_iff (t := 15) q272_8 (by rfl) (by rfl) ?_
  refine wp_iconst q272_11 ?_
  refine wp_goto (t := 16) q272_12 (by rfl) ?_
  refine wp_putfield q272_16 (by rfl) (Nat.le_of_ble_eq_true rfl) (by rfl) ?_
  refine wp_aload_n q272_19 (by rfl) ?_
  refine wp_getfield q272_20 (by rfl) (by rfl) ?_
  refine wp_ift (t := 30) q272_23 (by rfl) (by rfl) ?_
  refine wp_aload_n q272_30 (by rfl) ?_
  refine wp_virtual q272_31 (by decide) (Nat.le_of_ble_eq_true rfl) (by rfl) (by rfl) (by rfl) ⟨(Nat.le_of_ble_eq_true rfl), (Nat.le_of_ble_eq_true rfl), (Nat.le_of_ble_eq_true rfl)⟩ (Nat.le_of_ble_eq_true rfl) ?_
  refine wp_iconst q247_0 ?_
  refine wp_istore_n q247_1 (Nat.le_of_ble_eq_true rfl) ?_
  refine wp_iconst q247_2 ?_
  refine wp_istore_n q247_3 (Nat.le_of_ble_eq_true rfl) ?_
  refine wp_iload_n q247_4 (by rfl) ?_
  refine wp_aload_n q247_5 (by rfl) ?_
  refine wp_getfield q247_6 (by rfl) (by rfl) ?_
  refine wp_ict (t := 34) q247_9 (by rfl) (by rfl) ?_
  refine wp_iload_n q247_34 (by rfl) ?_
  refine wp_ireturn q247_35 (by rfl) (by rfl) ?_
  refine wK_v ?_
  refine wp_iload_n q272_34 (by rfl) ?_
  refine wp_iadd q272_35 ?_
  refine wp_iconst q272_36 ?_
  refine wp_isub q272_37 ?_
  refine wp_iload_n q272_38 (by rfl) ?_
  refine wp_idiv q272_39 (by decide) ?_
  refine wp_ireturn q272_40 (by rfl) (by rfl) ?_
  refine wK_v ?_
  refine wp_istore qL_2373 (Nat.le_of_ble_eq_true rfl) ?_
  refine wp_aload_n qL_2375 (by rfl) ?_
  refine wp_virtual qL_2376 (by decide) (Nat.le_of_ble_eq_true rfl) (by rfl) (by rfl) (by rfl) ⟨(Nat.le_of_ble_eq_true rfl), (Nat.le_of_ble_eq_true rfl), (Nat.le_of_ble_eq_true rfl)⟩ (Nat.le_of_ble_eq_true rfl) ?_
  refine wp_aload_n q209_0 (by rfl) ?_
  refine wp_getfield q209_1 (by rfl) (by rfl) ?_
  refine wp_ireturn q209_4 (by rfl) (by rfl) ?_
  refine wK_v ?_
  refine wp_iload qL_2379 (by rfl) ?_
  refine wp_ict (t := 2386) qL_2381 (by rfl) (by rfl) ?_
  refine wp_iload qL_2386 (by rfl) ?_
  refine wp_iff (t := 2403) qL_2388 (by rfl) (by rfl) ?_
  refine wp_aload_n qL_2391 (by rfl) ?_
  refine wp_iconst qL_2392 ?_
  refine wp_laload qL_2393 (by rfl) (by rfl) ?_
  refine wp_iload qL_2394 (by rfl) ?_
  refine wp_i2l qL_2396 ?_
  refine wp_lcmp qL_2397 ?_
  refine wp_ift (t := 2403) qL_2398 (by rfl) (by rfl) ?_
  refine wp_goto (t := 3983) qL_2403 (by rfl) ?_
  refine wp_iinc qL_3983 (by rfl) (Nat.le_of_ble_eq_true rfl) ?_
  refine wp_goto (t := 28) qL_3986 (by rfl) ?_
  refine wp_iload qL_28 (by rfl) ?_
  refine wp_aload_ns qL_30 (by rfl) ?_
  refine wp_slen (n := 5) qL_31 rfl ?_
  refine wp_iconst qL_32 ?_
  refine wp_isub qL_33 ?_
  refine wp_ict (t := 3989) qL_34 (by rfl) (by rfl) ?_
  refine wp_iconst qL_3989 ?_
  refine wp_ireturn qL_3990 (by rfl) (by rfl) ?_
  rfl
theorem pt_34_10 {x0 x2 x3 x4 : Int32} (e0 : x0 &&& 63 = Int32.ofNat 34) : wLaw [x0, (10), x2, x3, x4] := by
  unfold wLaw
  refine wp_iload qL_28 (by rfl) ?_
  refine wp_aload_ns qL_30 (by rfl) ?_
  refine wp_slen (n := 5) qL_31 rfl ?_
  refine wp_iconst qL_32 ?_
  refine wp_isub qL_33 ?_
  refine wp_icf (t := 3989) qL_34 (by rfl) (by rfl) ?_
  refine wp_aload_ns qL_37 (by rfl) ?_
  refine wp_iload qL_38 (by rfl) ?_
  refine wp_sload (x := x0) qL_40 (by rfl) (by rfl) ?_
  refine wp_bipush qL_41 ?_
  refine wp_iand qL_43 ?_
  refine wp_switch (t := 2350) qL_44 e0 (by rfl) ?_
  refine wp_aload_n qL_2350 (by rfl) ?_
  refine wp_aload_ns qL_2351 (by rfl) ?_
  refine wp_iload qL_2352 (by rfl) ?_
  refine wp_iconst qL_2354 ?_
  refine wp_iadd qL_2355 ?_
  refine wp_sload (x := (10)) qL_2356 (by rfl) (by rfl) ?_
  refine wp_aload_n qL_2357 (by rfl) ?_
  refine wp_static qL_2358 (by decide) (Nat.le_of_ble_eq_true rfl) (by rfl) (by rfl) ⟨(Nat.le_of_ble_eq_true rfl), (Nat.le_of_ble_eq_true rfl), (Nat.le_of_ble_eq_true rfl)⟩ (Nat.le_of_ble_eq_true rfl) ?_
  refine wp_aload_n q144_0 (by rfl) ?_
  refine wp_iconst q144_1 ?_
  refine wp_aload_n q144_2 (by rfl) ?_
  refine wp_iload_n q144_3 (by rfl) ?_
  refine wp_virtual q144_4 (by decide) (Nat.le_of_ble_eq_true rfl) (by rfl) (by rfl) (by rfl) ⟨(Nat.le_of_ble_eq_true rfl), (Nat.le_of_ble_eq_true rfl), (Nat.le_of_ble_eq_true rfl)⟩ (Nat.le_of_ble_eq_true rfl) ?_
  refine wp_aload_n q145_0 (by rfl) ?_
  refine wp_iload_n q145_1 (by rfl) ?_
  refine wp_virtual q145_2 (by decide) (Nat.le_of_ble_eq_true rfl) (by rfl) (by rfl) (by rfl) ⟨(Nat.le_of_ble_eq_true rfl), (Nat.le_of_ble_eq_true rfl), (Nat.le_of_ble_eq_true rfl)⟩ (Nat.le_of_ble_eq_true rfl) ?_
  refine wp_iload_n q146_0 (by rfl) ?_
  refine wp_iconst q146_1 ?_
  refine wp_bipush q146_2 ?_
  refine wp_static q146_4 (by decide) (Nat.le_of_ble_eq_true rfl) (by rfl) (by rfl) ⟨(Nat.le_of_ble_eq_true rfl), (Nat.le_of_ble_eq_true rfl), (Nat.le_of_ble_eq_true rfl)⟩ (Nat.le_of_ble_eq_true rfl) ?_
  refine wp_iload_n q47_0 (by rfl) ?_
  refine wp_iload_n q47_1 (by rfl) ?_
  refine wp_icf (t := 14) q47_2 (by rfl) (by rfl) ?_
  refine wp_iload_n q47_5 (by rfl) ?_
  refine wp_iload_n q47_6 (by rfl) ?_
  refine wp_icf (t := 14) q47_7 (by rfl) (by rfl) ?_
  refine wp_iconst q47_10 ?_
  refine wp_goto (t := 15) q47_11 (by rfl) ?_
  refine wp_ireturn q47_15 (by rfl) (by rfl) ?_
  refine wK_v ?_
  refine wp_ift (t := 21) q146_7 (by rfl) (by rfl) ?_
  refine wp_return q146_21 (by rfl) ?_
  refine wK_n ?_
  refine wp_iload_n q145_5 (by rfl) ?_
  refine wp_aload_n q145_6 (by rfl) ?_
  refine wp_virtual q145_7 (by decide) (Nat.le_of_ble_eq_true rfl) (by rfl) (by rfl) (by rfl) ⟨(Nat.le_of_ble_eq_true rfl), (Nat.le_of_ble_eq_true rfl), (Nat.le_of_ble_eq_true rfl)⟩ (Nat.le_of_ble_eq_true rfl) ?_
  refine wp_iconst q12_0 ?_
  refine wp_istore_n q12_1 (Nat.le_of_ble_eq_true rfl) ?_
  refine wp_iconst q12_2 ?_
  refine wp_istore_n q12_3 (Nat.le_of_ble_eq_true rfl) ?_
  refine wp_iload_n q12_4 (by rfl) ?_
  refine wp_aload_n q12_5 (by rfl) ?_
  refine wp_getfield q12_6 (by rfl) (by rfl) ?_
  refine wp_ict (t := 34) q12_9 (by rfl) (by rfl) ?_
  refine wp_iload_n q12_34 (by rfl) ?_
  refine wp_ireturn q12_35 (by rfl) (by rfl) ?_
  refine wK_v ?_
  refine wp_static q145_10 (by decide) (Nat.le_of_ble_eq_true rfl) (by rfl) (by rfl) ⟨(Nat.le_of_ble_eq_true rfl), (Nat.le_of_ble_eq_true rfl), (Nat.le_of_ble_eq_true rfl)⟩ (Nat.le_of_ble_eq_true rfl) ?_
  refine wp_iload_n q147_0 (by rfl) ?_
  refine wp_iff (t := 14) q147_1 (by rfl) (by rfl) ?_
  refine wp_iload_n q147_4 (by rfl) ?_
  refine wp_iload_n q147_5 (by rfl) ?_
  refine wp_iadd q147_6 ?_
  refine wp_iconst q147_7 ?_
  refine wp_isub q147_8 ?_
  refine wp_iload_n q147_9 (by rfl) ?_
  refine wp_idiv q147_10 (by decide) ?_
  refine wp_goto (t := 15) q147_11 (by rfl) ?_
  refine wp_ireturn q147_15 (by rfl) (by rfl) ?_
  refine wK_v ?_
  refine wp_ireturn q145_13 (by rfl) (by rfl) ?_
  refine wK_v ?_
  refine wp_i2l q144_7 ?_
  refine wp_lastore q144_8 (by rfl) (by rfl) ?_
  refine wp_goto (t := 15) q144_9 (by rfl) ?_
  refine wp_iconst q144_15 ?_
  refine wp_ireturn q144_16 (by rfl) (by rfl) ?_
  refine wK_v ?_
  refine wp_istore qL_2361 (Nat.le_of_ble_eq_true rfl) ?_
  refine wp_aload_n qL_2363 (by rfl) ?_
  refine wp_aload_ns qL_2364 (by rfl) ?_
  refine wp_iload qL_2365 (by rfl) ?_
  refine wp_iconst qL_2367 ?_
  refine wp_iadd qL_2368 ?_
  refine wp_sload (x := (10)) qL_2369 (by rfl) (by rfl) ?_
  refine wp_virtual qL_2370 (by decide) (Nat.le_of_ble_eq_true rfl) (by rfl) (by rfl) (by rfl) ⟨(Nat.le_of_ble_eq_true rfl), (Nat.le_of_ble_eq_true rfl), (Nat.le_of_ble_eq_true rfl)⟩ (Nat.le_of_ble_eq_true rfl) ?_
  refine wp_aload_n q272_0 (by rfl) ?_
  refine wp_iload_n q272_1 (by rfl) ?_
  refine wp_iconst q272_2 ?_
  refine wp_bipush q272_3 ?_
  refine wp_static q272_5 (by decide) (Nat.le_of_ble_eq_true rfl) (by rfl) (by rfl) ⟨(Nat.le_of_ble_eq_true rfl), (Nat.le_of_ble_eq_true rfl), (Nat.le_of_ble_eq_true rfl)⟩ (Nat.le_of_ble_eq_true rfl) ?_
  refine wp_iload_n q211_0 (by rfl) ?_
  refine wp_iload_n q211_1 (by rfl) ?_
  refine wp_icf (t := 14) q211_2 (by rfl) (by rfl) ?_
  refine wp_iload_n q211_5 (by rfl) ?_
  refine wp_iload_n q211_6 (by rfl) ?_
  refine wp_icf (t := 14) q211_7 (by rfl) (by rfl) ?_
  refine wp_iconst q211_10 ?_
  refine wp_goto (t := 15) q211_11 (by rfl) ?_
  refine wp_ireturn q211_15 (by rfl) (by rfl) ?_
  refine wK_v ?_
  refine wp_iff (t := 15) q272_8 (by rfl) (by rfl) ?_
  refine wp_iconst q272_11 ?_
  refine wp_goto (t := 16) q272_12 (by rfl) ?_
  refine wp_putfield q272_16 (by rfl) (Nat.le_of_ble_eq_true rfl) (by rfl) ?_
  refine wp_aload_n q272_19 (by rfl) ?_
  refine wp_getfield q272_20 (by rfl) (by rfl) ?_
  refine wp_ift (t := 30) q272_23 (by rfl) (by rfl) ?_
  refine wp_aload_n q272_30 (by rfl) ?_
  refine wp_virtual q272_31 (by decide) (Nat.le_of_ble_eq_true rfl) (by rfl) (by rfl) (by rfl) ⟨(Nat.le_of_ble_eq_true rfl), (Nat.le_of_ble_eq_true rfl), (Nat.le_of_ble_eq_true rfl)⟩ (Nat.le_of_ble_eq_true rfl) ?_
  refine wp_iconst q247_0 ?_
  refine wp_istore_n q247_1 (Nat.le_of_ble_eq_true rfl) ?_
  refine wp_iconst q247_2 ?_
  refine wp_istore_n q247_3 (Nat.le_of_ble_eq_true rfl) ?_
  refine wp_iload_n q247_4 (by rfl) ?_
  refine wp_aload_n q247_5 (by rfl) ?_
  refine wp_getfield q247_6 (by rfl) (by rfl) ?_
  refine wp_ict (t := 34) q247_9 (by rfl) (by rfl) ?_
  refine wp_iload_n q247_34 (by rfl) ?_
  refine wp_ireturn q247_35 (by rfl) (by rfl) ?_
  refine wK_v ?_
  refine wp_iload_n q272_34 (by rfl) ?_
  refine wp_iadd q272_35 ?_
  refine wp_iconst q272_36 ?_
  refine wp_isub q272_37 ?_
  refine wp_iload_n q272_38 (by rfl) ?_
  refine wp_idiv q272_39 (by decide) ?_
  refine wp_ireturn q272_40 (by rfl) (by rfl) ?_
  refine wK_v ?_
  refine wp_istore qL_2373 (Nat.le_of_ble_eq_true rfl) ?_
  refine wp_aload_n qL_2375 (by rfl) ?_
  refine wp_virtual qL_2376 (by decide) (Nat.le_of_ble_eq_true rfl) (by rfl) (by rfl) (by rfl) ⟨(Nat.le_of_ble_eq_true rfl), (Nat.le_of_ble_eq_true rfl), (Nat.le_of_ble_eq_true rfl)⟩ (Nat.le_of_ble_eq_true rfl) ?_
  refine wp_aload_n q209_0 (by rfl) ?_
  refine wp_getfield q209_1 (by rfl) (by rfl) ?_
  refine wp_ireturn q209_4 (by rfl) (by rfl) ?_
  refine wK_v ?_
  refine wp_iload qL_2379 (by rfl) ?_
  refine wp_ict (t := 2386) qL_2381 (by rfl) (by rfl) ?_
  refine wp_iload qL_2386 (by rfl) ?_
  refine wp_iff (t := 2403) qL_2388 (by rfl) (by rfl) ?_
  refine wp_aload_n qL_2391 (by rfl) ?_
  refine wp_iconst qL_2392 ?_
  refine wp_laload qL_2393 (by rfl) (by rfl) ?_
  refine wp_iload qL_2394 (by rfl) ?_
  refine wp_i2l qL_2396 ?_
  refine wp_lcmp qL_2397 ?_
  refine wp_ift (t := 2403) qL_2398 (by rfl) (by rfl) ?_
  refine wp_goto (t := 3983) qL_2403 (by rfl) ?_
  refine wp_iinc qL_3983 (by rfl) (Nat.le_of_ble_eq_true rfl) ?_
  refine wp_goto (t := 28) qL_3986 (by rfl) ?_
  refine wp_iload qL_28 (by rfl) ?_
  refine wp_aload_ns qL_30 (by rfl) ?_
  refine wp_slen (n := 5) qL_31 rfl ?_
  refine wp_iconst qL_32 ?_
  refine wp_isub qL_33 ?_
  refine wp_ict (t := 3989) qL_34 (by rfl) (by rfl) ?_
  refine wp_iconst qL_3989 ?_
  refine wp_ireturn qL_3990 (by rfl) (by rfl) ?_
  rfl
theorem pt_34_11 {x0 x1 x2 x3 x4 : Int32} (e0 : x0 &&& 63 = Int32.ofNat 34) (e1 : sC2 .lt x1 (1) = false) (e2 : sC2 .gt x1 (10) = true) (e3 : sC2 .lt x1 (1) = false) (e4 : sC2 .gt x1 (10) = true) : wLaw [x0, x1, x2, x3, x4] := by
  unfold wLaw
  refine wp_iload qL_28 (by rfl) ?_
  refine wp_aload_ns qL_30 (by rfl) ?_
  refine wp_slen (n := 5) qL_31 rfl ?_
  refine wp_iconst qL_32 ?_
  refine wp_isub qL_33 ?_
  refine wp_icf (t := 3989) qL_34 (by rfl) (by rfl) ?_
  refine wp_aload_ns qL_37 (by rfl) ?_
  refine wp_iload qL_38 (by rfl) ?_
  refine wp_sload (x := x0) qL_40 (by rfl) (by rfl) ?_
  refine wp_bipush qL_41 ?_
  refine wp_iand qL_43 ?_
  refine wp_switch (t := 2350) qL_44 e0 (by rfl) ?_
  refine wp_aload_n qL_2350 (by rfl) ?_
  refine wp_aload_ns qL_2351 (by rfl) ?_
  refine wp_iload qL_2352 (by rfl) ?_
  refine wp_iconst qL_2354 ?_
  refine wp_iadd qL_2355 ?_
  refine wp_sload (x := x1) qL_2356 (by rfl) (by rfl) ?_
  refine wp_aload_n qL_2357 (by rfl) ?_
  refine wp_static qL_2358 (by decide) (Nat.le_of_ble_eq_true rfl) (by rfl) (by rfl) ⟨(Nat.le_of_ble_eq_true rfl), (Nat.le_of_ble_eq_true rfl), (Nat.le_of_ble_eq_true rfl)⟩ (Nat.le_of_ble_eq_true rfl) ?_
  refine wp_aload_n q144_0 (by rfl) ?_
  refine wp_iconst q144_1 ?_
  refine wp_aload_n q144_2 (by rfl) ?_
  refine wp_iload_n q144_3 (by rfl) ?_
  refine wp_virtual q144_4 (by decide) (Nat.le_of_ble_eq_true rfl) (by rfl) (by rfl) (by rfl) ⟨(Nat.le_of_ble_eq_true rfl), (Nat.le_of_ble_eq_true rfl), (Nat.le_of_ble_eq_true rfl)⟩ (Nat.le_of_ble_eq_true rfl) ?_
  refine wp_aload_n q145_0 (by rfl) ?_
  refine wp_iload_n q145_1 (by rfl) ?_
  refine wp_virtual q145_2 (by decide) (Nat.le_of_ble_eq_true rfl) (by rfl) (by rfl) (by rfl) ⟨(Nat.le_of_ble_eq_true rfl), (Nat.le_of_ble_eq_true rfl), (Nat.le_of_ble_eq_true rfl)⟩ (Nat.le_of_ble_eq_true rfl) ?_
  refine wp_iload_n q146_0 (by rfl) ?_
  refine wp_iconst q146_1 ?_
  refine wp_bipush q146_2 ?_
  refine wp_static q146_4 (by decide) (Nat.le_of_ble_eq_true rfl) (by rfl) (by rfl) ⟨(Nat.le_of_ble_eq_true rfl), (Nat.le_of_ble_eq_true rfl), (Nat.le_of_ble_eq_true rfl)⟩ (Nat.le_of_ble_eq_true rfl) ?_
  refine wp_iload_n q47_0 (by rfl) ?_
  refine wp_iload_n q47_1 (by rfl) ?_
  refine wp_icf (t := 14) q47_2 e1 (by rfl) ?_
  refine wp_iload_n q47_5 (by rfl) ?_
  refine wp_iload_n q47_6 (by rfl) ?_
  refine wp_ict (t := 14) q47_7 e2 (by rfl) ?_
  refine wp_iconst q47_14 ?_
  refine wp_ireturn q47_15 (by rfl) (by rfl) ?_
  refine wK_v ?_
  refine wp_iff (t := 21) q146_7 (by rfl) (by rfl) ?_
  refine wp_throw q146_10 (by decide) ⟨(Nat.le_of_ble_eq_true rfl), (Nat.le_of_ble_eq_true rfl), (Nat.le_of_ble_eq_true rfl)⟩ ?_
  refine wK_x (by rfl) ?_
  refine wK_c (by rfl) (by rfl) (by decide) (by rfl) ?_
  refine wp_iconst q144_13 ?_
  refine wp_ireturn q144_14 (by rfl) (by rfl) ?_
  refine wK_v ?_
  refine wp_istore qL_2361 (Nat.le_of_ble_eq_true rfl) ?_
  refine wp_aload_n qL_2363 (by rfl) ?_
  refine wp_aload_ns qL_2364 (by rfl) ?_
  refine wp_iload qL_2365 (by rfl) ?_
  refine wp_iconst qL_2367 ?_
  refine wp_iadd qL_2368 ?_
  refine wp_sload (x := x1) qL_2369 (by rfl) (by rfl) ?_
  refine wp_virtual qL_2370 (by decide) (Nat.le_of_ble_eq_true rfl) (by rfl) (by rfl) (by rfl) ⟨(Nat.le_of_ble_eq_true rfl), (Nat.le_of_ble_eq_true rfl), (Nat.le_of_ble_eq_true rfl)⟩ (Nat.le_of_ble_eq_true rfl) ?_
  refine wp_aload_n q272_0 (by rfl) ?_
  refine wp_iload_n q272_1 (by rfl) ?_
  refine wp_iconst q272_2 ?_
  refine wp_bipush q272_3 ?_
  refine wp_static q272_5 (by decide) (Nat.le_of_ble_eq_true rfl) (by rfl) (by rfl) ⟨(Nat.le_of_ble_eq_true rfl), (Nat.le_of_ble_eq_true rfl), (Nat.le_of_ble_eq_true rfl)⟩ (Nat.le_of_ble_eq_true rfl) ?_
  refine wp_iload_n q211_0 (by rfl) ?_
  refine wp_iload_n q211_1 (by rfl) ?_
  refine wp_icf (t := 14) q211_2 e3 (by rfl) ?_
  refine wp_iload_n q211_5 (by rfl) ?_
  refine wp_iload_n q211_6 (by rfl) ?_
  refine wp_ict (t := 14) q211_7 e4 (by rfl) ?_
  refine wp_iconst q211_14 ?_
  refine wp_ireturn q211_15 (by rfl) (by rfl) ?_
  refine wK_v ?_
  refine wp_ift (t := 15) q272_8 (by rfl) (by rfl) ?_
  refine wp_iconst q272_15 ?_
  refine wp_putfield q272_16 (by rfl) (Nat.le_of_ble_eq_true rfl) (by rfl) ?_
  refine wp_aload_n q272_19 (by rfl) ?_
  refine wp_getfield q272_20 (by rfl) (by rfl) ?_
  refine wp_iff (t := 30) q272_23 (by rfl) (by rfl) ?_
  refine wp_iconst q272_26 ?_
  refine wp_goto (t := 40) q272_27 (by rfl) ?_
  refine wp_ireturn q272_40 (by rfl) (by rfl) ?_
  refine wK_v ?_
  refine wp_istore qL_2373 (Nat.le_of_ble_eq_true rfl) ?_
  refine wp_aload_n qL_2375 (by rfl) ?_
  refine wp_virtual qL_2376 (by decide) (Nat.le_of_ble_eq_true rfl) (by rfl) (by rfl) (by rfl) ⟨(Nat.le_of_ble_eq_true rfl), (Nat.le_of_ble_eq_true rfl), (Nat.le_of_ble_eq_true rfl)⟩ (Nat.le_of_ble_eq_true rfl) ?_
  refine wp_aload_n q209_0 (by rfl) ?_
  refine wp_getfield q209_1 (by rfl) (by rfl) ?_
  refine wp_ireturn q209_4 (by rfl) (by rfl) ?_
  refine wK_v ?_
  refine wp_iload qL_2379 (by rfl) ?_
  refine wp_ict (t := 2386) qL_2381 (by rfl) (by rfl) ?_
  refine wp_iload qL_2386 (by rfl) ?_
  refine wp_ift (t := 2403) qL_2388 (by rfl) (by rfl) ?_
  refine wp_goto (t := 3983) qL_2403 (by rfl) ?_
  refine wp_iinc qL_3983 (by rfl) (Nat.le_of_ble_eq_true rfl) ?_
  refine wp_goto (t := 28) qL_3986 (by rfl) ?_
  refine wp_iload qL_28 (by rfl) ?_
  refine wp_aload_ns qL_30 (by rfl) ?_
  refine wp_slen (n := 5) qL_31 rfl ?_
  refine wp_iconst qL_32 ?_
  refine wp_isub qL_33 ?_
  refine wp_ict (t := 3989) qL_34 (by rfl) (by rfl) ?_
  refine wp_iconst qL_3989 ?_
  refine wp_ireturn qL_3990 (by rfl) (by rfl) ?_
  rfl
theorem pt_35_0 {x0 x1 x2 x3 x4 : Int32} (e0 : x0 &&& 63 = Int32.ofNat 35) (e1 : sC2 .lt x1 (1) = true) (e2 : sC2 .lt x3 (0) = true) (e3 : sC2 .lt x1 (1) = true) : wLaw [x0, x1, x2, x3, x4] := by
  unfold wLaw
  refine wp_iload qL_28 (by rfl) ?_
  refine wp_aload_ns qL_30 (by rfl) ?_
  refine wp_slen (n := 5) qL_31 rfl ?_
  refine wp_iconst qL_32 ?_
  refine wp_isub qL_33 ?_
  refine wp_icf (t := 3989) qL_34 (by rfl) (by rfl) ?_
  refine wp_aload_ns qL_37 (by rfl) ?_
  refine wp_iload qL_38 (by rfl) ?_
  refine wp_sload (x := x0) qL_40 (by rfl) (by rfl) ?_
  refine wp_bipush qL_41 ?_
  refine wp_iand qL_43 ?_
  refine wp_switch (t := 2406) qL_44 e0 (by rfl) ?_
  refine wp_aload_n qL_2406 (by rfl) ?_
  refine wp_aload_ns qL_2407 (by rfl) ?_
  refine wp_iload qL_2408 (by rfl) ?_
  refine wp_iconst qL_2410 ?_
  refine wp_iadd qL_2411 ?_
  refine wp_sload (x := x1) qL_2412 (by rfl) (by rfl) ?_
  refine wp_aload_ns qL_2413 (by rfl) ?_
  refine wp_iload qL_2414 (by rfl) ?_
  refine wp_iconst qL_2416 ?_
  refine wp_iadd qL_2417 ?_
  refine wp_sload (x := x2) qL_2418 (by rfl) (by rfl) ?_
  refine wp_aload_ns qL_2419 (by rfl) ?_
  refine wp_iload qL_2420 (by rfl) ?_
  refine wp_iconst qL_2422 ?_
  refine wp_iadd qL_2423 ?_
  refine wp_sload (x := x3) qL_2424 (by rfl) (by rfl) ?_
  refine wp_aload_n qL_2425 (by rfl) ?_
  refine wp_static qL_2426 (by decide) (Nat.le_of_ble_eq_true rfl) (by rfl) (by rfl) ⟨(Nat.le_of_ble_eq_true rfl), (Nat.le_of_ble_eq_true rfl), (Nat.le_of_ble_eq_true rfl)⟩ (Nat.le_of_ble_eq_true rfl) ?_
  refine wp_aload q148_0 (by rfl) ?_
  refine wp_iconst q148_2 ?_
  refine wp_aload_n q148_3 (by rfl) ?_
  refine wp_iload_n q148_4 (by rfl) ?_
  refine wp_iload_n q148_5 (by rfl) ?_
  refine wp_iload_n q148_6 (by rfl) ?_
  refine wp_virtual q148_7 (by decide) (Nat.le_of_ble_eq_true rfl) (by rfl) (by rfl) (by rfl) ⟨(Nat.le_of_ble_eq_true rfl), (Nat.le_of_ble_eq_true rfl), (Nat.le_of_ble_eq_true rfl)⟩ (Nat.le_of_ble_eq_true rfl) ?_
  refine wp_aload_n q149_0 (by rfl) ?_
  refine wp_iload_n q149_1 (by rfl) ?_
  refine wp_virtual q149_2 (by decide) (Nat.le_of_ble_eq_true rfl) (by rfl) (by rfl) (by rfl) ⟨(Nat.le_of_ble_eq_true rfl), (Nat.le_of_ble_eq_true rfl), (Nat.le_of_ble_eq_true rfl)⟩ (Nat.le_of_ble_eq_true rfl) ?_
  refine wp_iload_n q146_0 (by rfl) ?_
  refine wp_iconst q146_1 ?_
  refine wp_bipush q146_2 ?_
  refine wp_static q146_4 (by decide) (Nat.le_of_ble_eq_true rfl) (by rfl) (by rfl) ⟨(Nat.le_of_ble_eq_true rfl), (Nat.le_of_ble_eq_true rfl), (Nat.le_of_ble_eq_true rfl)⟩ (Nat.le_of_ble_eq_true rfl) ?_
  refine wp_iload_n q47_0 (by rfl) ?_
  refine wp_iload_n q47_1 (by rfl) ?_
  refine wp_ict (t := 14) q47_2 e1 (by rfl) ?_
  refine wp_iconst q47_14 ?_
  refine wp_ireturn q47_15 (by rfl) (by rfl) ?_
  refine wK_v ?_
  refine wp_iff (t := 21) q146_7 (by rfl) (by rfl) ?_
  refine wp_throw q146_10 (by decide) ⟨(Nat.le_of_ble_eq_true rfl), (Nat.le_of_ble_eq_true rfl), (Nat.le_of_ble_eq_true rfl)⟩ ?_
  refine wK_x (by rfl) ?_
  refine wK_c (by rfl) (by rfl) (by decide) (by rfl) ?_
  refine wp_iconst q148_17 ?_
  refine wp_ireturn q148_18 (by rfl) (by rfl) ?_
  refine wK_v ?_
  refine wp_istore qL_2429 (Nat.le_of_ble_eq_true rfl) ?_
  refine wp_aload_n qL_2431 (by rfl) ?_
  refine wp_aload_ns qL_2432 (by rfl) ?_
  refine wp_iload qL_2433 (by rfl) ?_
  refine wp_iconst qL_2435 ?_
  refine wp_iadd qL_2436 ?_
  refine wp_sload (x := x1) qL_2437 (by rfl) (by rfl) ?_
  refine wp_aload_ns qL_2438 (by rfl) ?_
  refine wp_iload qL_2439 (by rfl) ?_
  refine wp_iconst qL_2441 ?_
  refine wp_iadd qL_2442 ?_
  refine wp_sload (x := x2) qL_2443 (by rfl) (by rfl) ?_
  refine wp_aload_ns qL_2444 (by rfl) ?_
  refine wp_iload qL_2445 (by rfl) ?_
  refine wp_iconst qL_2447 ?_
  refine wp_iadd qL_2448 ?_
  refine wp_sload (x := x3) qL_2449 (by rfl) (by rfl) ?_
  refine wp_virtual qL_2450 (by decide) (Nat.le_of_ble_eq_true rfl) (by rfl) (by rfl) (by rfl) ⟨(Nat.le_of_ble_eq_true rfl), (Nat.le_of_ble_eq_true rfl), (Nat.le_of_ble_eq_true rfl)⟩ (Nat.le_of_ble_eq_true rfl) ?_
  refine wp_iload_n q273_0 (by rfl) ?_
  refine wp_iconst q273_1 ?_
  refine wp_iload_n q273_2 (by rfl) ?_
  refine wp_iconst q273_3 ?_
  refine wp_isub q273_4 ?_
  refine wp_static q273_5 (by decide) (Nat.le_of_ble_eq_true rfl) (by rfl) (by rfl) ⟨(Nat.le_of_ble_eq_true rfl), (Nat.le_of_ble_eq_true rfl), (Nat.le_of_ble_eq_true rfl)⟩ (Nat.le_of_ble_eq_true rfl) ?_
  refine wp_iload_n q211_0 (by rfl) ?_
  refine wp_iload_n q211_1 (by rfl) ?_
  refine wp_ict (t := 14) q211_2 e2 (by rfl) ?_
  refine wp_iconst q211_14 ?_
  refine wp_ireturn q211_15 (by rfl) (by rfl) ?_
  refine wK_v ?_
  refine wp_ift (t := 37) q273_8 (by rfl) (by rfl) ?_
  refine wp_iconst q273_37 ?_
  refine wp_istore q273_38 (Nat.le_of_ble_eq_true rfl) ?_
  refine wp_aload_n q273_40 (by rfl) ?_
  refine wp_iload_n q273_41 (by rfl) ?_
  refine wp_iconst q273_42 ?_
  refine wp_bipush q273_43 ?_
  refine wp_static q273_45 (by decide) (Nat.le_of_ble_eq_true rfl) (by rfl) (by rfl) ⟨(Nat.le_of_ble_eq_true rfl), (Nat.le_of_ble_eq_true rfl), (Nat.le_of_ble_eq_true rfl)⟩ (Nat.le_of_ble_eq_true rfl) ?_
  refine wp_iload_n q211_0 (by rfl) ?_
  refine wp_iload_n q211_1 (by rfl) ?_
  refine wp_ict (t := 14) q211_2 e3 (by rfl) ?_
  refine wp_iconst q211_14 ?_
  refine wp_ireturn q211_15 (by rfl) (by rfl) ?_
  refine wK_v ?_
  refine wp_iff (t := 55) q273_48 (by rfl) (by rfl) ?_
  refine wp_iconst q273_51 ?_
  refine wp_goto (t := 65) q273_52 (by rfl) ?_
  refine wp_putfield q273_65 (by rfl) (Nat.le_of_ble_eq_true rfl) (by rfl) ?_
  refine wp_aload_n q273_68 (by rfl) ?_
  refine wp_getfield q273_69 (by rfl) (by rfl) ?_
  refine wp_iff (t := 77) q273_72 (by rfl) (by rfl) ?_
  refine wp_iconst q273_75 ?_
  refine wp_ireturn q273_76 (by rfl) (by rfl) ?_
  refine wK_v ?_
  refine wp_istore qL_2453 (Nat.le_of_ble_eq_true rfl) ?_
  refine wp_aload_n qL_2455 (by rfl) ?_
  refine wp_virtual qL_2456 (by decide) (Nat.le_of_ble_eq_true rfl) (by rfl) (by rfl) (by rfl) ⟨(Nat.le_of_ble_eq_true rfl), (Nat.le_of_ble_eq_true rfl), (Nat.le_of_ble_eq_true rfl)⟩ (Nat.le_of_ble_eq_true rfl) ?_
  refine wp_aload_n q209_0 (by rfl) ?_
  refine wp_getfield q209_1 (by rfl) (by rfl) ?_
  refine wp_ireturn q209_4 (by rfl) (by rfl) ?_
  refine wK_v ?_
  refine wp_iload qL_2459 (by rfl) ?_
  refine wp_ict (t := 2466) qL_2461 (by rfl) (by rfl) ?_
  refine wp_iload qL_2466 (by rfl) ?_
  refine wp_ift (t := 2483) qL_2468 (by rfl) (by rfl) ?_
  refine wp_goto (t := 3983) qL_2483 (by rfl) ?_
  refine wp_iinc qL_3983 (by rfl) (Nat.le_of_ble_eq_true rfl) ?_
  refine wp_goto (t := 28) qL_3986 (by rfl) ?_
  refine wp_iload qL_28 (by rfl) ?_
  refine wp_aload_ns qL_30 (by rfl) ?_
  refine wp_slen (n := 5) qL_31 rfl ?_
  refine wp_iconst qL_32 ?_
  refine wp_isub qL_33 ?_
  refine wp_ict (t := 3989) qL_34 (by rfl) (by rfl) ?_
  refine wp_iconst qL_3989 ?_
  refine wp_ireturn qL_3990 (by rfl) (by rfl) ?_
  rfl
theorem pt_35_1 {x0 x1 x2 x3 x4 : Int32} (e0 : x0 &&& 63 = Int32.ofNat 35) (e1 : sC2 .lt x1 (1) = true) (e2 : sC2 .lt x3 (0) = false) (e3 : sC2 .gt x3 (x1 - (1)) = false) (e4 : sC2 .lt x2 (0) = true) (e5 : sC2 .lt x1 (1) = true) : wLaw [x0, x1, x2, x3, x4] := by
  unfold wLaw
  refine wp_iload qL_28 (by rfl) ?_
  refine wp_aload_ns qL_30 (by rfl) ?_
  refine wp_slen (n := 5) qL_31 rfl ?_
  refine wp_iconst qL_32 ?_
  refine wp_isub qL_33 ?_
  refine wp_icf (t := 3989) qL_34 (by rfl) (by rfl) ?_
  refine wp_aload_ns qL_37 (by rfl) ?_
  refine wp_iload qL_38 (by rfl) ?_
  refine wp_sload (x := x0) qL_40 (by rfl) (by rfl) ?_
  refine wp_bipush qL_41 ?_
  refine wp_iand qL_43 ?_
  refine wp_switch (t := 2406) qL_44 e0 (by rfl) ?_
  refine wp_aload_n qL_2406 (by rfl) ?_
  refine wp_aload_ns qL_2407 (by rfl) ?_
  refine wp_iload qL_2408 (by rfl) ?_
  refine wp_iconst qL_2410 ?_
  refine wp_iadd qL_2411 ?_
  refine wp_sload (x := x1) qL_2412 (by rfl) (by rfl) ?_
  refine wp_aload_ns qL_2413 (by rfl) ?_
  refine wp_iload qL_2414 (by rfl) ?_
  refine wp_iconst qL_2416 ?_
  refine wp_iadd qL_2417 ?_
  refine wp_sload (x := x2) qL_2418 (by rfl) (by rfl) ?_
  refine wp_aload_ns qL_2419 (by rfl) ?_
  refine wp_iload qL_2420 (by rfl) ?_
  refine wp_iconst qL_2422 ?_
  refine wp_iadd qL_2423 ?_
  refine wp_sload (x := x3) qL_2424 (by rfl) (by rfl) ?_
  refine wp_aload_n qL_2425 (by rfl) ?_
  refine wp_static qL_2426 (by decide) (Nat.le_of_ble_eq_true rfl) (by rfl) (by rfl) ⟨(Nat.le_of_ble_eq_true rfl), (Nat.le_of_ble_eq_true rfl), (Nat.le_of_ble_eq_true rfl)⟩ (Nat.le_of_ble_eq_true rfl) ?_
  refine wp_aload q148_0 (by rfl) ?_
  refine wp_iconst q148_2 ?_
  refine wp_aload_n q148_3 (by rfl) ?_
  refine wp_iload_n q148_4 (by rfl) ?_
  refine wp_iload_n q148_5 (by rfl) ?_
  refine wp_iload_n q148_6 (by rfl) ?_
  refine wp_virtual q148_7 (by decide) (Nat.le_of_ble_eq_true rfl) (by rfl) (by rfl) (by rfl) ⟨(Nat.le_of_ble_eq_true rfl), (Nat.le_of_ble_eq_true rfl), (Nat.le_of_ble_eq_true rfl)⟩ (Nat.le_of_ble_eq_true rfl) ?_
  refine wp_aload_n q149_0 (by rfl) ?_
  refine wp_iload_n q149_1 (by rfl) ?_
  refine wp_virtual q149_2 (by decide) (Nat.le_of_ble_eq_true rfl) (by rfl) (by rfl) (by rfl) ⟨(Nat.le_of_ble_eq_true rfl), (Nat.le_of_ble_eq_true rfl), (Nat.le_of_ble_eq_true rfl)⟩ (Nat.le_of_ble_eq_true rfl) ?_
  refine wp_iload_n q146_0 (by rfl) ?_
  refine wp_iconst q146_1 ?_
  refine wp_bipush q146_2 ?_
  refine wp_static q146_4 (by decide) (Nat.le_of_ble_eq_true rfl) (by rfl) (by rfl) ⟨(Nat.le_of_ble_eq_true rfl), (Nat.le_of_ble_eq_true rfl), (Nat.le_of_ble_eq_true rfl)⟩ (Nat.le_of_ble_eq_true rfl) ?_
  refine wp_iload_n q47_0 (by rfl) ?_
  refine wp_iload_n q47_1 (by rfl) ?_
  refine wp_ict (t := 14) q47_2 e1 (by rfl) ?_
  refine wp_iconst q47_14 ?_
  refine wp_ireturn q47_15 (by rfl) (by rfl) ?_
  refine wK_v ?_
  refine wp_iff (t := 21) q146_7 (by rfl) (by rfl) ?_
  refine wp_throw q146_10 (by decide) ⟨(Nat.le_of_ble_eq_true rfl), (Nat.le_of_ble_eq_true rfl), (Nat.le_of_ble_eq_true rfl)⟩ ?_
  refine wK_x (by rfl) ?_
  refine wK_c (by rfl) (by rfl) (by decide) (by rfl) ?_
  refine wp_iconst q148_17 ?_
  refine wp_ireturn q148_18 (by rfl) (by rfl) ?_
  refine wK_v ?_
  refine wp_istore qL_2429 (Nat.le_of_ble_eq_true rfl) ?_
  refine wp_aload_n qL_2431 (by rfl) ?_
  refine wp_aload_ns qL_2432 (by rfl) ?_
  refine wp_iload qL_2433 (by rfl) ?_
  refine wp_iconst qL_2435 ?_
  refine wp_iadd qL_2436 ?_
  refine wp_sload (x := x1) qL_2437 (by rfl) (by rfl) ?_
  refine wp_aload_ns qL_2438 (by rfl) ?_
  refine wp_iload qL_2439 (by rfl) ?_
  refine wp_iconst qL_2441 ?_
  refine wp_iadd qL_2442 ?_
  refine wp_sload (x := x2) qL_2443 (by rfl) (by rfl) ?_
  refine wp_aload_ns qL_2444 (by rfl) ?_
  refine wp_iload qL_2445 (by rfl) ?_
  refine wp_iconst qL_2447 ?_
  refine wp_iadd qL_2448 ?_
  refine wp_sload (x := x3) qL_2449 (by rfl) (by rfl) ?_
  refine wp_virtual qL_2450 (by decide) (Nat.le_of_ble_eq_true rfl) (by rfl) (by rfl) (by rfl) ⟨(Nat.le_of_ble_eq_true rfl), (Nat.le_of_ble_eq_true rfl), (Nat.le_of_ble_eq_true rfl)⟩ (Nat.le_of_ble_eq_true rfl) ?_
  refine wp_iload_n q273_0 (by rfl) ?_
  refine wp_iconst q273_1 ?_
  refine wp_iload_n q273_2 (by rfl) ?_
  refine wp_iconst q273_3 ?_
  refine wp_isub q273_4 ?_
  refine wp_static q273_5 (by decide) (Nat.le_of_ble_eq_true rfl) (by rfl) (by rfl) ⟨(Nat.le_of_ble_eq_true rfl), (Nat.le_of_ble_eq_true rfl), (Nat.le_of_ble_eq_true rfl)⟩ (Nat.le_of_ble_eq_true rfl) ?_
  refine wp_iload_n q211_0 (by rfl) ?_
  refine wp_iload_n q211_1 (by rfl) ?_
  refine wp_icf (t := 14) q211_2 e2 (by rfl) ?_
  refine wp_iload_n q211_5 (by rfl) ?_
  refine wp_iload_n q211_6 (by rfl) ?_
  refine wp_icf (t := 14) q211_7 e3 (by rfl) ?_
  refine wp_iconst q211_10 ?_
  refine wp_goto (t := 15) q211_11 (by rfl) ?_
  refine wp_ireturn q211_15 (by rfl) (by rfl) ?_
  refine wK_v ?_
  refine wp_iff (t := 37) q273_8 (by rfl) (by rfl) ?_
  refine wp_iload_n q273_11 (by rfl) ?_
  refine wp_iconst q273_12 ?_
  refine wp_bipush q273_13 ?_
  refine wp_static q273_15 (by decide) (Nat.le_of_ble_eq_true rfl) (by rfl) (by rfl) ⟨(Nat.le_of_ble_eq_true rfl), (Nat.le_of_ble_eq_true rfl), (Nat.le_of_ble_eq_true rfl)⟩ (Nat.le_of_ble_eq_true rfl) ?_
  refine wp_iload_n q211_0 (by rfl) ?_
  refine wp_iload_n q211_1 (by rfl) ?_
  refine wp_ict (t := 14) q211_2 e4 (by rfl) ?_
  refine wp_iconst q211_14 ?_
  refine wp_ireturn q211_15 (by rfl) (by rfl) ?_
  refine wK_v ?_
  refine wp_ift (t := 37) q273_18 (by rfl) (by rfl) ?_
  refine wp_iconst q273_37 ?_
  refine wp_istore q273_38 (Nat.le_of_ble_eq_true rfl) ?_
  refine wp_aload_n q273_40 (by rfl) ?_
  refine wp_iload_n q273_41 (by rfl) ?_
  refine wp_iconst q273_42 ?_
  refine wp_bipush q273_43 ?_
  refine wp_static q273_45 (by decide) (Nat.le_of_ble_eq_true rfl) (by rfl) (by rfl) ⟨(Nat.le_of_ble_eq_true rfl), (Nat.le_of_ble_eq_true rfl), (Nat.le_of_ble_eq_true rfl)⟩ (Nat.le_of_ble_eq_true rfl) ?_
  refine wp_iload_n q211_0 (by rfl) ?_
  refine wp_iload_n q211_1 (by rfl) ?_
  refine wp_ict (t := 14) q211_2 e5 (by rfl) ?_
  refine wp_iconst q211_14 ?_
  refine wp_ireturn q211_15 (by rfl) (by rfl) ?_
  refine wK_v ?_
  refine wp_iff (t := 55) q273_48 (by rfl) (by rfl) ?_
  refine wp_iconst q273_51 ?_
  refine wp_goto (t := 65) q273_52 (by rfl) ?_
  refine wp_putfield q273_65 (by rfl) (Nat.le_of_ble_eq_true rfl) (by rfl) ?_
  refine wp_aload_n q273_68 (by rfl) ?_
  refine wp_getfield q273_69 (by rfl) (by rfl) ?_
  refine wp_iff (t := 77) q273_72 (by rfl) (by rfl) ?_
  refine wp_iconst q273_75 ?_
  refine wp_ireturn q273_76 (by rfl) (by rfl) ?_
  refine wK_v ?_
  refine wp_istore qL_2453 (Nat.le_of_ble_eq_true rfl) ?_
  refine wp_aload_n qL_2455 (by rfl) ?_
  refine wp_virtual qL_2456 (by decide) (Nat.le_of_ble_eq_true rfl) (by rfl) (by rfl) (by rfl) ⟨(Nat.le_of_ble_eq_true rfl), (Nat.le_of_ble_eq_true rfl), (Nat.le_of_ble_eq_true rfl)⟩ (Nat.le_of_ble_eq_true rfl) ?_
  refine wp_aload_n q209_0 (by rfl) ?_
  refine wp_getfield q209_1 (by rfl) (by rfl) ?_
  refine wp_ireturn q209_4 (by rfl) (by rfl) ?_
  refine wK_v ?_
  refine wp_iload qL_2459 (by rfl) ?_
  refine wp_ict (t := 2466) qL_2461 (by rfl) (by rfl) ?_
  refine wp_iload qL_2466 (by rfl) ?_
  refine wp_ift (t := 2483) qL_2468 (by rfl) (by rfl) ?_
  refine wp_goto (t := 3983) qL_2483 (by rfl) ?_
  refine wp_iinc qL_3983 (by rfl) (Nat.le_of_ble_eq_true rfl) ?_
  refine wp_goto (t := 28) qL_3986 (by rfl) ?_
  refine wp_iload qL_28 (by rfl) ?_
  refine wp_aload_ns qL_30 (by rfl) ?_
  refine wp_slen (n := 5) qL_31 rfl ?_
  refine wp_iconst qL_32 ?_
  refine wp_isub qL_33 ?_
  refine wp_ict (t := 3989) qL_34 (by rfl) (by rfl) ?_
  refine wp_iconst qL_3989 ?_
  refine wp_ireturn qL_3990 (by rfl) (by rfl) ?_
  rfl
theorem pt_35_2 {x0 x1 x2 x3 x4 : Int32} (e0 : x0 &&& 63 = Int32.ofNat 35) (e1 : sC2 .lt x1 (1) = true) (e2 : sC2 .lt x3 (0) = false) (e3 : sC2 .gt x3 (x1 - (1)) = false) (e4 : sC2 .lt x2 (0) = false) (e5 : sC2 .gt x2 (9) = false) (e6 : sC2 .ge ((x2 * x1) + x3) (0) = true) (e7 : sC2 .lt x1 (1) = true) : wLaw [x0, x1, x2, x3, x4] := by
  unfold wLaw
  refine wp_iload qL_28 (by rfl) ?_
  refine wp_aload_ns qL_30 (by rfl) ?_
  refine wp_slen (n := 5) qL_31 rfl ?_
  refine wp_iconst qL_32 ?_
  refine wp_isub qL_33 ?_
  refine wp_icf (t := 3989) qL_34 (by rfl) (by rfl) ?_
  refine wp_aload_ns qL_37 (by rfl) ?_
  refine wp_iload qL_38 (by rfl) ?_
  refine wp_sload (x := x0) qL_40 (by rfl) (by rfl) ?_
  refine wp_bipush qL_41 ?_
  refine wp_iand qL_43 ?_
  refine wp_switch (t := 2406) qL_44 e0 (by rfl) ?_
  refine wp_aload_n qL_2406 (by rfl) ?_
  refine wp_aload_ns qL_2407 (by rfl) ?_
  refine wp_iload qL_2408 (by rfl) ?_
  refine wp_iconst qL_2410 ?_
  refine wp_iadd qL_2411 ?_
  refine wp_sload (x := x1) qL_2412 (by rfl) (by rfl) ?_
  refine wp_aload_ns qL_2413 (by rfl) ?_
  refine wp_iload qL_2414 (by rfl) ?_
  refine wp_iconst qL_2416 ?_
  refine wp_iadd qL_2417 ?_
  refine wp_sload (x := x2) qL_2418 (by rfl) (by rfl) ?_
  refine wp_aload_ns qL_2419 (by rfl) ?_
  refine wp_iload qL_2420 (by rfl) ?_
  refine wp_iconst qL_2422 ?_
  refine wp_iadd qL_2423 ?_
  refine wp_sload (x := x3) qL_2424 (by rfl) (by rfl) ?_
  refine wp_aload_n qL_2425 (by rfl) ?_
  refine wp_static qL_2426 (by decide) (Nat.le_of_ble_eq_true rfl) (by rfl) (by rfl) ⟨(Nat.le_of_ble_eq_true rfl), (Nat.le_of_ble_eq_true rfl), (Nat.le_of_ble_eq_true rfl)⟩ (Nat.le_of_ble_eq_true rfl) ?_
  refine wp_aload q148_0 (by rfl) ?_
  refine wp_iconst q148_2 ?_
  refine wp_aload_n q148_3 (by rfl) ?_
  refine wp_iload_n q148_4 (by rfl) ?_
  refine wp_iload_n q148_5 (by rfl) ?_
  refine wp_iload_n q148_6 (by rfl) ?_
  refine wp_virtual q148_7 (by decide) (Nat.le_of_ble_eq_true rfl) (by rfl) (by rfl) (by rfl) ⟨(Nat.le_of_ble_eq_true rfl), (Nat.le_of_ble_eq_true rfl), (Nat.le_of_ble_eq_true rfl)⟩ (Nat.le_of_ble_eq_true rfl) ?_
  refine wp_aload_n q149_0 (by rfl) ?_
  refine wp_iload_n q149_1 (by rfl) ?_
  refine wp_virtual q149_2 (by decide) (Nat.le_of_ble_eq_true rfl) (by rfl) (by rfl) (by rfl) ⟨(Nat.le_of_ble_eq_true rfl), (Nat.le_of_ble_eq_true rfl), (Nat.le_of_ble_eq_true rfl)⟩ (Nat.le_of_ble_eq_true rfl) ?_
  refine wp_iload_n q146_0 (by rfl) ?_
  refine wp_iconst q146_1 ?_
  refine wp_bipush q146_2 ?_
  refine wp_static q146_4 (by decide) (Nat.le_of_ble_eq_true rfl) (by rfl) (by rfl) ⟨(Nat.le_of_ble_eq_true rfl), (Nat.le_of_ble_eq_true rfl), (Nat.le_of_ble_eq_true rfl)⟩ (Nat.le_of_ble_eq_true rfl) ?_
  refine wp_iload_n q47_0 (by rfl) ?_
  refine wp_iload_n q47_1 (by rfl) ?_
  refine wp_ict (t := 14) q47_2 e1 (by rfl) ?_
  refine wp_iconst q47_14 ?_
  refine wp_ireturn q47_15 (by rfl) (by rfl) ?_
  refine wK_v ?_
  refine wp_iff (t := 21) q146_7 (by rfl) (by rfl) ?_
  refine wp_throw q146_10 (by decide) ⟨(Nat.le_of_ble_eq_true rfl), (Nat.le_of_ble_eq_true rfl), (Nat.le_of_ble_eq_true rfl)⟩ ?_
  refine wK_x (by rfl) ?_
  refine wK_c (by rfl) (by rfl) (by decide) (by rfl) ?_
  refine wp_iconst q148_17 ?_
  refine wp_ireturn q148_18 (by rfl) (by rfl) ?_
  refine wK_v ?_
  refine wp_istore qL_2429 (Nat.le_of_ble_eq_true rfl) ?_
  refine wp_aload_n qL_2431 (by rfl) ?_
  refine wp_aload_ns qL_2432 (by rfl) ?_
  refine wp_iload qL_2433 (by rfl) ?_
  refine wp_iconst qL_2435 ?_
  refine wp_iadd qL_2436 ?_
  refine wp_sload (x := x1) qL_2437 (by rfl) (by rfl) ?_
  refine wp_aload_ns qL_2438 (by rfl) ?_
  refine wp_iload qL_2439 (by rfl) ?_
  refine wp_iconst qL_2441 ?_
  refine wp_iadd qL_2442 ?_
  refine wp_sload (x := x2) qL_2443 (by rfl) (by rfl) ?_
  refine wp_aload_ns qL_2444 (by rfl) ?_
  refine wp_iload qL_2445 (by rfl) ?_
  refine wp_iconst qL_2447 ?_
  refine wp_iadd qL_2448 ?_
  refine wp_sload (x := x3) qL_2449 (by rfl) (by rfl) ?_
  refine wp_virtual qL_2450 (by decide) (Nat.le_of_ble_eq_true rfl) (by rfl) (by rfl) (by rfl) ⟨(Nat.le_of_ble_eq_true rfl), (Nat.le_of_ble_eq_true rfl), (Nat.le_of_ble_eq_true rfl)⟩ (Nat.le_of_ble_eq_true rfl) ?_
  refine wp_iload_n q273_0 (by rfl) ?_
  refine wp_iconst q273_1 ?_
  refine wp_iload_n q273_2 (by rfl) ?_
  refine wp_iconst q273_3 ?_
  refine wp_isub q273_4 ?_
  refine wp_static q273_5 (by decide) (Nat.le_of_ble_eq_true rfl) (by rfl) (by rfl) ⟨(Nat.le_of_ble_eq_true rfl), (Nat.le_of_ble_eq_true rfl), (Nat.le_of_ble_eq_true rfl)⟩ (Nat.le_of_ble_eq_true rfl) ?_
  refine wp_iload_n q211_0 (by rfl) ?_
  refine wp_iload_n q211_1 (by rfl) ?_
  refine wp_icf (t := 14) q211_2 e2 (by rfl) ?_
  refine wp_iload_n q211_5 (by rfl) ?_
  refine wp_iload_n q211_6 (by rfl) ?_
  refine wp_icf (t := 14) q211_7 e3 (by rfl) ?_
  refine wp_iconst q211_10 ?_
  refine wp_goto (t := 15) q211_11 (by rfl) ?_
  refine wp_ireturn q211_15 (by rfl) (by rfl) ?_
  refine wK_v ?_
  refine wp_iff (t := 37) q273_8 (by rfl) (by rfl) ?_
  refine wp_iload_n q273_11 (by rfl) ?_
  refine wp_iconst q273_12 ?_
  refine wp_bipush q273_13 ?_
  refine wp_static q273_15 (by decide) (Nat.le_of_ble_eq_true rfl) (by rfl) (by rfl) ⟨(Nat.le_of_ble_eq_true rfl), (Nat.le_of_ble_eq_true rfl), (Nat.le_of_ble_eq_true rfl)⟩ (Nat.le_of_ble_eq_true rfl) ?_
  refine wp_iload_n q211_0 (by rfl) ?_
  refine wp_iload_n q211_1 (by rfl) ?_
  refine wp_icf (t := 14) q211_2 e4 (by rfl) ?_
  refine wp_iload_n q211_5 (by rfl) ?_
  refine wp_iload_n q211_6 (by rfl) ?_
  refine wp_icf (t := 14) q211_7 e5 (by rfl) ?_
  refine wp_iconst q211_10 ?_
  refine wp_goto (t := 15) q211_11 (by rfl) ?_
  refine wp_ireturn q211_15 (by rfl) (by rfl) ?_
  refine wK_v ?_
  refine wp_iff (t := 37) q273_18 (by rfl) (by rfl) ?_
  refine wp_iload_n q273_21 (by rfl) ?_
  refine wp_iload_n q273_22 (by rfl) ?_
  refine wp_imul q273_23 ?_
  refine wp_iload_n q273_24 (by rfl) ?_
  refine wp_iadd q273_25 ?_
  refine wp_aload_n q273_26 (by rfl) ?_
  refine wp_virtual q273_27 (by decide) (Nat.le_of_ble_eq_true rfl) (by rfl) (by rfl) (by rfl) ⟨(Nat.le_of_ble_eq_true rfl), (Nat.le_of_ble_eq_true rfl), (Nat.le_of_ble_eq_true rfl)⟩ (Nat.le_of_ble_eq_true rfl) ?_
  refine wp_iconst q247_0 ?_
  refine wp_istore_n q247_1 (Nat.le_of_ble_eq_true rfl) ?_
  refine wp_iconst q247_2 ?_
  refine wp_istore_n q247_3 (Nat.le_of_ble_eq_true rfl) ?_
  refine wp_iload_n q247_4 (by rfl) ?_
  refine wp_aload_n q247_5 (by rfl) ?_
  refine wp_getfield q247_6 (by rfl) (by rfl) ?_
  refine wp_ict (t := 34) q247_9 (by rfl) (by rfl) ?_
  refine wp_iload_n q247_34 (by rfl) ?_
  refine wp_ireturn q247_35 (by rfl) (by rfl) ?_
  refine wK_v ?_
  refine wp_ict (t := 37) q273_30 e6 (by rfl) ?_
  refine wp_iconst q273_37 ?_
  refine wp_istore q273_38 (Nat.le_of_ble_eq_true rfl) ?_
  refine wp_aload_n q273_40 (by rfl) ?_
  refine wp_iload_n q273_41 (by rfl) ?_
  refine wp_iconst q273_42 ?_
  refine wp_bipush q273_43 ?_
  refine wp_static q273_45 (by decide) (Nat.le_of_ble_eq_true rfl) (by rfl) (by rfl) ⟨(Nat.le_of_ble_eq_true rfl), (Nat.le_of_ble_eq_true rfl), (Nat.le_of_ble_eq_true rfl)⟩ (Nat.le_of_ble_eq_true rfl) ?_
  refine wp_iload_n q211_0 (by rfl) ?_
  refine wp_iload_n q211_1 (by rfl) ?_
  refine wp_ict (t := 14) q211_2 e7 (by rfl) ?_
  refine wp_iconst q211_14 ?_
  refine wp_ireturn q211_15 (by rfl) (by rfl) ?_
  refine wK_v ?_
  refine wp_iff (t := 55) q273_48 (by rfl) (by rfl) ?_
  refine wp_iconst q273_51 ?_
  refine wp_goto (t := 65) q273_52 (by rfl) ?_
  refine wp_putfield q273_65 (by rfl) (Nat.le_of_ble_eq_true rfl) (by rfl) ?_
  refine wp_aload_n q273_68 (by rfl) ?_
  refine wp_getfield q273_69 (by rfl) (by rfl) ?_
  refine wp_iff (t := 77) q273_72 (by rfl) (by rfl) ?_
  refine wp_iconst q273_75 ?_
  refine wp_ireturn q273_76 (by rfl) (by rfl) ?_
  refine wK_v ?_
  refine wp_istore qL_2453 (Nat.le_of_ble_eq_true rfl) ?_
  refine wp_aload_n qL_2455 (by rfl) ?_
  refine wp_virtual qL_2456 (by decide) (Nat.le_of_ble_eq_true rfl) (by rfl) (by rfl) (by rfl) ⟨(Nat.le_of_ble_eq_true rfl), (Nat.le_of_ble_eq_true rfl), (Nat.le_of_ble_eq_true rfl)⟩ (Nat.le_of_ble_eq_true rfl) ?_
  refine wp_aload_n q209_0 (by rfl) ?_
  refine wp_getfield q209_1 (by rfl) (by rfl) ?_
  refine wp_ireturn q209_4 (by rfl) (by rfl) ?_
  refine wK_v ?_
  refine wp_iload qL_2459 (by rfl) ?_
  refine wp_ict (t := 2466) qL_2461 (by rfl) (by rfl) ?_
  refine wp_iload qL_2466 (by rfl) ?_
  refine wp_ift (t := 2483) qL_2468 (by rfl) (by rfl) ?_
  refine wp_goto (t := 3983) qL_2483 (by rfl) ?_
  refine wp_iinc qL_3983 (by rfl) (Nat.le_of_ble_eq_true rfl) ?_
  refine wp_goto (t := 28) qL_3986 (by rfl) ?_
  refine wp_iload qL_28 (by rfl) ?_
  refine wp_aload_ns qL_30 (by rfl) ?_
  refine wp_slen (n := 5) qL_31 rfl ?_
  refine wp_iconst qL_32 ?_
  refine wp_isub qL_33 ?_
  refine wp_ict (t := 3989) qL_34 (by rfl) (by rfl) ?_
  refine wp_iconst qL_3989 ?_
  refine wp_ireturn qL_3990 (by rfl) (by rfl) ?_
  rfl
theorem pt_35_3 {x0 x1 x2 x3 x4 : Int32} (e0 : x0 &&& 63 = Int32.ofNat 35) (e1 : sC2 .lt x1 (1) = true) (e2 : sC2 .lt x3 (0) = false) (e3 : sC2 .gt x3 (x1 - (1)) = false) (e4 : sC2 .lt x2 (0) = false) (e5 : sC2 .gt x2 (9) = false) (e6 : sC2 .ge ((x2 * x1) + x3) (0) = false) (e7 : sC2 .lt x1 (1) = true) : wLaw [x0, x1, x2, x3, x4] := by
  unfold wLaw
  refine wp_iload qL_28 (by rfl) ?_
  refine wp_aload_ns qL_30 (by rfl) ?_
  refine wp_slen (n := 5) qL_31 rfl ?_
  refine wp_iconst qL_32 ?_
  refine wp_isub qL_33 ?_
  refine wp_icf (t := 3989) qL_34 (by rfl) (by rfl) ?_
  refine wp_aload_ns qL_37 (by rfl) ?_
  refine wp_iload qL_38 (by rfl) ?_
  refine wp_sload (x := x0) qL_40 (by rfl) (by rfl) ?_
  refine wp_bipush qL_41 ?_
  refine wp_iand qL_43 ?_
  refine wp_switch (t := 2406) qL_44 e0 (by rfl) ?_
  refine wp_aload_n qL_2406 (by rfl) ?_
  refine wp_aload_ns qL_2407 (by rfl) ?_
  refine wp_iload qL_2408 (by rfl) ?_
  refine wp_iconst qL_2410 ?_
  refine wp_iadd qL_2411 ?_
  refine wp_sload (x := x1) qL_2412 (by rfl) (by rfl) ?_
  refine wp_aload_ns qL_2413 (by rfl) ?_
  refine wp_iload qL_2414 (by rfl) ?_
  refine wp_iconst qL_2416 ?_
  refine wp_iadd qL_2417 ?_
  refine wp_sload (x := x2) qL_2418 (by rfl) (by rfl) ?_
  refine wp_aload_ns qL_2419 (by rfl) ?_
  refine wp_iload qL_2420 (by rfl) ?_
  refine wp_iconst qL_2422 ?_
  refine wp_iadd qL_2423 ?_
  refine wp_sload (x := x3) qL_2424 (by rfl) (by rfl) ?_
  refine wp_aload_n qL_2425 (by rfl) ?_
  refine wp_static qL_2426 (by decide) (Nat.le_of_ble_eq_true rfl) (by rfl) (by rfl) ⟨(Nat.le_of_ble_eq_true rfl), (Nat.le_of_ble_eq_true rfl), (Nat.le_of_ble_eq_true rfl)⟩ (Nat.le_of_ble_eq_true rfl) ?_
  refine wp_aload q148_0 (by rfl) ?_
  refine wp_iconst q148_2 ?_
  refine wp_aload_n q148_3 (by rfl) ?_
  refine wp_iload_n q148_4 (by rfl) ?_
  refine wp_iload_n q148_5 (by rfl) ?_
  refine wp_iload_n q148_6 (by rfl) ?_
  refine wp_virtual q148_7 (by decide) (Nat.le_of_ble_eq_true rfl) (by rfl) (by rfl) (by rfl) ⟨(Nat.le_of_ble_eq_true rfl), (Nat.le_of_ble_eq_true rfl), (Nat.le_of_ble_eq_true rfl)⟩ (Nat.le_of_ble_eq_true rfl) ?_
  refine wp_aload_n q149_0 (by rfl) ?_
  refine wp_iload_n q149_1 (by rfl) ?_
  refine wp_virtual q149_2 (by decide) (Nat.le_of_ble_eq_true rfl) (by rfl) (by rfl) (by rfl) ⟨(Nat.le_of_ble_eq_true rfl), (Nat.le_of_ble_eq_true rfl), (Nat.le_of_ble_eq_true rfl)⟩ (Nat.le_of_ble_eq_true rfl) ?_
  refine wp_iload_n q146_0 (by rfl) ?_
  refine wp_iconst q146_1 ?_
  refine wp_bipush q146_2 ?_
  refine wp_static q146_4 (by decide) (Nat.le_of_ble_eq_true rfl) (by rfl) (by rfl) ⟨(Nat.le_of_ble_eq_true rfl), (Nat.le_of_ble_eq_true rfl), (Nat.le_of_ble_eq_true rfl)⟩ (Nat.le_of_ble_eq_true rfl) ?_
  refine wp_iload_n q47_0 (by rfl) ?_
  refine wp_iload_n q47_1 (by rfl) ?_
  refine wp_ict (t := 14) q47_2 e1 (by rfl) ?_
  refine wp_iconst q47_14 ?_
  refine wp_ireturn q47_15 (by rfl) (by rfl) ?_
  refine wK_v ?_
  refine wp_iff (t := 21) q146_7 (by rfl) (by rfl) ?_
  refine wp_throw q146_10 (by decide) ⟨(Nat.le_of_ble_eq_true rfl), (Nat.le_of_ble_eq_true rfl), (Nat.le_of_ble_eq_true rfl)⟩ ?_
  refine wK_x (by rfl) ?_
  refine wK_c (by rfl) (by rfl) (by decide) (by rfl) ?_
  refine wp_iconst q148_17 ?_
  refine wp_ireturn q148_18 (by rfl) (by rfl) ?_
  refine wK_v ?_
  refine wp_istore qL_2429 (Nat.le_of_ble_eq_true rfl) ?_
  refine wp_aload_n qL_2431 (by rfl) ?_
  refine wp_aload_ns qL_2432 (by rfl) ?_
  refine wp_iload qL_2433 (by rfl) ?_
  refine wp_iconst qL_2435 ?_
  refine wp_iadd qL_2436 ?_
  refine wp_sload (x := x1) qL_2437 (by rfl) (by rfl) ?_
  refine wp_aload_ns qL_2438 (by rfl) ?_
  refine wp_iload qL_2439 (by rfl) ?_
  refine wp_iconst qL_2441 ?_
  refine wp_iadd qL_2442 ?_
  refine wp_sload (x := x2) qL_2443 (by rfl) (by rfl) ?_
  refine wp_aload_ns qL_2444 (by rfl) ?_
  refine wp_iload qL_2445 (by rfl) ?_
  refine wp_iconst qL_2447 ?_
  refine wp_iadd qL_2448 ?_
  refine wp_sload (x := x3) qL_2449 (by rfl) (by rfl) ?_
  refine wp_virtual qL_2450 (by decide) (Nat.le_of_ble_eq_true rfl) (by rfl) (by rfl) (by rfl) ⟨(Nat.le_of_ble_eq_true rfl), (Nat.le_of_ble_eq_true rfl), (Nat.le_of_ble_eq_true rfl)⟩ (Nat.le_of_ble_eq_true rfl) ?_
  refine wp_iload_n q273_0 (by rfl) ?_
  refine wp_iconst q273_1 ?_
  refine wp_iload_n q273_2 (by rfl) ?_
  refine wp_iconst q273_3 ?_
  refine wp_isub q273_4 ?_
  refine wp_static q273_5 (by decide) (Nat.le_of_ble_eq_true rfl) (by rfl) (by rfl) ⟨(Nat.le_of_ble_eq_true rfl), (Nat.le_of_ble_eq_true rfl), (Nat.le_of_ble_eq_true rfl)⟩ (Nat.le_of_ble_eq_true rfl) ?_
  refine wp_iload_n q211_0 (by rfl) ?_
  refine wp_iload_n q211_1 (by rfl) ?_
  refine wp_icf (t := 14) q211_2 e2 (by rfl) ?_
  refine wp_iload_n q211_5 (by rfl) ?_
  refine wp_iload_n q211_6 (by rfl) ?_
  refine wp_icf (t := 14) q211_7 e3 (by rfl) ?_
  refine wp_iconst q211_10 ?_
  refine wp_goto (t := 15) q211_11 (by rfl) ?_
  refine wp_ireturn q211_15 (by rfl) (by rfl) ?_
  refine wK_v ?_
  refine wp_iff (t := 37) q273_8 (by rfl) (by rfl) ?_
  refine wp_iload_n q273_11 (by rfl) ?_
  refine wp_iconst q273_12 ?_
  refine wp_bipush q273_13 ?_
  refine wp_static q273_15 (by decide) (Nat.le_of_ble_eq_true rfl) (by rfl) (by rfl) ⟨(Nat.le_of_ble_eq_true rfl), (Nat.le_of_ble_eq_true rfl), (Nat.le_of_ble_eq_true rfl)⟩ (Nat.le_of_ble_eq_true rfl) ?_
  refine wp_iload_n q211_0 (by rfl) ?_
  refine wp_iload_n q211_1 (by rfl) ?_
  refine wp_icf (t := 14) q211_2 e4 (by rfl) ?_
  refine wp_iload_n q211_5 (by rfl) ?_
  refine wp_iload_n q211_6 (by rfl) ?_
  refine wp_icf (t := 14) q211_7 e5 (by rfl) ?_
  refine wp_iconst q211_10 ?_
  refine wp_goto (t := 15) q211_11 (by rfl) ?_
  refine wp_ireturn q211_15 (by rfl) (by rfl) ?_
  refine wK_v ?_
  refine wp_iff (t := 37) q273_18 (by rfl) (by rfl) ?_
  refine wp_iload_n q273_21 (by rfl) ?_
  refine wp_iload_n q273_22 (by rfl) ?_
  refine wp_imul q273_23 ?_
  refine wp_iload_n q273_24 (by rfl) ?_
  refine wp_iadd q273_25 ?_
  refine wp_aload_n q273_26 (by rfl) ?_
  refine wp_virtual q273_27 (by decide) (Nat.le_of_ble_eq_true rfl) (by rfl) (by rfl) (by rfl) ⟨(Nat.le_of_ble_eq_true rfl), (Nat.le_of_ble_eq_true rfl), (Nat.le_of_ble_eq_true rfl)⟩ (Nat.le_of_ble_eq_true rfl) ?_
  refine wp_iconst q247_0 ?_
  refine wp_istore_n q247_1 (Nat.le_of_ble_eq_true rfl) ?_
  refine wp_iconst q247_2 ?_
  refine wp_istore_n q247_3 (Nat.le_of_ble_eq_true rfl) ?_
  refine wp_iload_n q247_4 (by rfl) ?_
  refine wp_aload_n q247_5 (by rfl) ?_
  refine wp_getfield q247_6 (by rfl) (by rfl) ?_
  refine wp_ict (t := 34) q247_9 (by rfl) (by rfl) ?_
  refine wp_iload_n q247_34 (by rfl) ?_
  refine wp_ireturn q247_35 (by rfl) (by rfl) ?_
  refine wK_v ?_
  refine wp_icf (t := 37) q273_30 e6 (by rfl) ?_
  refine wp_iconst q273_33 ?_
  refine wp_goto (t := 38) q273_34 (by rfl) ?_
  refine wp_istore q273_38 (Nat.le_of_ble_eq_true rfl) ?_
  refine wp_aload_n q273_40 (by rfl) ?_
  refine wp_iload_n q273_41 (by rfl) ?_
  refine wp_iconst q273_42 ?_
  refine wp_bipush q273_43 ?_
  refine wp_static q273_45 (by decide) (Nat.le_of_ble_eq_true rfl) (by rfl) (by rfl) ⟨(Nat.le_of_ble_eq_true rfl), (Nat.le_of_ble_eq_true rfl), (Nat.le_of_ble_eq_true rfl)⟩ (Nat.le_of_ble_eq_true rfl) ?_
  refine wp_iload_n q211_0 (by rfl) ?_
  refine wp_iload_n q211_1 (by rfl) ?_
  refine wp_ict (t := 14) q211_2 e7 (by rfl) ?_
  refine wp_iconst q211_14 ?_
  refine wp_ireturn q211_15 (by rfl) (by rfl) ?_
  refine wK_v ?_
  refine wp_iff (t := 55) q273_48 (by rfl) (by rfl) ?_
  refine wp_iconst q273_51 ?_
  refine wp_goto (t := 65) q273_52 (by rfl) ?_
  refine wp_putfield q273_65 (by rfl) (Nat.le_of_ble_eq_true rfl) (by rfl) ?_
  refine wp_aload_n q273_68 (by rfl) ?_
  refine wp_getfield q273_69 (by rfl) (by rfl) ?_
  refine wp_iff (t := 77) q273_72 (by rfl) (by rfl) ?_
  refine wp_iconst q273_75 ?_
  refine wp_ireturn q273_76 (by rfl) (by rfl) ?_
  refine wK_v ?_
  refine wp_istore qL_2453 (Nat.le_of_ble_eq_true rfl) ?_
  refine wp_aload_n qL_2455 (by rfl) ?_
  refine wp_virtual qL_2456 (by decide) (Nat.le_of_ble_eq_true rfl) (by rfl) (by rfl) (by rfl) ⟨(Nat.le_of_ble_eq_true rfl), (Nat.le_of_ble_eq_true rfl), (Nat.le_of_ble_eq_true rfl)⟩ (Nat.le_of_ble_eq_true rfl) ?_
  refine wp_aload_n q209_0 (by rfl) ?_
  refine wp_getfield q209_1 (by rfl) (by rfl) ?_
  refine wp_ireturn q209_4 (by rfl) (by rfl) ?_
  refine wK_v ?_
  refine wp_iload qL_2459 (by rfl) ?_
  refine wp_ict (t := 2466) qL_2461 (by rfl) (by rfl) ?_
  refine wp_iload qL_2466 (by rfl) ?_
  refine wp_ift (t := 2483) qL_2468 (by rfl) (by rfl) ?_
  refine wp_goto (t := 3983) qL_2483 (by rfl) ?_
  refine wp_iinc qL_3983 (by rfl) (Nat.le_of_ble_eq_true rfl) ?_
  refine wp_goto (t := 28) qL_3986 (by rfl) ?_
  refine wp_iload qL_28 (by rfl) ?_
  refine wp_aload_ns qL_30 (by rfl) ?_
  refine wp_slen (n := 5) qL_31 rfl ?_
  refine wp_iconst qL_32 ?_
  refine wp_isub qL_33 ?_
  refine wp_ict (t := 3989) qL_34 (by rfl) (by rfl) ?_
  refine wp_iconst qL_3989 ?_
  refine wp_ireturn qL_3990 (by rfl) (by rfl) ?_
  rfl
theorem pt_35_4 {x0 x1 x2 x3 x4 : Int32} (e0 : x0 &&& 63 = Int32.ofNat 35) (e1 : sC2 .lt x1 (1) = true) (e2 : sC2 .lt x3 (0) = false) (e3 : sC2 .gt x3 (x1 - (1)) = false) (e4 : sC2 .lt x2 (0) = false) (e5 : sC2 .gt x2 (9) = true) (e6 : sC2 .lt x1 (1) = true) : wLaw [x0, x1, x2, x3, x4] := by
  unfold wLaw
  refine wp_iload qL_28 (by rfl) ?_
  refine wp_aload_ns qL_30 (by rfl) ?_
  refine wp_slen (n := 5) qL_31 rfl ?_
  refine wp_iconst qL_32 ?_
  refine wp_isub qL_33 ?_
  refine wp_icf (t := 3989) qL_34 (by rfl) (by rfl) ?_
  refine wp_aload_ns qL_37 (by rfl) ?_
  refine wp_iload qL_38 (by rfl) ?_
  refine wp_sload (x := x0) qL_40 (by rfl) (by rfl) ?_
  refine wp_bipush qL_41 ?_
  refine wp_iand qL_43 ?_
  refine wp_switch (t := 2406) qL_44 e0 (by rfl) ?_
  refine wp_aload_n qL_2406 (by rfl) ?_
  refine wp_aload_ns qL_2407 (by rfl) ?_
  refine wp_iload qL_2408 (by rfl) ?_
  refine wp_iconst qL_2410 ?_
  refine wp_iadd qL_2411 ?_
  refine wp_sload (x := x1) qL_2412 (by rfl) (by rfl) ?_
  refine wp_aload_ns qL_2413 (by rfl) ?_
  refine wp_iload qL_2414 (by rfl) ?_
  refine wp_iconst qL_2416 ?_
  refine wp_iadd qL_2417 ?_
  refine wp_sload (x := x2) qL_2418 (by rfl) (by rfl) ?_
  refine wp_aload_ns qL_2419 (by rfl) ?_
  refine wp_iload qL_2420 (by rfl) ?_
  refine wp_iconst qL_2422 ?_
  refine wp_iadd qL_2423 ?_
  refine wp_sload (x := x3) qL_2424 (by rfl) (by rfl) ?_
  refine wp_aload_n qL_2425 (by rfl) ?_
  refine wp_static qL_2426 (by decide) (Nat.le_of_ble_eq_true rfl) (by rfl) (by rfl) ⟨(Nat.le_of_ble_eq_true rfl), (Nat.le_of_ble_eq_true rfl), (Nat.le_of_ble_eq_true rfl)⟩ (Nat.le_of_ble_eq_true rfl) ?_
  refine wp_aload q148_0 (by rfl) ?_
  refine wp_iconst q148_2 ?_
  refine wp_aload_n q148_3 (by rfl) ?_
  refine wp_iload_n q148_4 (by rfl) ?_
  refine wp_iload_n q148_5 (by rfl) ?_
  refine wp_iload_n q148_6 (by rfl) ?_
  refine wp_virtual q148_7 (by decide) (Nat.le_of_ble_eq_true rfl) (by rfl) (by rfl) (by rfl) ⟨(Nat.le_of_ble_eq_true rfl), (Nat.le_of_ble_eq_true rfl), (Nat.le_of_ble_eq_true rfl)⟩ (Nat.le_of_ble_eq_true rfl) ?_
  refine wp_aload_n q149_0 (by rfl) ?_
  refine wp_iload_n q149_1 (by rfl) ?_
  refine wp_virtual q149_2 (by decide) (Nat.le_of_ble_eq_true rfl) (by rfl) (by rfl) (by rfl) ⟨(Nat.le_of_ble_eq_true rfl), (Nat.le_of_ble_eq_true rfl), (Nat.le_of_ble_eq_true rfl)⟩ (Nat.le_of_ble_eq_true rfl) ?_
  refine wp_iload_n q146_0 (by rfl) ?_
  refine wp_iconst q146_1 ?_
  refine wp_bipush q146_2 ?_
  refine wp_static q146_4 (by decide) (Nat.le_of_ble_eq_true rfl) (by rfl) (by rfl) ⟨(Nat.le_of_ble_eq_true rfl), (Nat.le_of_ble_eq_true rfl), (Nat.le_of_ble_eq_true rfl)⟩ (Nat.le_of_ble_eq_true rfl) ?_
  refine wp_iload_n q47_0 (by rfl) ?_
  refine wp_iload_n q47_1 (by rfl) ?_
  refine wp_ict (t := 14) q47_2 e1 (by rfl) ?_
  refine wp_iconst q47_14 ?_
  refine wp_ireturn q47_15 (by rfl) (by rfl) ?_
  refine wK_v ?_
  refine wp_iff (t := 21) q146_7 (by rfl) (by rfl) ?_
  refine wp_throw q146_10 (by decide) ⟨(Nat.le_of_ble_eq_true rfl), (Nat.le_of_ble_eq_true rfl), (Nat.le_of_ble_eq_true rfl)⟩ ?_
  refine wK_x (by rfl) ?_
  refine wK_c (by rfl) (by rfl) (by decide) (by rfl) ?_
  refine wp_iconst q148_17 ?_
  refine wp_ireturn q148_18 (by rfl) (by rfl) ?_
  refine wK_v ?_
  refine wp_istore qL_2429 (Nat.le_of_ble_eq_true rfl) ?_
  refine wp_aload_n qL_2431 (by rfl) ?_
  refine wp_aload_ns qL_2432 (by rfl) ?_
  refine wp_iload qL_2433 (by rfl) ?_
  refine wp_iconst qL_2435 ?_
  refine wp_iadd qL_2436 ?_
  refine wp_sload (x := x1) qL_2437 (by rfl) (by rfl) ?_
  refine wp_aload_ns qL_2438 (by rfl) ?_
  refine wp_iload qL_2439 (by rfl) ?_
  refine wp_iconst qL_2441 ?_
  refine wp_iadd qL_2442 ?_
  refine wp_sload (x := x2) qL_2443 (by rfl) (by rfl) ?_
  refine wp_aload_ns qL_2444 (by rfl) ?_
  refine wp_iload qL_2445 (by rfl) ?_
  refine wp_iconst qL_2447 ?_
  refine wp_iadd qL_2448 ?_
  refine wp_sload (x := x3) qL_2449 (by rfl) (by rfl) ?_
  refine wp_virtual qL_2450 (by decide) (Nat.le_of_ble_eq_true rfl) (by rfl) (by rfl) (by rfl) ⟨(Nat.le_of_ble_eq_true rfl), (Nat.le_of_ble_eq_true rfl), (Nat.le_of_ble_eq_true rfl)⟩ (Nat.le_of_ble_eq_true rfl) ?_
  refine wp_iload_n q273_0 (by rfl) ?_
  refine wp_iconst q273_1 ?_
  refine wp_iload_n q273_2 (by rfl) ?_
  refine wp_iconst q273_3 ?_
  refine wp_isub q273_4 ?_
  refine wp_static q273_5 (by decide) (Nat.le_of_ble_eq_true rfl) (by rfl) (by rfl) ⟨(Nat.le_of_ble_eq_true rfl), (Nat.le_of_ble_eq_true rfl), (Nat.le_of_ble_eq_true rfl)⟩ (Nat.le_of_ble_eq_true rfl) ?_
  refine wp_iload_n q211_0 (by rfl) ?_
  refine wp_iload_n q211_1 (by rfl) ?_
  refine wp_icf (t := 14) q211_2 e2 (by rfl) ?_
  refine wp_iload_n q211_5 (by rfl) ?_
  refine wp_iload_n q211_6 (by rfl) ?_
  refine wp_icf (t := 14) q211_7 e3 (by rfl) ?_
  refine wp_iconst q211_10 ?_
  refine wp_goto (t := 15) q211_11 (by rfl) ?_
  refine wp_ireturn q211_15 (by rfl) (by rfl) ?_
  refine wK_v ?_
  refine wp_iff (t := 37) q273_8 (by rfl) (by rfl) ?_
  refine wp_iload_n q273_11 (by rfl) ?_
  refine wp_iconst q273_12 ?_
  refine wp_bipush q273_13 ?_
  refine wp_static q273_15 (by decide) (Nat.le_of_ble_eq_true rfl) (by rfl) (by rfl) ⟨(Nat.le_of_ble_eq_true rfl), (Nat.le_of_ble_eq_true rfl), (Nat.le_of_ble_eq_true rfl)⟩ (Nat.le_of_ble_eq_true rfl) ?_
  refine wp_iload_n q211_0 (by rfl) ?_
  refine wp_iload_n q211_1 (by rfl) ?_
  refine wp_icf (t := 14) q211_2 e4 (by rfl) ?_
  refine wp_iload_n q211_5 (by rfl) ?_
  refine wp_iload_n q211_6 (by rfl) ?_
  refine wp_ict (t := 14) q211_7 e5 (by rfl) ?_
  refine wp_iconst q211_14 ?_
  refine wp_ireturn q211_15 (by rfl) (by rfl) ?_
  refine wK_v ?_
  refine wp_ift (t := 37) q273_18 (by rfl) (by rfl) ?_
  refine wp_iconst q273_37 ?_
  refine wp_istore q273_38 (Nat.le_of_ble_eq_true rfl) ?_
  refine wp_aload_n q273_40 (by rfl) ?_
  refine wp_iload_n q273_41 (by rfl) ?_
  refine wp_iconst q273_42 ?_
  refine wp_bipush q273_43 ?_
  refine wp_static q273_45 (by decide) (Nat.le_of_ble_eq_true rfl) (by rfl) (by rfl) ⟨(Nat.le_of_ble_eq_true rfl), (Nat.le_of_ble_eq_true rfl), (Nat.le_of_ble_eq_true rfl)⟩ (Nat.le_of_ble_eq_true rfl) ?_
  refine wp_iload_n q211_0 (by rfl) ?_
  refine wp_iload_n q211_1 (by rfl) ?_
  refine wp_ict (t := 14) q211_2 e6 (by rfl) ?_
  refine wp_iconst q211_14 ?_
  refine wp_ireturn q211_15 (by rfl) (by rfl) ?_
  refine wK_v ?_
  refine wp_iff (t := 55) q273_48 (by rfl) (by rfl) ?_
  refine wp_iconst q273_51 ?_
  refine wp_goto (t := 65) q273_52 (by rfl) ?_
  refine wp_putfield q273_65 (by rfl) (Nat.le_of_ble_eq_true rfl) (by rfl) ?_
  refine wp_aload_n q273_68 (by rfl) ?_
  refine wp_getfield q273_69 (by rfl) (by rfl) ?_
  refine wp_iff (t := 77) q273_72 (by rfl) (by rfl) ?_
  refine wp_iconst q273_75 ?_
  refine wp_ireturn q273_76 (by rfl) (by rfl) ?_
  refine wK_v ?_
  refine wp_istore qL_2453 (Nat.le_of_ble_eq_true rfl) ?_
  refine wp_aload_n qL_2455 (by rfl) ?_
  refine wp_virtual qL_2456 (by decide) (Nat.le_of_ble_eq_true rfl) (by rfl) (by rfl) (by rfl) ⟨(Nat.le_of_ble_eq_true rfl), (Nat.le_of_ble_eq_true rfl), (Nat.le_of_ble_eq_true rfl)⟩ (Nat.le_of_ble_eq_true rfl) ?_
  refine wp_aload_n q209_0 (by rfl) ?_
  refine wp_getfield q209_1 (by rfl) (by rfl) ?_
  refine wp_ireturn q209_4 (by rfl) (by rfl) ?_
  refine wK_v ?_
  refine wp_iload qL_2459 (by rfl) ?_
  refine wp_ict (t := 2466) qL_2461 (by rfl) (by rfl) ?_
  refine wp_iload qL_2466 (by rfl) ?_
  refine wp_ift (t := 2483) qL_2468 (by rfl) (by rfl) ?_
  refine wp_goto (t := 3983) qL_2483 (by rfl) ?_
  refine wp_iinc qL_3983 (by rfl) (Nat.le_of_ble_eq_true rfl) ?_
  refine wp_goto (t := 28) qL_3986 (by rfl) ?_
  refine wp_iload qL_28 (by rfl) ?_
  refine wp_aload_ns qL_30 (by rfl) ?_
  refine wp_slen (n := 5) qL_31 rfl ?_
  refine wp_iconst qL_32 ?_
  refine wp_isub qL_33 ?_
  refine wp_ict (t := 3989) qL_34 (by rfl) (by rfl) ?_
  refine wp_iconst qL_3989 ?_
  refine wp_ireturn qL_3990 (by rfl) (by rfl) ?_
  rfl
theorem pt_35_5 {x0 x1 x2 x3 x4 : Int32} (e0 : x0 &&& 63 = Int32.ofNat 35) (e1 : sC2 .lt x1 (1) = true) (e2 : sC2 .lt x3 (0) = false) (e3 : sC2 .gt x3 (x1 - (1)) = true) (e4 : sC2 .lt x1 (1) = true) : wLaw [x0, x1, x2, x3, x4] := by
  unfold wLaw
  refine wp_iload qL_28 (by rfl) ?_
  refine wp_aload_ns qL_30 (by rfl) ?_
  refine wp_slen (n := 5) qL_31 rfl ?_
  refine wp_iconst qL_32 ?_
  refine wp_isub qL_33 ?_
  refine wp_icf (t := 3989) qL_34 (by rfl) (by rfl) ?_
  refine wp_aload_ns qL_37 (by rfl) ?_
  refine wp_iload qL_38 (by rfl) ?_
  refine wp_sload (x := x0) qL_40 (by rfl) (by rfl) ?_
  refine wp_bipush qL_41 ?_
  refine wp_iand qL_43 ?_
  refine wp_switch (t := 2406) qL_44 e0 (by rfl) ?_
  refine wp_aload_n qL_2406 (by rfl) ?_
  refine wp_aload_ns qL_2407 (by rfl) ?_
  refine wp_iload qL_2408 (by rfl) ?_
  refine wp_iconst qL_2410 ?_
  refine wp_iadd qL_2411 ?_
  refine wp_sload (x := x1) qL_2412 (by rfl) (by rfl) ?_
  refine wp_aload_ns qL_2413 (by rfl) ?_
  refine wp_iload qL_2414 (by rfl) ?_
  refine wp_iconst qL_2416 ?_
  refine wp_iadd qL_2417 ?_
  refine wp_sload (x := x2) qL_2418 (by rfl) (by rfl) ?_
  refine wp_aload_ns qL_2419 (by rfl) ?_
  refine wp_iload qL_2420 (by rfl) ?_
  refine wp_iconst qL_2422 ?_
  refine wp_iadd qL_2423 ?_
  refine wp_sload (x := x3) qL_2424 (by rfl) (by rfl) ?_
  refine wp_aload_n qL_2425 (by rfl) ?_
  refine wp_static qL_2426 (by decide) (Nat.le_of_ble_eq_true rfl) (by rfl) (by rfl) ⟨(Nat.le_of_ble_eq_true rfl), (Nat.le_of_ble_eq_true rfl), (Nat.le_of_ble_eq_true rfl)⟩ (Nat.le_of_ble_eq_true rfl) ?_
  refine wp_aload q148_0 (by rfl) ?_
  refine wp_iconst q148_2 ?_
  refine wp_aload_n q148_3 (by rfl) ?_
  refine wp_iload_n q148_4 (by rfl) ?_
  refine wp_iload_n q148_5 (by rfl) ?_
  refine wp_iload_n q148_6 (by rfl) ?_
  refine wp_virtual q148_7 (by decide) (Nat.le_of_ble_eq_true rfl) (by rfl) (by rfl) (by rfl) ⟨(Nat.le_of_ble_eq_true rfl), (Nat.le_of_ble_eq_true rfl), (Nat.le_of_ble_eq_true rfl)⟩ (Nat.le_of_ble_eq_true rfl) ?_
  refine wp_aload_n q149_0 (by rfl) ?_
  refine wp_iload_n q149_1 (by rfl) ?_
  refine wp_virtual q149_2 (by decide) (Nat.le_of_ble_eq_true rfl) (by rfl) (by rfl) (by rfl) ⟨(Nat.le_of_ble_eq_true rfl), (Nat.le_of_ble_eq_true rfl), (Nat.le_of_ble_eq_true rfl)⟩ (Nat.le_of_ble_eq_true rfl) ?_
  refine wp_iload_n q146_0 (by rfl) ?_
  refine wp_iconst q146_1 ?_
  refine wp_bipush q146_2 ?_
  refine wp_static q146_4 (by decide) (Nat.le_of_ble_eq_true rfl) (by rfl) (by rfl) ⟨(Nat.le_of_ble_eq_true rfl), (Nat.le_of_ble_eq_true rfl), (Nat.le_of_ble_eq_true rfl)⟩ (Nat.le_of_ble_eq_true rfl) ?_
  refine wp_iload_n q47_0 (by rfl) ?_
  refine wp_iload_n q47_1 (by rfl) ?_
  refine wp_ict (t := 14) q47_2 e1 (by rfl) ?_
  refine wp_iconst q47_14 ?_
  refine wp_ireturn q47_15 (by rfl) (by rfl) ?_
  refine wK_v ?_
  refine wp_iff (t := 21) q146_7 (by rfl) (by rfl) ?_
  refine wp_throw q146_10 (by decide) ⟨(Nat.le_of_ble_eq_true rfl), (Nat.le_of_ble_eq_true rfl), (Nat.le_of_ble_eq_true rfl)⟩ ?_
  refine wK_x (by rfl) ?_
  refine wK_c (by rfl) (by rfl) (by decide) (by rfl) ?_
  refine wp_iconst q148_17 ?_
  refine wp_ireturn q148_18 (by rfl) (by rfl) ?_
  refine wK_v ?_
  refine wp_istore qL_2429 (Nat.le_of_ble_eq_true rfl) ?_
  refine wp_aload_n qL_2431 (by rfl) ?_
  refine wp_aload_ns qL_2432 (by rfl) ?_
  refine wp_iload qL_2433 (by rfl) ?_
  refine wp_iconst qL_2435 ?_
  refine wp_iadd qL_2436 ?_
  refine wp_sload (x := x1) qL_2437 (by rfl) (by rfl) ?_
  refine wp_aload_ns qL_2438 (by rfl) ?_
  refine wp_iload qL_2439 (by rfl) ?_
  refine wp_iconst qL_2441 ?_
  refine wp_iadd qL_2442 ?_
  refine wp_sload (x := x2) qL_2443 (by rfl) (by rfl) ?_
  refine wp_aload_ns qL_2444 (by rfl) ?_
  refine wp_iload qL_2445 (by rfl) ?_
  refine wp_iconst qL_2447 ?_
  refine wp_iadd qL_2448 ?_
  refine wp_sload (x := x3) qL_2449 (by rfl) (by rfl) ?_
  refine wp_virtual qL_2450 (by decide) (Nat.le_of_ble_eq_true rfl) (by rfl) (by rfl) (by rfl) ⟨(Nat.le_of_ble_eq_true rfl), (Nat.le_of_ble_eq_true rfl), (Nat.le_of_ble_eq_true rfl)⟩ (Nat.le_of_ble_eq_true rfl) ?_
  refine wp_iload_n q273_0 (by rfl) ?_
  refine wp_iconst q273_1 ?_
  refine wp_iload_n q273_2 (by rfl) ?_
  refine wp_iconst q273_3 ?_
  refine wp_isub q273_4 ?_
  refine wp_static q273_5 (by decide) (Nat.le_of_ble_eq_true rfl) (by rfl) (by rfl) ⟨(Nat.le_of_ble_eq_true rfl), (Nat.le_of_ble_eq_true rfl), (Nat.le_of_ble_eq_true rfl)⟩ (Nat.le_of_ble_eq_true rfl) ?_
  refine wp_iload_n q211_0 (by rfl) ?_
  refine wp_iload_n q211_1 (by rfl) ?_
  refine wp_icf (t := 14) q211_2 e2 (by rfl) ?_
  refine wp_iload_n q211_5 (by rfl) ?_
  refine wp_iload_n q211_6 (by rfl) ?_
  refine wp_ict (t := 14) q211_7 e3 (by rfl) ?_
  refine wp_iconst q211_14 ?_
  refine wp_ireturn q211_15 (by rfl) (by rfl) ?_
  refine wK_v ?_
  refine wp_ift (t := 37) q273_8 (by rfl) (by rfl) ?_
  refine wp_iconst q273_37 ?_
  refine wp_istore q273_38 (Nat.le_of_ble_eq_true rfl) ?_
  refine wp_aload_n q273_40 (by rfl) ?_
  refine wp_iload_n q273_41 (by rfl) ?_
  refine wp_iconst q273_42 ?_
  refine wp_bipush q273_43 ?_
  refine wp_static q273_45 (by decide) (Nat.le_of_ble_eq_true rfl) (by rfl) (by rfl) ⟨(Nat.le_of_ble_eq_true rfl), (Nat.le_of_ble_eq_true rfl), (Nat.le_of_ble_eq_true rfl)⟩ (Nat.le_of_ble_eq_true rfl) ?_
  refine wp_iload_n q211_0 (by rfl) ?_
  refine wp_iload_n q211_1 (by rfl) ?_
  refine wp_ict (t := 14) q211_2 e4 (by rfl) ?_
  refine wp_iconst q211_14 ?_
  refine wp_ireturn q211_15 (by rfl) (by rfl) ?_
  refine wK_v ?_
  refine wp_iff (t := 55) q273_48 (by rfl) (by rfl) ?_
  refine wp_iconst q273_51 ?_
  refine wp_goto (t := 65) q273_52 (by rfl) ?_
  refine wp_putfield q273_65 (by rfl) (Nat.le_of_ble_eq_true rfl) (by rfl) ?_
  refine wp_aload_n q273_68 (by rfl) ?_
  refine wp_getfield q273_69 (by rfl) (by rfl) ?_
  refine wp_iff (t := 77) q273_72 (by rfl) (by rfl) ?_
  refine wp_iconst q273_75 ?_
  refine wp_ireturn q273_76 (by rfl) (by rfl) ?_
  refine wK_v ?_
  refine wp_istore qL_2453 (Nat.le_of_ble_eq_true rfl) ?_
  refine wp_aload_n qL_2455 (by rfl) ?_
  refine wp_virtual qL_2456 (by decide) (Nat.le_of_ble_eq_true rfl) (by rfl) (by rfl) (by rfl) ⟨(Nat.le_of_ble_eq_true rfl), (Nat.le_of_ble_eq_true rfl), (Nat.le_of_ble_eq_true rfl)⟩ (Nat.le_of_ble_eq_true rfl) ?_
  refine wp_aload_n q209_0 (by rfl) ?_
  refine wp_getfield q209_1 (by rfl) (by rfl) ?_
  refine wp_ireturn q209_4 (by rfl) (by rfl) ?_
  refine wK_v ?_
  refine wp_iload qL_2459 (by rfl) ?_
  refine wp_ict (t := 2466) qL_2461 (by rfl) (by rfl) ?_
  refine wp_iload qL_2466 (by rfl) ?_
  refine wp_ift (t := 2483) qL_2468 (by rfl) (by rfl) ?_
  refine wp_goto (t := 3983) qL_2483 (by rfl) ?_
  refine wp_iinc qL_3983 (by rfl) (Nat.le_of_ble_eq_true rfl) ?_
  refine wp_goto (t := 28) qL_3986 (by rfl) ?_
  refine wp_iload qL_28 (by rfl) ?_
  refine wp_aload_ns qL_30 (by rfl) ?_
  refine wp_slen (n := 5) qL_31 rfl ?_
  refine wp_iconst qL_32 ?_
  refine wp_isub qL_33 ?_
  refine wp_ict (t := 3989) qL_34 (by rfl) (by rfl) ?_
  refine wp_iconst qL_3989 ?_
  refine wp_ireturn qL_3990 (by rfl) (by rfl) ?_
  rfl
theorem pt_35_6 {x0 x2 x3 x4 : Int32} (e0 : x0 &&& 63 = Int32.ofNat 35) (e1 : sC2 .lt x2 (0) = true) (e2 : sC2 .lt x3 (0) = true) : wLaw [x0, (1), x2, x3, x4] := by
  unfold wLaw
  refine wp_iload qL_28 (by rfl) ?_
  refine wp_aload_ns qL_30 (by rfl) ?_
  refine wp_slen (n := 5) qL_31 rfl ?_
  refine wp_iconst qL_32 ?_
  refine wp_isub qL_33 ?_
  refine wp_icf (t := 3989) qL_34 (by rfl) (by rfl) ?_
  refine wp_aload_ns qL_37 (by rfl) ?_
  refine wp_iload qL_38 (by rfl) ?_
  refine wp_sload (x := x0) qL_40 (by rfl) (by rfl) ?_
  refine wp_bipush qL_41 ?_
  refine wp_iand qL_43 ?_
  refine wp_switch (t := 2406) qL_44 e0 (by rfl) ?_
  refine wp_aload_n qL_2406 (by rfl) ?_
  refine wp_aload_ns qL_2407 (by rfl) ?_
  refine wp_iload qL_2408 (by rfl) ?_
  refine wp_iconst qL_2410 ?_
  refine wp_iadd qL_2411 ?_
  refine wp_sload (x := (1)) qL_2412 (by rfl) (by rfl) ?_
  refine wp_aload_ns qL_2413 (by rfl) ?_
  refine wp_iload qL_2414 (by rfl) ?_
  refine wp_iconst qL_2416 ?_
  refine wp_iadd qL_2417 ?_
  refine wp_sload (x := x2) qL_2418 (by rfl) (by rfl) ?_
  refine wp_aload_ns qL_2419 (by rfl) ?_
  refine wp_iload qL_2420 (by rfl) ?_
  refine wp_iconst qL_2422 ?_
  refine wp_iadd qL_2423 ?_
  refine wp_sload (x := x3) qL_2424 (by rfl) (by rfl) ?_
  refine wp_aload_n qL_2425 (by rfl) ?_
  refine wp_static qL_2426 (by decide) (Nat.le_of_ble_eq_true rfl) (by rfl) (by rfl) ⟨(Nat.le_of_ble_eq_true rfl), (Nat.le_of_ble_eq_true rfl), (Nat.le_of_ble_eq_true rfl)⟩ (Nat.le_of_ble_eq_true rfl) ?_
  refine wp_aload q148_0 (by rfl) ?_
  refine wp_iconst q148_2 ?_
  refine wp_aload_n q148_3 (by rfl) ?_
  refine wp_iload_n q148_4 (by rfl) ?_
  refine wp_iload_n q148_5 (by rfl) ?_
  refine wp_iload_n q148_6 (by rfl) ?_
  refine wp_virtual q148_7 (by decide) (Nat.le_of_ble_eq_true rfl) (by rfl) (by rfl) (by rfl) ⟨(Nat.le_of_ble_eq_true rfl), (Nat.le_of_ble_eq_true rfl), (Nat.le_of_ble_eq_true rfl)⟩ (Nat.le_of_ble_eq_true rfl) ?_
  refine wp_aload_n q149_0 (by rfl) ?_
  refine wp_iload_n q149_1 (by rfl) ?_
  refine wp_virtual q149_2 (by decide) (Nat.le_of_ble_eq_true rfl) (by rfl) (by rfl) (by rfl) ⟨(Nat.le_of_ble_eq_true rfl), (Nat.le_of_ble_eq_true rfl), (Nat.le_of_ble_eq_true rfl)⟩ (Nat.le_of_ble_eq_true rfl) ?_
  refine wp_iload_n q146_0 (by rfl) ?_
  refine wp_iconst q146_1 ?_
  refine wp_bipush q146_2 ?_
  refine wp_static q146_4 (by decide) (Nat.le_of_ble_eq_true rfl) (by rfl) (by rfl) ⟨(Nat.le_of_ble_eq_true rfl), (Nat.le_of_ble_eq_true rfl), (Nat.le_of_ble_eq_true rfl)⟩ (Nat.le_of_ble_eq_true rfl) ?_
  refine wp_iload_n q47_0 (by rfl) ?_
  refine wp_iload_n q47_1 (by rfl) ?_
  refine wp_icf (t := 14) q47_2 (by rfl) (by rfl) ?_
  refine wp_iload_n q47_5 (by rfl) ?_
  refine wp_iload_n q47_6 (by rfl) ?_
  refine wp_icf (t := 14) q47_7 (by rfl) (by rfl) ?_
  refine wp_iconst q47_10 ?_
  refine wp_goto (t := 15) q47_11 (by rfl) ?_
  refine wp_ireturn q47_15 (by rfl) (by rfl) ?_
  refine wK_v ?_
  refine wp_ift (t := 21) q146_7 (by rfl) (by rfl) ?_
  refine wp_return q146_21 (by rfl) ?_
  refine wK_n ?_
  refine wp_aload_n q149_5 (by rfl) ?_
  refine wp_virtual q149_6 (by decide) (Nat.le_of_ble_eq_true rfl) (by rfl) (by rfl) (by rfl) ⟨(Nat.le_of_ble_eq_true rfl), (Nat.le_of_ble_eq_true rfl), (Nat.le_of_ble_eq_true rfl)⟩ (Nat.le_of_ble_eq_true rfl) ?_
  refine wp_iconst q12_0 ?_
  refine wp_istore_n q12_1 (Nat.le_of_ble_eq_true rfl) ?_
  refine wp_iconst q12_2 ?_
  refine wp_istore_n q12_3 (Nat.le_of_ble_eq_true rfl) ?_
  refine wp_iload_n q12_4 (by rfl) ?_
  refine wp_aload_n q12_5 (by rfl) ?_
  refine wp_getfield q12_6 (by rfl) (by rfl) ?_
  refine wp_ict (t := 34) q12_9 (by rfl) (by rfl) ?_
  refine wp_iload_n q12_34 (by rfl) ?_
  refine wp_ireturn q12_35 (by rfl) (by rfl) ?_
  refine wK_v ?_
  refine wp_istore q149_9 (Nat.le_of_ble_eq_true rfl) ?_
  refine wp_iload_n q149_11 (by rfl) ?_
  refine wp_iconst q149_12 ?_
  refine wp_iload_n q149_13 (by rfl) ?_
  refine wp_iload q149_14 (by rfl) ?_
  refine wp_static q149_16 (by decide) (Nat.le_of_ble_eq_true rfl) (by rfl) (by rfl) ⟨(Nat.le_of_ble_eq_true rfl), (Nat.le_of_ble_eq_true rfl), (Nat.le_of_ble_eq_true rfl)⟩ (Nat.le_of_ble_eq_true rfl) ?_
  refine wp_iload_n q147_0 (by rfl) ?_
  refine wp_iff (t := 14) q147_1 (by rfl) (by rfl) ?_
  refine wp_iload_n q147_4 (by rfl) ?_
  refine wp_iload_n q147_5 (by rfl) ?_
  refine wp_iadd q147_6 ?_
  refine wp_iconst q147_7 ?_
  refine wp_isub q147_8 ?_
  refine wp_iload_n q147_9 (by rfl) ?_
  refine wp_idiv q147_10 (by decide) ?_
  refine wp_goto (t := 15) q147_11 (by rfl) ?_
  refine wp_ireturn q147_15 (by rfl) (by rfl) ?_
  refine wK_v ?_
  refine wp_iconst q149_19 ?_
  refine wp_isub q149_20 ?_
  refine wp_static q149_21 (by decide) (Nat.le_of_ble_eq_true rfl) (by rfl) (by rfl) ⟨(Nat.le_of_ble_eq_true rfl), (Nat.le_of_ble_eq_true rfl), (Nat.le_of_ble_eq_true rfl)⟩ (Nat.le_of_ble_eq_true rfl) ?_
  refine wp_iload_n q47_0 (by rfl) ?_
  refine wp_iload_n q47_1 (by rfl) ?_
  refine wp_ict (t := 14) q47_2 e1 (by rfl) ?_
  refine wp_iconst q47_14 ?_
  refine wp_ireturn q47_15 (by rfl) (by rfl) ?_
  refine wK_v ?_
  refine wp_ift (t := 38) q149_24 (by rfl) (by rfl) ?_
  refine wp_throw q149_38 (by decide) ⟨(Nat.le_of_ble_eq_true rfl), (Nat.le_of_ble_eq_true rfl), (Nat.le_of_ble_eq_true rfl)⟩ ?_
  refine wK_c (by rfl) (by rfl) (by decide) (by rfl) ?_
  refine wp_iconst q148_21 ?_
  refine wp_ireturn q148_22 (by rfl) (by rfl) ?_
  refine wK_v ?_
  refine wp_istore qL_2429 (Nat.le_of_ble_eq_true rfl) ?_
  refine wp_aload_n qL_2431 (by rfl) ?_
  refine wp_aload_ns qL_2432 (by rfl) ?_
  refine wp_iload qL_2433 (by rfl) ?_
  refine wp_iconst qL_2435 ?_
  refine wp_iadd qL_2436 ?_
  refine wp_sload (x := (1)) qL_2437 (by rfl) (by rfl) ?_
  refine wp_aload_ns qL_2438 (by rfl) ?_
  refine wp_iload qL_2439 (by rfl) ?_
  refine wp_iconst qL_2441 ?_
  refine wp_iadd qL_2442 ?_
  refine wp_sload (x := x2) qL_2443 (by rfl) (by rfl) ?_
  refine wp_aload_ns qL_2444 (by rfl) ?_
  refine wp_iload qL_2445 (by rfl) ?_
  refine wp_iconst qL_2447 ?_
  refine wp_iadd qL_2448 ?_
  refine wp_sload (x := x3) qL_2449 (by rfl) (by rfl) ?_
  refine wp_virtual qL_2450 (by decide) (Nat.le_of_ble_eq_true rfl) (by rfl) (by rfl) (by rfl) ⟨(Nat.le_of_ble_eq_true rfl), (Nat.le_of_ble_eq_true rfl), (Nat.le_of_ble_eq_true rfl)⟩ (Nat.le_of_ble_eq_true rfl) ?_
  refine wp_iload_n q273_0 (by rfl) ?_
  refine wp_iconst q273_1 ?_
  refine wp_iload_n q273_2 (by rfl) ?_
  refine wp_iconst q273_3 ?_
  refine wp_isub q273_4 ?_
  refine wp_static q273_5 (by decide) (Nat.le_of_ble_eq_true rfl) (by rfl) (by rfl) ⟨(Nat.le_of_ble_eq_true rfl), (Nat.le_of_ble_eq_true rfl), (Nat.le_of_ble_eq_true rfl)⟩ (Nat.le_of_ble_eq_true rfl) ?_
  refine wp_iload_n q211_0 (by rfl) ?_
  refine wp_iload_n q211_1 (by rfl) ?_
  refine wp_ict (t := 14) q211_2 e2 (by rfl) ?_
  refine wp_iconst q211_14 ?_
  refine wp_ireturn q211_15 (by rfl) (by rfl) ?_
  refine wK_v ?_
  refine wp_ift (t := 37) q273_8 (by rfl) (by rfl) ?_
  refine wp_iconst q273_37 ?_
  refine wp_istore q273_38 (Nat.le_of_ble_eq_true rfl) ?_
  refine wp_aload_n q273_40 (by rfl) ?_
  refine wp_iload_n q273_41 (by rfl) ?_
  refine wp_iconst q273_42 ?_
  refine wp_bipush q273_43 ?_
  refine wp_static q273_45 (by decide) (Nat.le_of_ble_eq_true rfl) (by rfl) (by rfl) ⟨(Nat.le_of_ble_eq_true rfl), (Nat.le_of_ble_eq_true rfl), (Nat.le_of_ble_eq_true rfl)⟩ (Nat.le_of_ble_eq_true rfl) ?_
  refine wp_iload_n q211_0 (by rfl) ?_
  refine wp_iload_n q211_1 (by rfl) ?_
  refine wp_icf (t := 14) q211_2 (by rfl) (by rfl) ?_
  refine wp_iload_n q211_5 (by rfl) ?_
  refine wp_iload_n q211_6 (by rfl) ?_
  refine wp_icf (t := 14) q211_7 (by rfl) (by rfl) ?_
  refine wp_iconst q211_10 ?_
  refine wp_goto (t := 15) q211_11 (by rfl) ?_
  refine wp_ireturn q211_15 (by rfl) (by rfl) ?_
  refine wK_v ?_
  refine wp_ift (t := 55) q273_48 (by rfl) (by rfl) ?_
  refine wp_iload q273_55 (by rfl) ?_
  refine wp_iff (t := 64) q273_57 (by rfl) (by rfl) ?_
  refine wp_iconst q273_60 ?_
  refine wp_goto (t := 65) q273_61 (by rfl) ?_
  refine wp_putfield q273_65 (by rfl) (Nat.le_of_ble_eq_true rfl) (by rfl) ?_
  refine wp_aload_n q273_68 (by rfl) ?_
  refine wp_getfield q273_69 (by rfl) (by rfl) ?_
  refine wp_iff (t := 77) q273_72 (by rfl) (by rfl) ?_
  refine wp_iconst q273_75 ?_
  refine wp_ireturn q273_76 (by rfl) (by rfl) ?_
  refine wK_v ?_
  refine wp_istore qL_2453 (Nat.le_of_ble_eq_true rfl) ?_
  refine wp_aload_n qL_2455 (by rfl) ?_
  refine wp_virtual qL_2456 (by decide) (Nat.le_of_ble_eq_true rfl) (by rfl) (by rfl) (by rfl) ⟨(Nat.le_of_ble_eq_true rfl), (Nat.le_of_ble_eq_true rfl), (Nat.le_of_ble_eq_true rfl)⟩ (Nat.le_of_ble_eq_true rfl) ?_
  refine wp_aload_n q209_0 (by rfl) ?_
  refine wp_getfield q209_1 (by rfl) (by rfl) ?_
  refine wp_ireturn q209_4 (by rfl) (by rfl) ?_
  refine wK_v ?_
  refine wp_iload qL_2459 (by rfl) ?_
  refine wp_ict (t := 2466) qL_2461 (by rfl) (by rfl) ?_
  refine wp_iload qL_2466 (by rfl) ?_
  refine wp_ift (t := 2483) qL_2468 (by rfl) (by rfl) ?_
  refine wp_goto (t := 3983) qL_2483 (by rfl) ?_
  refine wp_iinc qL_3983 (by rfl) (Nat.le_of_ble_eq_true rfl) ?_
  refine wp_goto (t := 28) qL_3986 (by rfl) ?_
  refine wp_iload qL_28 (by rfl) ?_
  refine wp_aload_ns qL_30 (by rfl) ?_
  refine wp_slen (n := 5) qL_31 rfl ?_
  refine wp_iconst qL_32 ?_
  refine wp_isub qL_33 ?_
  refine wp_ict (t := 3989) qL_34 (by rfl) (by rfl) ?_
  refine wp_iconst qL_3989 ?_
  refine wp_ireturn qL_3990 (by rfl) (by rfl) ?_
  rfl
theorem pt_35_7 {x0 x2 x3 x4 : Int32} (e0 : x0 &&& 63 = Int32.ofNat 35) (e1 : sC2 .lt x2 (0) = true) (e2 : sC2 .lt x3 (0) = false) (e3 : sC2 .gt x3 (0) = false) (e4 : sC2 .lt x2 (0) = true) : wLaw [x0, (1), x2, x3, x4] := by
  unfold wLaw
  refine wp_iload qL_28 (by rfl) ?_
  refine wp_aload_ns qL_30 (by rfl) ?_
  refine wp_slen (n := 5) qL_31 rfl ?_
  refine wp_iconst qL_32 ?_
  refine wp_isub qL_33 ?_
  refine wp_icf (t := 3989) qL_34 (by rfl) (by rfl) ?_
  refine wp_aload_ns qL_37 (by rfl) ?_
  refine wp_iload qL_38 (by rfl) ?_
  refine wp_sload (x := x0) qL_40 (by rfl) (by rfl) ?_
  refine wp_bipush qL_41 ?_
  refine wp_iand qL_43 ?_
  refine wp_switch (t := 2406) qL_44 e0 (by rfl) ?_
  refine wp_aload_n qL_2406 (by rfl) ?_
  refine wp_aload_ns qL_2407 (by rfl) ?_
  refine wp_iload qL_2408 (by rfl) ?_
  refine wp_iconst qL_2410 ?_
  refine wp_iadd qL_2411 ?_
  refine wp_sload (x := (1)) qL_2412 (by rfl) (by rfl) ?_
  refine wp_aload_ns qL_2413 (by rfl) ?_
  refine wp_iload qL_2414 (by rfl) ?_
  refine wp_iconst qL_2416 ?_
  refine wp_iadd qL_2417 ?_
  refine wp_sload (x := x2) qL_2418 (by rfl) (by rfl) ?_
  refine wp_aload_ns qL_2419 (by rfl) ?_
  refine wp_iload qL_2420 (by rfl) ?_
  refine wp_iconst qL_2422 ?_
  refine wp_iadd qL_2423 ?_
  refine wp_sload (x := x3) qL_2424 (by rfl) (by rfl) ?_
  refine wp_aload_n qL_2425 (by rfl) ?_
  refine wp_static qL_2426 (by decide) (Nat.le_of_ble_eq_true rfl) (by rfl) (by rfl) ⟨(Nat.le_of_ble_eq_true rfl), (Nat.le_of_ble_eq_true rfl), (Nat.le_of_ble_eq_true rfl)⟩ (Nat.le_of_ble_eq_true rfl) ?_
  refine wp_aload q148_0 (by rfl) ?_
  refine wp_iconst q148_2 ?_
  refine wp_aload_n q148_3 (by rfl) ?_
  refine wp_iload_n q148_4 (by rfl) ?_
  refine wp_iload_n q148_5 (by rfl) ?_
  refine wp_iload_n q148_6 (by rfl) ?_
  refine wp_virtual q148_7 (by decide) (Nat.le_of_ble_eq_true rfl) (by rfl) (by rfl) (by rfl) ⟨(Nat.le_of_ble_eq_true rfl), (Nat.le_of_ble_eq_true rfl), (Nat.le_of_ble_eq_true rfl)⟩ (Nat.le_of_ble_eq_true rfl) ?_
  refine wp_aload_n q149_0 (by rfl) ?_
  refine wp_iload_n q149_1 (by rfl) ?_
  refine wp_virtual q149_2 (by decide) (Nat.le_of_ble_eq_true rfl) (by rfl) (by rfl) (by rfl) ⟨(Nat.le_of_ble_eq_true rfl), (Nat.le_of_ble_eq_true rfl), (Nat.le_of_ble_eq_true rfl)⟩ (Nat.le_of_ble_eq_true rfl) ?_
  refine wp_iload_n q146_0 (by rfl) ?_
  refine wp_iconst q146_1 ?_
  refine wp_bipush q146_2 ?_
  refine wp_static q146_4 (by decide) (Nat.le_of_ble_eq_true rfl) (by rfl) (by rfl) ⟨(Nat.le_of_ble_eq_true rfl), (Nat.le_of_ble_eq_true rfl), (Nat.le_of_ble_eq_true rfl)⟩ (Nat.le_of_ble_eq_true rfl) ?_
  refine wp_iload_n q47_0 (by rfl) ?_
  refine wp_iload_n q47_1 (by rfl) ?_
  refine wp_icf (t := 14) q47_2 (by rfl) (by rfl) ?_
  refine wp_iload_n q47_5 (by rfl) ?_
  refine wp_iload_n q47_6 (by rfl) ?_
  refine wp_icf (t := 14) q47_7 (by rfl) (by rfl) ?_
  refine wp_iconst q47_10 ?_
  refine wp_goto (t := 15) q47_11 (by rfl) ?_
  refine wp_ireturn q47_15 (by rfl) (by rfl) ?_
  refine wK_v ?_
  refine wp_ift (t := 21) q146_7 (by rfl) (by rfl) ?_
  refine wp_return q146_21 (by rfl) ?_
  refine wK_n ?_
  refine wp_aload_n q149_5 (by rfl) ?_
  refine wp_virtual q149_6 (by decide) (Nat.le_of_ble_eq_true rfl) (by rfl) (by rfl) (by rfl) ⟨(Nat.le_of_ble_eq_true rfl), (Nat.le_of_ble_eq_true rfl), (Nat.le_of_ble_eq_true rfl)⟩ (Nat.le_of_ble_eq_true rfl) ?_
  refine wp_iconst q12_0 ?_
  refine wp_istore_n q12_1 (Nat.le_of_ble_eq_true rfl) ?_
  refine wp_iconst q12_2 ?_
  refine wp_istore_n q12_3 (Nat.le_of_ble_eq_true rfl) ?_
  refine wp_iload_n q12_4 (by rfl) ?_
  refine wp_aload_n q12_5 (by rfl) ?_
  refine wp_getfield q12_6 (by rfl) (by rfl) ?_
  refine wp_ict (t := 34) q12_9 (by rfl) (by rfl) ?_
  refine wp_iload_n q12_34 (by rfl) ?_
  refine wp_ireturn q12_35 (by rfl) (by rfl) ?_
  refine wK_v ?_
  refine wp_istore q149_9 (Nat.le_of_ble_eq_true rfl) ?_
  refine wp_iload_n q149_11 (by rfl) ?_
  refine wp_iconst q149_12 ?_
  refine wp_iload_n q149_13 (by rfl) ?_
  refine wp_iload q149_14 (by rfl) ?_
  refine wp_static q149_16 (by decide) (Nat.le_of_ble_eq_true rfl) (by rfl) (by rfl) ⟨(Nat.le_of_ble_eq_true rfl), (Nat.le_of_ble_eq_true rfl), (Nat.le_of_ble_eq_true rfl)⟩ (Nat.le_of_ble_eq_true rfl) ?_
  refine wp_iload_n q147_0 (by rfl) ?_
  refine wp_iff (t := 14) q147_1 (by rfl) (by rfl) ?_
  refine wp_iload_n q147_4 (by rfl) ?_
  refine wp_iload_n q147_5 (by rfl) ?_
  refine wp_iadd q147_6 ?_
  refine wp_iconst q147_7 ?_
  refine wp_isub q147_8 ?_
  refine wp_iload_n q147_9 (by rfl) ?_
  refine wp_idiv q147_10 (by decide) ?_
  refine wp_goto (t := 15) q147_11 (by rfl) ?_
  refine wp_ireturn q147_15 (by rfl) (by rfl) ?_
  refine wK_v ?_
  refine wp_iconst q149_19 ?_
  refine wp_isub q149_20 ?_
  refine wp_static q149_21 (by decide) (Nat.le_of_ble_eq_true rfl) (by rfl) (by rfl) ⟨(Nat.le_of_ble_eq_true rfl), (Nat.le_of_ble_eq_true rfl), (Nat.le_of_ble_eq_true rfl)⟩ (Nat.le_of_ble_eq_true rfl) ?_
  refine wp_iload_n q47_0 (by rfl) ?_
  refine wp_iload_n q47_1 (by rfl) ?_
  refine wp_ict (t := 14) q47_2 e1 (by rfl) ?_
  refine wp_iconst q47_14 ?_
  refine wp_ireturn q47_15 (by rfl) (by rfl) ?_
  refine wK_v ?_
  refine wp_ift (t := 38) q149_24 (by rfl) (by rfl) ?_
  refine wp_throw q149_38 (by decide) ⟨(Nat.le_of_ble_eq_true rfl), (Nat.le_of_ble_eq_true rfl), (Nat.le_of_ble_eq_true rfl)⟩ ?_
  refine wK_c (by rfl) (by rfl) (by decide) (by rfl) ?_
  refine wp_iconst q148_21 ?_
  refine wp_ireturn q148_22 (by rfl) (by rfl) ?_
  refine wK_v ?_
  refine wp_istore qL_2429 (Nat.le_of_ble_eq_true rfl) ?_
  refine wp_aload_n qL_2431 (by rfl) ?_
  refine wp_aload_ns qL_2432 (by rfl) ?_
  refine wp_iload qL_2433 (by rfl) ?_
  refine wp_iconst qL_2435 ?_
  refine wp_iadd qL_2436 ?_
  refine wp_sload (x := (1)) qL_2437 (by rfl) (by rfl) ?_
  refine wp_aload_ns qL_2438 (by rfl) ?_
  refine wp_iload qL_2439 (by rfl) ?_
  refine wp_iconst qL_2441 ?_
  refine wp_iadd qL_2442 ?_
  refine wp_sload (x := x2) qL_2443 (by rfl) (by rfl) ?_
  refine wp_aload_ns qL_2444 (by rfl) ?_
  refine wp_iload qL_2445 (by rfl) ?_
  refine wp_iconst qL_2447 ?_
  refine wp_iadd qL_2448 ?_
  refine wp_sload (x := x3) qL_2449 (by rfl) (by rfl) ?_
  refine wp_virtual qL_2450 (by decide) (Nat.le_of_ble_eq_true rfl) (by rfl) (by rfl) (by rfl) ⟨(Nat.le_of_ble_eq_true rfl), (Nat.le_of_ble_eq_true rfl), (Nat.le_of_ble_eq_true rfl)⟩ (Nat.le_of_ble_eq_true rfl) ?_
  refine wp_iload_n q273_0 (by rfl) ?_
  refine wp_iconst q273_1 ?_
  refine wp_iload_n q273_2 (by rfl) ?_
  refine wp_iconst q273_3 ?_
  refine wp_isub q273_4 ?_
  refine wp_static q273_5 (by decide) (Nat.le_of_ble_eq_true rfl) (by rfl) (by rfl) ⟨(Nat.le_of_ble_eq_true rfl), (Nat.le_of_ble_eq_true rfl), (Nat.le_of_ble_eq_true rfl)⟩ (Nat.le_of_ble_eq_true rfl) ?_
  refine wp_iload_n q211_0 (by rfl) ?_
  refine wp_iload_n q211_1 (by rfl) ?_
  refine wp_icf (t := 14) q211_2 e2 (by rfl) ?_
  refine wp_iload_n q211_5 (by rfl) ?_
  refine wp_iload_n q211_6 (by rfl) ?_
  refine wp_icf (t := 14) q211_7 e3 (by rfl) ?_
  refine wp_iconst q211_10 ?_
  refine wp_goto (t := 15) q211_11 (by rfl) ?_
  refine wp_ireturn q211_15 (by rfl) (by rfl) ?_
  refine wK_v ?_
  refine wp_iff (t := 37) q273_8 (by rfl) (by rfl) ?_
  refine wp_iload_n q273_11 (by rfl) ?_
  refine wp_iconst q273_12 ?_
  refine wp_bipush q273_13 ?_
  refine wp_static q273_15 (by decide) (Nat.le_of_ble_eq_true rfl) (by rfl) (by rfl) ⟨(Nat.le_of_ble_eq_true rfl), (Nat.le_of_ble_eq_true rfl), (Nat.le_of_ble_eq_true rfl)⟩ (Nat.le_of_ble_eq_true rfl) ?_
  refine wp_iload_n q211_0 (by rfl) ?_
  refine wp_iload_n q211_1 (by rfl) ?_
  refine wp_ict (t := 14) q211_2 e4 (by rfl) ?_
  refine wp_iconst q211_14 ?_
  refine wp_ireturn q211_15 (by rfl) (by rfl) ?_
  refine wK_v ?_
  refine wp_ift (t := 37) q273_18 (by rfl) (by rfl) ?_
  refine wp_iconst q273_37 ?_
  refine wp_istore q273_38 (Nat.le_of_ble_eq_true rfl) ?_
  refine wp_aload_n q273_40 (by rfl) ?_
  refine wp_iload_n q273_41 (by rfl) ?_
  refine wp_iconst q273_42 ?_
  refine wp_bipush q273_43 ?_
  refine wp_static q273_45 (by decide) (Nat.le_of_ble_eq_true rfl) (by rfl) (by rfl) ⟨(Nat.le_of_ble_eq_true rfl), (Nat.le_of_ble_eq_true rfl), (Nat.le_of_ble_eq_true rfl)⟩ (Nat.le_of_ble_eq_true rfl) ?_
  refine wp_iload_n q211_0 (by rfl) ?_
  refine wp_iload_n q211_1 (by rfl) ?_
  refine wp_icf (t := 14) q211_2 (by rfl) (by rfl) ?_
  refine wp_iload_n q211_5 (by rfl) ?_
  refine wp_iload_n q211_6 (by rfl) ?_
  refine wp_icf (t := 14) q211_7 (by rfl) (by rfl) ?_
  refine wp_iconst q211_10 ?_
  refine wp_goto (t := 15) q211_11 (by rfl) ?_
  refine wp_ireturn q211_15 (by rfl) (by rfl) ?_
  refine wK_v ?_
  refine wp_ift (t := 55) q273_48 (by rfl) (by rfl) ?_
  refine wp_iload q273_55 (by rfl) ?_
  refine wp_iff (t := 64) q273_57 (by rfl) (by rfl) ?_
  refine wp_iconst q273_60 ?_
  refine wp_goto (t := 65) q273_61 (by rfl) ?_
  refine wp_putfield q273_65 (by rfl) (Nat.le_of_ble_eq_true rfl) (by rfl) ?_
  refine wp_aload_n q273_68 (by rfl) ?_
  refine wp_getfield q273_69 (by rfl) (by rfl) ?_
  refine wp_iff (t := 77) q273_72 (by rfl) (by rfl) ?_
  refine wp_iconst q273_75 ?_
  refine wp_ireturn q273_76 (by rfl) (by rfl) ?_
  refine wK_v ?_
  refine wp_istore qL_2453 (Nat.le_of_ble_eq_true rfl) ?_
  refine wp_aload_n qL_2455 (by rfl) ?_
  refine wp_virtual qL_2456 (by decide) (Nat.le_of_ble_eq_true rfl) (by rfl) (by rfl) (by rfl) ⟨(Nat.le_of_ble_eq_true rfl), (Nat.le_of_ble_eq_true rfl), (Nat.le_of_ble_eq_true rfl)⟩ (Nat.le_of_ble_eq_true rfl) ?_
  refine wp_aload_n q209_0 (by rfl) ?_
  refine wp_getfield q209_1 (by rfl) (by rfl) ?_
  refine wp_ireturn q209_4 (by rfl) (by rfl) ?_
  refine wK_v ?_
  refine wp_iload qL_2459 (by rfl) ?_
  refine wp_ict (t := 2466) qL_2461 (by rfl) (by rfl) ?_
  refine wp_iload qL_2466 (by rfl) ?_
  refine wp_ift (t := 2483) qL_2468 (by rfl) (by rfl) ?_
  refine wp_goto (t := 3983) qL_2483 (by rfl) ?_
  refine wp_iinc qL_3983 (by rfl) (Nat.le_of_ble_eq_true rfl) ?_
  refine wp_goto (t := 28) qL_3986 (by rfl) ?_
  refine wp_iload qL_28 (by rfl) ?_
  refine wp_aload_ns qL_30 (by rfl) ?_
  refine wp_slen (n := 5) qL_31 rfl ?_
  refine wp_iconst qL_32 ?_
  refine wp_isub qL_33 ?_
  refine wp_ict (t := 3989) qL_34 (by rfl) (by rfl) ?_
  refine wp_iconst qL_3989 ?_
  refine wp_ireturn qL_3990 (by rfl) (by rfl) ?_
  rfl
theorem pt_35_8 {x0 x2 x3 x4 : Int32} (e0 : x0 &&& 63 = Int32.ofNat 35) (e1 : sC2 .lt x2 (0) = true) (e2 : sC2 .lt x3 (0) = false) (e3 : sC2 .gt x3 (0) = true) : wLaw [x0, (1), x2, x3, x4] := by
  unfold wLaw
  refine wp_iload qL_28 (by rfl) ?_
  refine wp_aload_ns qL_30 (by rfl) ?_
  refine wp_slen (n := 5) qL_31 rfl ?_
  refine wp_iconst qL_32 ?_
  refine wp_isub qL_33 ?_
  refine wp_icf (t := 3989) qL_34 (by rfl) (by rfl) ?_
  refine wp_aload_ns qL_37 (by rfl) ?_
  refine wp_iload qL_38 (by rfl) ?_
  refine wp_sload (x := x0) qL_40 (by rfl) (by rfl) ?_
  refine wp_bipush qL_41 ?_
  refine wp_iand qL_43 ?_
  refine wp_switch (t := 2406) qL_44 e0 (by rfl) ?_
  refine wp_aload_n qL_2406 (by rfl) ?_
  refine wp_aload_ns qL_2407 (by rfl) ?_
  refine wp_iload qL_2408 (by rfl) ?_
  refine wp_iconst qL_2410 ?_
  refine wp_iadd qL_2411 ?_
  refine wp_sload (x := (1)) qL_2412 (by rfl) (by rfl) ?_
  refine wp_aload_ns qL_2413 (by rfl) ?_
  refine wp_iload qL_2414 (by rfl) ?_
  refine wp_iconst qL_2416 ?_
  refine wp_iadd qL_2417 ?_
  refine wp_sload (x := x2) qL_2418 (by rfl) (by rfl) ?_
  refine wp_aload_ns qL_2419 (by rfl) ?_
  refine wp_iload qL_2420 (by rfl) ?_
  refine wp_iconst qL_2422 ?_
  refine wp_iadd qL_2423 ?_
  refine wp_sload (x := x3) qL_2424 (by rfl) (by rfl) ?_
  refine wp_aload_n qL_2425 (by rfl) ?_
  refine wp_static qL_2426 (by decide) (Nat.le_of_ble_eq_true rfl) (by rfl) (by rfl) ⟨(Nat.le_of_ble_eq_true rfl), (Nat.le_of_ble_eq_true rfl), (Nat.le_of_ble_eq_true rfl)⟩ (Nat.le_of_ble_eq_true rfl) ?_
  refine wp_aload q148_0 (by rfl) ?_
  refine wp_iconst q148_2 ?_
  refine wp_aload_n q148_3 (by rfl) ?_
  refine wp_iload_n q148_4 (by rfl) ?_
  refine wp_iload_n q148_5 (by rfl) ?_
  refine wp_iload_n q148_6 (by rfl) ?_
  refine wp_virtual q148_7 (by decide) (Nat.le_of_ble_eq_true rfl) (by rfl) (by rfl) (by rfl) ⟨(Nat.le_of_ble_eq_true rfl), (Nat.le_of_ble_eq_true rfl), (Nat.le_of_ble_eq_true rfl)⟩ (Nat.le_of_ble_eq_true rfl) ?_
  refine wp_aload_n q149_0 (by rfl) ?_
  refine wp_iload_n q149_1 (by rfl) ?_
  refine wp_virtual q149_2 (by decide) (Nat.le_of_ble_eq_true rfl) (by rfl) (by rfl) (by rfl) ⟨(Nat.le_of_ble_eq_true rfl), (Nat.le_of_ble_eq_true rfl), (Nat.le_of_ble_eq_true rfl)⟩ (Nat.le_of_ble_eq_true rfl) ?_
  refine wp_iload_n q146_0 (by rfl) ?_
  refine wp_iconst q146_1 ?_
  refine wp_bipush q146_2 ?_
  refine wp_static q146_4 (by decide) (Nat.le_of_ble_eq_true rfl) (by rfl) (by rfl) ⟨(Nat.le_of_ble_eq_true rfl), (Nat.le_of_ble_eq_true rfl), (Nat.le_of_ble_eq_true rfl)⟩ (Nat.le_of_ble_eq_true rfl) ?_
  refine wp_iload_n q47_0 (by rfl) ?_
  refine wp_iload_n q47_1 (by rfl) ?_
  refine wp_icf (t := 14) q47_2 (by rfl) (by rfl) ?_
  refine wp_iload_n q47_5 (by rfl) ?_
  refine wp_iload_n q47_6 (by rfl) ?_
  refine wp_icf (t := 14) q47_7 (by rfl) (by rfl) ?_
  refine wp_iconst q47_10 ?_
  refine wp_goto (t := 15) q47_11 (by rfl) ?_
  refine wp_ireturn q47_15 (by rfl) (by rfl) ?_
  refine wK_v ?_
  refine wp_ift (t := 21) q146_7 (by rfl) (by rfl) ?_
  refine wp_return q146_21 (by rfl) ?_
  refine wK_n ?_
  refine wp_aload_n q149_5 (by rfl) ?_
  refine wp_virtual q149_6 (by decide) (Nat.le_of_ble_eq_true rfl) (by rfl) (by rfl) (by rfl) ⟨(Nat.le_of_ble_eq_true rfl), (Nat.le_of_ble_eq_true rfl), (Nat.le_of_ble_eq_true rfl)⟩ (Nat.le_of_ble_eq_true rfl) ?_
  refine wp_iconst q12_0 ?_
  refine wp_istore_n q12_1 (Nat.le_of_ble_eq_true rfl) ?_
  refine wp_iconst q12_2 ?_
  refine wp_istore_n q12_3 (Nat.le_of_ble_eq_true rfl) ?_
  refine wp_iload_n q12_4 (by rfl) ?_
  refine wp_aload_n q12_5 (by rfl) ?_
  refine wp_getfield q12_6 (by rfl) (by rfl) ?_
  refine wp_ict (t := 34) q12_9 (by rfl) (by rfl) ?_
  refine wp_iload_n q12_34 (by rfl) ?_
  refine wp_ireturn q12_35 (by rfl) (by rfl) ?_
  refine wK_v ?_
  refine wp_istore q149_9 (Nat.le_of_ble_eq_true rfl) ?_
  refine wp_iload_n q149_11 (by rfl) ?_
  refine wp_iconst q149_12 ?_
  refine wp_iload_n q149_13 (by rfl) ?_
  refine wp_iload q149_14 (by rfl) ?_
  refine wp_static q149_16 (by decide) (Nat.le_of_ble_eq_true rfl) (by rfl) (by rfl) ⟨(Nat.le_of_ble_eq_true rfl), (Nat.le_of_ble_eq_true rfl), (Nat.le_of_ble_eq_true rfl)⟩ (Nat.le_of_ble_eq_true rfl) ?_
  refine wp_iload_n q147_0 (by rfl) ?_
  refine wp_iff (t := 14) q147_1 (by rfl) (by rfl) ?_
  refine wp_iload_n q147_4 (by rfl) ?_
  refine wp_iload_n q147_5 (by rfl) ?_
  refine wp_iadd q147_6 ?_
  refine wp_iconst q147_7 ?_
  refine wp_isub q147_8 ?_
  refine wp_iload_n q147_9 (by rfl) ?_
  refine wp_idiv q147_10 (by decide) ?_
  refine wp_goto (t := 15) q147_11 (by rfl) ?_
  refine wp_ireturn q147_15 (by rfl) (by rfl) ?_
  refine wK_v ?_
  refine wp_iconst q149_19 ?_
  refine wp_isub q149_20 ?_
  refine wp_static q149_21 (by decide) (Nat.le_of_ble_eq_true rfl) (by rfl) (by rfl) ⟨(Nat.le_of_ble_eq_true rfl), (Nat.le_of_ble_eq_true rfl), (Nat.le_of_ble_eq_true rfl)⟩ (Nat.le_of_ble_eq_true rfl) ?_
  refine wp_iload_n q47_0 (by rfl) ?_
  refine wp_iload_n q47_1 (by rfl) ?_
  refine wp_ict (t := 14) q47_2 e1 (by rfl) ?_
  refine wp_iconst q47_14 ?_
  refine wp_ireturn q47_15 (by rfl) (by rfl) ?_
  refine wK_v ?_
  refine wp_ift (t := 38) q149_24 (by rfl) (by rfl) ?_
  refine wp_throw q149_38 (by decide) ⟨(Nat.le_of_ble_eq_true rfl), (Nat.le_of_ble_eq_true rfl), (Nat.le_of_ble_eq_true rfl)⟩ ?_
  refine wK_c (by rfl) (by rfl) (by decide) (by rfl) ?_
  refine wp_iconst q148_21 ?_
  refine wp_ireturn q148_22 (by rfl) (by rfl) ?_
  refine wK_v ?_
  refine wp_istore qL_2429 (Nat.le_of_ble_eq_true rfl) ?_
  refine wp_aload_n qL_2431 (by rfl) ?_
  refine wp_aload_ns qL_2432 (by rfl) ?_
  refine wp_iload qL_2433 (by rfl) ?_
  refine wp_iconst qL_2435 ?_
  refine wp_iadd qL_2436 ?_
  refine wp_sload (x := (1)) qL_2437 (by rfl) (by rfl) ?_
  refine wp_aload_ns qL_2438 (by rfl) ?_
  refine wp_iload qL_2439 (by rfl) ?_
  refine wp_iconst qL_2441 ?_
  refine wp_iadd qL_2442 ?_
  refine wp_sload (x := x2) qL_2443 (by rfl) (by rfl) ?_
  refine wp_aload_ns qL_2444 (by rfl) ?_
  refine wp_iload qL_2445 (by rfl) ?_
  refine wp_iconst qL_2447 ?_
  refine wp_iadd qL_2448 ?_
  refine wp_sload (x := x3) qL_2449 (by rfl) (by rfl) ?_
  refine wp_virtual qL_2450 (by decide) (Nat.le_of_ble_eq_true rfl) (by rfl) (by rfl) (by rfl) ⟨(Nat.le_of_ble_eq_true rfl), (Nat.le_of_ble_eq_true rfl), (Nat.le_of_ble_eq_true rfl)⟩ (Nat.le_of_ble_eq_true rfl) ?_
  refine wp_iload_n q273_0 (by rfl) ?_
  refine wp_iconst q273_1 ?_
  refine wp_iload_n q273_2 (by rfl) ?_
  refine wp_iconst q273_3 ?_
  refine wp_isub q273_4 ?_
  refine wp_static q273_5 (by decide) (Nat.le_of_ble_eq_true rfl) (by rfl) (by rfl) ⟨(Nat.le_of_ble_eq_true rfl), (Nat.le_of_ble_eq_true rfl), (Nat.le_of_ble_eq_true rfl)⟩ (Nat.le_of_ble_eq_true rfl) ?_
  refine wp_iload_n q211_0 (by rfl) ?_
  refine wp_iload_n q211_1 (by rfl) ?_
  refine wp_icf (t := 14) q211_2 e2 (by rfl) ?_
  refine wp_iload_n q211_5 (by rfl) ?_
  refine wp_iload_n q211_6 (by rfl) ?_
  refine wp_ict (t := 14) q211_7 e3 (by rfl) ?_
  refine wp_iconst q211_14 ?_
  refine wp_ireturn q211_15 (by rfl) (by rfl) ?_
  refine wK_v ?_
  refine wp_ift (t := 37) q273_8 (by rfl) (by rfl) ?_
  refine wp_iconst q273_37 ?_
  refine wp_istore q273_38 (Nat.le_of_ble_eq_true rfl) ?_
  refine wp_aload_n q273_40 (by rfl) ?_
  refine wp_iload_n q273_41 (by rfl) ?_
  refine wp_iconst q273_42 ?_
  refine wp_bipush q273_43 ?_
  refine wp_static q273_45 (by decide) (Nat.le_of_ble_eq_true rfl) (by rfl) (by rfl) ⟨(Nat.le_of_ble_eq_true rfl), (Nat.le_of_ble_eq_true rfl), (Nat.le_of_ble_eq_true rfl)⟩ (Nat.le_of_ble_eq_true rfl) ?_
  refine wp_iload_n q211_0 (by rfl) ?_
  refine wp_iload_n q211_1 (by rfl) ?_
  refine wp_icf (t := 14) q211_2 (by rfl) (by rfl) ?_
  refine wp_iload_n q211_5 (by rfl) ?_
  refine wp_iload_n q211_6 (by rfl) ?_
  refine wp_icf (t := 14) q211_7 (by rfl) (by rfl) ?_
  refine wp_iconst q211_10 ?_
  refine wp_goto (t := 15) q211_11 (by rfl) ?_
  refine wp_ireturn q211_15 (by rfl) (by rfl) ?_
  refine wK_v ?_
  refine wp_ift (t := 55) q273_48 (by rfl) (by rfl) ?_
  refine wp_iload q273_55 (by rfl) ?_
  refine wp_iff (t := 64) q273_57 (by rfl) (by rfl) ?_
  refine wp_iconst q273_60 ?_
  refine wp_goto (t := 65) q273_61 (by rfl) ?_
  refine wp_putfield q273_65 (by rfl) (Nat.le_of_ble_eq_true rfl) (by rfl) ?_
  refine wp_aload_n q273_68 (by rfl) ?_
  refine wp_getfield q273_69 (by rfl) (by rfl) ?_
  refine wp_iff (t := 77) q273_72 (by rfl) (by rfl) ?_
  refine wp_iconst q273_75 ?_
  refine wp_ireturn q273_76 (by rfl) (by rfl) ?_
  refine wK_v ?_
  refine wp_istore qL_2453 (Nat.le_of_ble_eq_true rfl) ?_
  refine wp_aload_n qL_2455 (by rfl) ?_
  refine wp_virtual qL_2456 (by decide) (Nat.le_of_ble_eq_true rfl) (by rfl) (by rfl) (by rfl) ⟨(Nat.le_of_ble_eq_true rfl), (Nat.le_of_ble_eq_true rfl), (Nat.le_of_ble_eq_true rfl)⟩ (Nat.le_of_ble_eq_true rfl) ?_
  refine wp_aload_n q209_0 (by rfl) ?_
  refine wp_getfield q209_1 (by rfl) (by rfl) ?_
  refine wp_ireturn q209_4 (by rfl) (by rfl) ?_
  refine wK_v ?_
  refine wp_iload qL_2459 (by rfl) ?_
  refine wp_ict (t := 2466) qL_2461 (by rfl) (by rfl) ?_
  refine wp_iload qL_2466 (by rfl) ?_
  refine wp_ift (t := 2483) qL_2468 (by rfl) (by rfl) ?_
  refine wp_goto (t := 3983) qL_2483 (by rfl) ?_
  refine wp_iinc qL_3983 (by rfl) (Nat.le_of_ble_eq_true rfl) ?_
  refine wp_goto (t := 28) qL_3986 (by rfl) ?_
  refine wp_iload qL_28 (by rfl) ?_
  refine wp_aload_ns qL_30 (by rfl) ?_
  refine wp_slen (n := 5) qL_31 rfl ?_
  refine wp_iconst qL_32 ?_
  refine wp_isub qL_33 ?_
  refine wp_ict (t := 3989) qL_34 (by rfl) (by rfl) ?_
  refine wp_iconst qL_3989 ?_
  refine wp_ireturn qL_3990 (by rfl) (by rfl) ?_
  rfl
theorem pt_35_9 {x0 x2 x3 x4 : Int32} (e0 : x0 &&& 63 = Int32.ofNat 35) (e1 : sC2 .lt x2 (0) = false) (e2 : sC2 .gt x2 (-1) = true) (e3 : sC2 .lt x3 (0) = true) : wLaw [x0, (1), x2, x3, x4] := by
  unfold wLaw
  refine wp_iload qL_28 (by rfl) ?_
  refine wp_aload_ns qL_30 (by rfl) ?_
  refine wp_slen (n := 5) qL_31 rfl ?_
  refine wp_iconst qL_32 ?_
  refine wp_isub qL_33 ?_
  refine wp_icf (t := 3989) qL_34 (by rfl) (by rfl) ?_
  refine wp_aload_ns qL_37 (by rfl) ?_
  refine wp_iload qL_38 (by rfl) ?_
  refine wp_sload (x := x0) qL_40 (by rfl) (by rfl) ?_
  refine wp_bipush qL_41 ?_
  refine wp_iand qL_43 ?_
  refine wp_switch (t := 2406) qL_44 e0 (by rfl) ?_
  refine wp_aload_n qL_2406 (by rfl) ?_
  refine wp_aload_ns qL_2407 (by rfl) ?_
  refine wp_iload qL_2408 (by rfl) ?_
  refine wp_iconst qL_2410 ?_
  refine wp_iadd qL_2411 ?_
  refine wp_sload (x := (1)) qL_2412 (by rfl) (by rfl) ?_
  refine wp_aload_ns qL_2413 (by rfl) ?_
  refine wp_iload qL_2414 (by rfl) ?_
  refine wp_iconst qL_2416 ?_
  refine wp_iadd qL_2417 ?_
  refine wp_sload (x := x2) qL_2418 (by rfl) (by rfl) ?_
  refine wp_aload_ns qL_2419 (by rfl) ?_
  refine wp_iload qL_2420 (by rfl) ?_
  refine wp_iconst qL_2422 ?_
  refine wp_iadd qL_2423 ?_
  refine wp_sload (x := x3) qL_2424 (by rfl) (by rfl) ?_
  refine wp_aload_n qL_2425 (by rfl) ?_
  refine wp_static qL_2426 (by decide) (Nat.le_of_ble_eq_true rfl) (by rfl) (by rfl) ⟨(Nat.le_of_ble_eq_true rfl), (Nat.le_of_ble_eq_true rfl), (Nat.le_of_ble_eq_true rfl)⟩ (Nat.le_of_ble_eq_true rfl) ?_
  refine wp_aload q148_0 (by rfl) ?_
  refine wp_iconst q148_2 ?_
  refine wp_aload_n q148_3 (by rfl) ?_
  refine wp_iload_n q148_4 (by rfl) ?_
  refine wp_iload_n q148_5 (by rfl) ?_
  refine wp_iload_n q148_6 (by rfl) ?_
  refine wp_virtual q148_7 (by decide) (Nat.le_of_ble_eq_true rfl) (by rfl) (by rfl) (by rfl) ⟨(Nat.le_of_ble_eq_true rfl), (Nat.le_of_ble_eq_true rfl), (Nat.le_of_ble_eq_true rfl)⟩ (Nat.le_of_ble_eq_true rfl) ?_
  refine wp_aload_n q149_0 (by rfl) ?_
  refine wp_iload_n q149_1 (by rfl) ?_
  refine wp_virtual q149_2 (by decide) (Nat.le_of_ble_eq_true rfl) (by rfl) (by rfl) (by rfl) ⟨(Nat.le_of_ble_eq_true rfl), (Nat.le_of_ble_eq_true rfl), (Nat.le_of_ble_eq_true rfl)⟩ (Nat.le_of_ble_eq_true rfl) ?_
  refine wp_iload_n q146_0 (by rfl) ?_
  refine wp_iconst q146_1 ?_
  refine wp_bipush q146_2 ?_
  refine wp_static q146_4 (by decide) (Nat.le_of_ble_eq_true rfl) (by rfl) (by rfl) ⟨(Nat.le_of_ble_eq_true rfl), (Nat.le_of_ble_eq_true rfl), (Nat.le_of_ble_eq_true rfl)⟩ (Nat.le_of_ble_eq_true rfl) ?_
  refine wp_iload_n q47_0 (by rfl) ?_
  refine wp_iload_n q47_1 (by rfl) ?_
  refine wp_icf (t := 14) q47_2 (by rfl) (by rfl) ?_
  refine wp_iload_n q47_5 (by rfl) ?_
  refine wp_iload_n q47_6 (by rfl) ?_
  refine wp_icf (t := 14) q47_7 (by rfl) (by rfl) ?_
  refine wp_iconst q47_10 ?_
  refine wp_goto (t := 15) q47_11 (by rfl) ?_
  refine wp_ireturn q47_15 (by rfl) (by rfl) ?_
  refine wK_v ?_
  refine wp_ift (t := 21) q146_7 (by rfl) (by rfl) ?_
  refine wp_return q146_21 (by rfl) ?_
  refine wK_n ?_
  refine wp_aload_n q149_5 (by rfl) ?_
  refine wp_virtual q149_6 (by decide) (Nat.le_of_ble_eq_true rfl) (by rfl) (by rfl) (by rfl) ⟨(Nat.le_of_ble_eq_true rfl), (Nat.le_of_ble_eq_true rfl), (Nat.le_of_ble_eq_true rfl)⟩ (Nat.le_of_ble_eq_true rfl) ?_
  refine wp_iconst q12_0 ?_
  refine wp_istore_n q12_1 (Nat.le_of_ble_eq_true rfl) ?_
  refine wp_iconst q12_2 ?_
  refine wp_istore_n q12_3 (Nat.le_of_ble_eq_true rfl) ?_
  refine wp_iload_n q12_4 (by rfl) ?_
  refine wp_aload_n q12_5 (by rfl) ?_
  refine wp_getfield q12_6 (by rfl) (by rfl) ?_
  refine wp_ict (t := 34) q12_9 (by rfl) (by rfl) ?_
  refine wp_iload_n q12_34 (by rfl) ?_
  refine wp_ireturn q12_35 (by rfl) (by rfl) ?_
  refine wK_v ?_
  refine wp_istore q149_9 (Nat.le_of_ble_eq_true rfl) ?_
  refine wp_iload_n q149_11 (by rfl) ?_
  refine wp_iconst q149_12 ?_
  refine wp_iload_n q149_13 (by rfl) ?_
  refine wp_iload q149_14 (by rfl) ?_
  refine wp_static q149_16 (by decide) (Nat.le_of_ble_eq_true rfl) (by rfl) (by rfl) ⟨(Nat.le_of_ble_eq_true rfl), (Nat.le_of_ble_eq_true rfl), (Nat.le_of_ble_eq_true rfl)⟩ (Nat.le_of_ble_eq_true rfl) ?_
  refine wp_iload_n q147_0 (by rfl) ?_
  refine wp_iff (t := 14) q147_1 (by rfl) (by rfl) ?_
  refine wp_iload_n q147_4 (by rfl) ?_
  refine wp_iload_n q147_5 (by rfl) ?_
  refine wp_iadd q147_6 ?_
  refine wp_iconst q147_7 ?_
  refine wp_isub q147_8 ?_
  refine wp_iload_n q147_9 (by rfl) ?_
  refine wp_idiv q147_10 (by decide) ?_
  refine wp_goto (t := 15) q147_11 (by rfl) ?_
  refine wp_ireturn q147_15 (by rfl) (by rfl) ?_
  refine wK_v ?_
  refine wp_iconst q149_19 ?_
  refine wp_isub q149_20 ?_
  refine wp_static q149_21 (by decide) (Nat.le_of_ble_eq_true rfl) (by rfl) (by rfl) ⟨(Nat.le_of_ble_eq_true rfl), (Nat.le_of_ble_eq_true rfl), (Nat.le_of_ble_eq_true rfl)⟩ (Nat.le_of_ble_eq_true rfl) ?_
  refine wp_iload_n q47_0 (by rfl) ?_
  refine wp_iload_n q47_1 (by rfl) ?_
  refine wp_icf (t := 14) q47_2 e1 (by rfl) ?_
  refine wp_iload_n q47_5 (by rfl) ?_
  refine wp_iload_n q47_6 (by rfl) ?_
  refine wp_ict (t := 14) q47_7 e2 (by rfl) ?_
  refine wp_iconst q47_14 ?_
  refine wp_ireturn q47_15 (by rfl) (by rfl) ?_
  refine wK_v ?_
  refine wp_ift (t := 38) q149_24 (by rfl) (by rfl) ?_
  refine wp_throw q149_38 (by decide) ⟨(Nat.le_of_ble_eq_true rfl), (Nat.le_of_ble_eq_true rfl), (Nat.le_of_ble_eq_true rfl)⟩ ?_
  refine wK_c (by rfl) (by rfl) (by decide) (by rfl) ?_
  refine wp_iconst q148_21 ?_
  refine wp_ireturn q148_22 (by rfl) (by rfl) ?_
  refine wK_v ?_
  refine wp_istore qL_2429 (Nat.le_of_ble_eq_true rfl) ?_
  refine wp_aload_n qL_2431 (by rfl) ?_
  refine wp_aload_ns qL_2432 (by rfl) ?_
  refine wp_iload qL_2433 (by rfl) ?_
  refine wp_iconst qL_2435 ?_
  refine wp_iadd qL_2436 ?_
  refine wp_sload (x := (1)) qL_2437 (by rfl) (by rfl) ?_
  refine wp_aload_ns qL_2438 (by rfl) ?_
  refine wp_iload qL_2439 (by rfl) ?_
  refine wp_iconst qL_2441 ?_
  refine wp_iadd qL_2442 ?_
  refine wp_sload (x := x2) qL_2443 (by rfl) (by rfl) ?_
  refine wp_aload_ns qL_2444 (by rfl) ?_
  refine wp_iload qL_2445 (by rfl) ?_
  refine wp_iconst qL_2447 ?_
  refine wp_iadd qL_2448 ?_
  refine wp_sload (x := x3) qL_2449 (by rfl) (by rfl) ?_
  refine wp_virtual qL_2450 (by decide) (Nat.le_of_ble_eq_true rfl) (by rfl) (by rfl) (by rfl) ⟨(Nat.le_of_ble_eq_true rfl), (Nat.le_of_ble_eq_true rfl), (Nat.le_of_ble_eq_true rfl)⟩ (Nat.le_of_ble_eq_true rfl) ?_
  refine wp_iload_n q273_0 (by rfl) ?_
  refine wp_iconst q273_1 ?_
  refine wp_iload_n q273_2 (by rfl) ?_
  refine wp_iconst q273_3 ?_
  refine wp_isub q273_4 ?_
  refine wp_static q273_5 (by decide) (Nat.le_of_ble_eq_true rfl) (by rfl) (by rfl) ⟨(Nat.le_of_ble_eq_true rfl), (Nat.le_of_ble_eq_true rfl), (Nat.le_of_ble_eq_true rfl)⟩ (Nat.le_of_ble_eq_true rfl) ?_
  refine wp_iload_n q211_0 (by rfl) ?_
  refine wp_iload_n q211_1 (by rfl) ?_
  refine wp_ict (t := 14) q211_2 e3 (by rfl) ?_
  refine wp_iconst q211_14 ?_
  refine wp_ireturn q211_15 (by rfl) (by rfl) ?_
  refine wK_v ?_
  refine wp_ift (t := 37) q273_8 (by rfl) (by rfl) ?_
  refine wp_iconst q273_37 ?_
  refine wp_istore q273_38 (Nat.le_of_ble_eq_true rfl) ?_
  refine wp_aload_n q273_40 (by rfl) ?_
  refine wp_iload_n q273_41 (by rfl) ?_
  refine wp_iconst q273_42 ?_
  refine wp_bipush q273_43 ?_
  refine wp_static q273_45 (by decide) (Nat.le_of_ble_eq_true rfl) (by rfl) (by rfl) ⟨(Nat.le_of_ble_eq_true rfl), (Nat.le_of_ble_eq_true rfl), (Nat.le_of_ble_eq_true rfl)⟩ (Nat.le_of_ble_eq_true rfl) ?_
  refine wp_iload_n q211_0 (by rfl) ?_
  refine wp_iload_n q211_1 (by rfl) ?_
  refine wp_icf (t := 14) q211_2 (by rfl) (by rfl) ?_
  refine wp_iload_n q211_5 (by rfl) ?_
  refine wp_iload_n q211_6 (by rfl) ?_
  refine wp_icf (t := 14) q211_7 (by rfl) (by rfl) ?_
  refine wp_iconst q211_10 ?_
  refine wp_goto (t := 15) q211_11 (by rfl) ?_
  refine wp_ireturn q211_15 (by rfl) (by rfl) ?_
  refine wK_v ?_
  refine wp_ift (t := 55) q273_48 (by rfl) (by rfl) ?_
  refine wp_iload q273_55 (by rfl) ?_
  refine wp_iff (t := 64) q273_57 (by rfl) (by rfl) ?_
  refine wp_iconst q273_60 ?_
  refine wp_goto (t := 65) q273_61 (by rfl) ?_
  refine wp_putfield q273_65 (by rfl) (Nat.le_of_ble_eq_true rfl) (by rfl) ?_
  refine wp_aload_n q273_68 (by rfl) ?_
  refine wp_getfield q273_69 (by rfl) (by rfl) ?_
  refine wp_iff (t := 77) q273_72 (by rfl) (by rfl) ?_
  refine wp_iconst q273_75 ?_
  refine wp_ireturn q273_76 (by rfl) (by rfl) ?_
  refine wK_v ?_
  refine wp_istore qL_2453 (Nat.le_of_ble_eq_true rfl) ?_
  refine wp_aload_n qL_2455 (by rfl) ?_
  refine wp_virtual qL_2456 (by decide) (Nat.le_of_ble_eq_true rfl) (by rfl) (by rfl) (by rfl) ⟨(Nat.le_of_ble_eq_true rfl), (Nat.le_of_ble_eq_true rfl), (Nat.le_of_ble_eq_true rfl)⟩ (Nat.le_of_ble_eq_true rfl) ?_
  refine wp_aload_n q209_0 (by rfl) ?_
  refine wp_getfield q209_1 (by rfl) (by rfl) ?_
  refine wp_ireturn q209_4 (by rfl) (by rfl) ?_
  refine wK_v ?_
  refine wp_iload qL_2459 (by rfl) ?_
  refine wp_ict (t := 2466) qL_2461 (by rfl) (by rfl) ?_
  refine wp_iload qL_2466 (by rfl) ?_
  refine wp_ift (t := 2483) qL_2468 (by rfl) (by rfl) ?_
  refine wp_goto (t := 3983) qL_2483 (by rfl) ?_
  refine wp_iinc qL_3983 (by rfl) (Nat.le_of_ble_eq_true rfl) ?_
  refine wp_goto (t := 28) qL_3986 (by rfl) ?_
  refine wp_iload qL_28 (by rfl) ?_
  refine wp_aload_ns qL_30 (by rfl) ?_
  refine wp_slen (n := 5) qL_31 rfl ?_
  refine wp_iconst qL_32 ?_
  refine wp_isub qL_33 ?_
  refine wp_ict (t := 3989) qL_34 (by rfl) (by rfl) ?_
  refine wp_iconst qL_3989 ?_
  refine wp_ireturn qL_3990 (by rfl) (by rfl) ?_
  rfl
theorem pt_35_10 {x0 x2 x3 x4 : Int32} (e0 : x0 &&& 63 = Int32.ofNat 35) (e1 : sC2 .lt x2 (0) = false) (e2 : sC2 .gt x2 (-1) = true) (e3 : sC2 .lt x3 (0) = false) (e4 : sC2 .gt x3 (0) = false) (e5 : sC2 .lt x2 (0) = false) (e6 : sC2 .gt x2 (9) = false) (e7 : sC2 .ge ((x2 * (1)) + x3) (0) = true) : wLaw [x0, (1), x2, x3, x4] := by
  unfold wLaw
  refine wp_iload qL_28 (by rfl) ?_
  refine wp_aload_ns qL_30 (by rfl) ?_
  refine wp_slen (n := 5) qL_31 rfl ?_
  refine wp_iconst qL_32 ?_
  refine wp_isub qL_33 ?_
  refine wp_icf (t := 3989) qL_34 (by rfl) (by rfl) ?_
  refine wp_aload_ns qL_37 (by rfl) ?_
  refine wp_iload qL_38 (by rfl) ?_
  refine wp_sload (x := x0) qL_40 (by rfl) (by rfl) ?_
  refine wp_bipush qL_41 ?_
  refine wp_iand qL_43 ?_
  refine wp_switch (t := 2406) qL_44 e0 (by rfl) ?_
  refine wp_aload_n qL_2406 (by rfl) ?_
  refine wp_aload_ns qL_2407 (by rfl) ?_
  refine wp_iload qL_2408 (by rfl) ?_
  refine wp_iconst qL_2410 ?_
  refine wp_iadd qL_2411 ?_
  refine wp_sload (x := (1)) qL_2412 (by rfl) (by rfl) ?_
  refine wp_aload_ns qL_2413 (by rfl) ?_
  refine wp_iload qL_2414 (by rfl) ?_
  refine wp_iconst qL_2416 ?_
  refine wp_iadd qL_2417 ?_
  refine wp_sload (x := x2) qL_2418 (by rfl) (by rfl) ?_
  refine wp_aload_ns qL_2419 (by rfl) ?_
  refine wp_iload qL_2420 (by rfl) ?_
  refine wp_iconst qL_2422 ?_
  refine wp_iadd qL_2423 ?_
  refine wp_sload (x := x3) qL_2424 (by rfl) (by rfl) ?_
  refine wp_aload_n qL_2425 (by rfl) ?_
  refine wp_static qL_2426 (by decide) (Nat.le_of_ble_eq_true rfl) (by rfl) (by rfl) ⟨(Nat.le_of_ble_eq_true rfl), (Nat.le_of_ble_eq_true rfl), (Nat.le_of_ble_eq_true rfl)⟩ (Nat.le_of_ble_eq_true rfl) ?_
  refine wp_aload q148_0 (by rfl) ?_
  refine wp_iconst q148_2 ?_
  refine wp_aload_n q148_3 (by rfl) ?_
  refine wp_iload_n q148_4 (by rfl) ?_
  refine wp_iload_n q148_5 (by rfl) ?_
  refine wp_iload_n q148_6 (by rfl) ?_
  refine wp_virtual q148_7 (by decide) (Nat.le_of_ble_eq_true rfl) (by rfl) (by rfl) (by rfl) ⟨(Nat.le_of_ble_eq_true rfl), (Nat.le_of_ble_eq_true rfl), (Nat.le_of_ble_eq_true rfl)⟩ (Nat.le_of_ble_eq_true rfl) ?_
  refine wp_aload_n q149_0 (by rfl) ?_
  refine wp_iload_n q149_1 (by rfl) ?_
  refine wp_virtual q149_2 (by decide) (Nat.le_of_ble_eq_true rfl) (by rfl) (by rfl) (by rfl) ⟨(Nat.le_of_ble_eq_true rfl), (Nat.le_of_ble_eq_true rfl), (Nat.le_of_ble_eq_true rfl)⟩ (Nat.le_of_ble_eq_true rfl) ?_
  refine wp_iload_n q146_0 (by rfl) ?_
  refine wp_iconst q146_1 ?_
  refine wp_bipush q146_2 ?_
  refine wp_static q146_4 (by decide) (Nat.le_of_ble_eq_true rfl) (by rfl) (by rfl) ⟨(Nat.le_of_ble_eq_true rfl), (Nat.le_of_ble_eq_true rfl), (Nat.le_of_ble_eq_true rfl)⟩ (Nat.le_of_ble_eq_true rfl) ?_
  refine wp_iload_n q47_0 (by rfl) ?_
  refine wp_iload_n q47_1 (by rfl) ?_
  refine wp_icf (t := 14) q47_2 (by rfl) (by rfl) ?_
  refine wp_iload_n q47_5 (by rfl) ?_
  refine wp_iload_n q47_6 (by rfl) ?_
  refine wp_icf (t := 14) q47_7 (by rfl) (by rfl) ?_
  refine wp_iconst q47_10 ?_
  refine wp_goto (t := 15) q47_11 (by rfl) ?_
  refine wp_ireturn q47_15 (by rfl) (by rfl) ?_
  refine wK_v ?_
  refine wp_ift (t := 21) q146_7 (by rfl) (by rfl) ?_
  refine wp_return q146_21 (by rfl) ?_
  refine wK_n ?_
  refine wp_aload_n q149_5 (by rfl) ?_
  refine wp_virtual q149_6 (by decide) (Nat.le_of_ble_eq_true rfl) (by rfl) (by rfl) (by rfl) ⟨(Nat.le_of_ble_eq_true rfl), (Nat.le_of_ble_eq_true rfl), (Nat.le_of_ble_eq_true rfl)⟩ (Nat.le_of_ble_eq_true rfl) ?_
  refine wp_iconst q12_0 ?_
  refine wp_istore_n q12_1 (Nat.le_of_ble_eq_true rfl) ?_
  refine wp_iconst q12_2 ?_
  refine wp_istore_n q12_3 (Nat.le_of_ble_eq_true rfl) ?_
  refine wp_iload_n q12_4 (by rfl) ?_
  refine wp_aload_n q12_5 (by rfl) ?_
  refine wp_getfield q12_6 (by rfl) (by rfl) ?_
  refine wp_ict (t := 34) q12_9 (by rfl) (by rfl) ?_
  refine wp_iload_n q12_34 (by rfl) ?_
  refine wp_ireturn q12_35 (by rfl) (by rfl) ?_
  refine wK_v ?_
  refine wp_istore q149_9 (Nat.le_of_ble_eq_true rfl) ?_
  refine wp_iload_n q149_11 (by rfl) ?_
  refine wp_iconst q149_12 ?_
  refine wp_iload_n q149_13 (by rfl) ?_
  refine wp_iload q149_14 (by rfl) ?_
  refine wp_static q149_16 (by decide) (Nat.le_of_ble_eq_true rfl) (by rfl) (by rfl) ⟨(Nat.le_of_ble_eq_true rfl), (Nat.le_of_ble_eq_true rfl), (Nat.le_of_ble_eq_true rfl)⟩ (Nat.le_of_ble_eq_true rfl) ?_
  refine wp_iload_n q147_0 (by rfl) ?_
  refine wp_iff (t := 14) q147_1 (by rfl) (by rfl) ?_
  refine wp_iload_n q147_4 (by rfl) ?_
  refine wp_iload_n q147_5 (by rfl) ?_
  refine wp_iadd q147_6 ?_
  refine wp_iconst q147_7 ?_
  refine wp_isub q147_8 ?_
  refine wp_iload_n q147_9 (by rfl) ?_
  refine wp_idiv q147_10 (by decide) ?_
  refine wp_goto (t := 15) q147_11 (by rfl) ?_
  refine wp_ireturn q147_15 (by rfl) (by rfl) ?_
  refine wK_v ?_
  refine wp_iconst q149_19 ?_
  refine wp_isub q149_20 ?_
  refine wp_static q149_21 (by decide) (Nat.le_of_ble_eq_true rfl) (by rfl) (by rfl) ⟨(Nat.le_of_ble_eq_true rfl), (Nat.le_of_ble_eq_true rfl), (Nat.le_of_ble_eq_true rfl)⟩ (Nat.le_of_ble_eq_true rfl) ?_
  refine wp_iload_n q47_0 (by rfl) ?_
  refine wp_iload_n q47_1 (by rfl) ?_
  refine wp_icf (t := 14) q47_2 e1 (by rfl) ?_
  refine wp_iload_n q47_5 (by rfl) ?_
  refine wp_iload_n q47_6 (by rfl) ?_
  refine wp_ict (t := 14) q47_7 e2 (by rfl) ?_
  refine wp_iconst q47_14 ?_
  refine wp_ireturn q47_15 (by rfl) (by rfl) ?_
  refine wK_v ?_
  refine wp_ift (t := 38) q149_24 (by rfl) (by rfl) ?_
  refine wp_throw q149_38 (by decide) ⟨(Nat.le_of_ble_eq_true rfl), (Nat.le_of_ble_eq_true rfl), (Nat.le_of_ble_eq_true rfl)⟩ ?_
  refine wK_c (by rfl) (by rfl) (by decide) (by rfl) ?_
  refine wp_iconst q148_21 ?_
  refine wp_ireturn q148_22 (by rfl) (by rfl) ?_
  refine wK_v ?_
  refine wp_istore qL_2429 (Nat.le_of_ble_eq_true rfl) ?_
  refine wp_aload_n qL_2431 (by rfl) ?_
  refine wp_aload_ns qL_2432 (by rfl) ?_
  refine wp_iload qL_2433 (by rfl) ?_
  refine wp_iconst qL_2435 ?_
  refine wp_iadd qL_2436 ?_
  refine wp_sload (x := (1)) qL_2437 (by rfl) (by rfl) ?_
  refine wp_aload_ns qL_2438 (by rfl) ?_
  refine wp_iload qL_2439 (by rfl) ?_
  refine wp_iconst qL_2441 ?_
  refine wp_iadd qL_2442 ?_
  refine wp_sload (x := x2) qL_2443 (by rfl) (by rfl) ?_
  refine wp_aload_ns qL_2444 (by rfl) ?_
  refine wp_iload qL_2445 (by rfl) ?_
  refine wp_iconst qL_2447 ?_
  refine wp_iadd qL_2448 ?_
  refine wp_sload (x := x3) qL_2449 (by rfl) (by rfl) ?_
  refine wp_virtual qL_2450 (by decide) (Nat.le_of_ble_eq_true rfl) (by rfl) (by rfl) (by rfl) ⟨(Nat.le_of_ble_eq_true rfl), (Nat.le_of_ble_eq_true rfl), (Nat.le_of_ble_eq_true rfl)⟩ (Nat.le_of_ble_eq_true rfl) ?_
  refine wp_iload_n q273_0 (by rfl) ?_
  refine wp_iconst q273_1 ?_
  refine wp_iload_n q273_2 (by rfl) ?_
  refine wp_iconst q273_3 ?_
  refine wp_isub q273_4 ?_
  refine wp_static q273_5 (by decide) (Nat.le_of_ble_eq_true rfl) (by rfl) (by rfl) ⟨(Nat.le_of_ble_eq_true rfl), (Nat.le_of_ble_eq_true rfl), (Nat.le_of_ble_eq_true rfl)⟩ (Nat.le_of_ble_eq_true rfl) ?_
  refine wp_iload_n q211_0 (by rfl) ?_
  refine wp_iload_n q211_1 (by rfl) ?_
  refine wp_icf (t := 14) q211_2 e3 (by rfl) ?_
  refine wp_iload_n q211_5 (by rfl) ?_
  refine wp_iload_n q211_6 (by rfl) ?_
  refine wp_icf (t := 14) q211_7 e4 (by rfl) ?_
  refine wp_iconst q211_10 ?_
  refine wp_goto (t := 15) q211_11 (by rfl) ?_
  refine wp_ireturn q211_15 (by rfl) (by rfl) ?_
  refine wK_v ?_
  refine wp_iff (t := 37) q273_8 (by rfl) (by rfl) ?_
  refine wp_iload_n q273_11 (by rfl) ?_
  refine wp_iconst q273_12 ?_
  refine wp_bipush q273_13 ?_
  refine wp_static q273_15 (by decide) (Nat.le_of_ble_eq_true rfl) (by rfl) (by rfl) ⟨(Nat.le_of_ble_eq_true rfl), (Nat.le_of_ble_eq_true rfl), (Nat.le_of_ble_eq_true rfl)⟩ (Nat.le_of_ble_eq_true rfl) ?_
  refine wp_iload_n q211_0 (by rfl) ?_
  refine wp_iload_n q211_1 (by rfl) ?_
  refine wp_icf (t := 14) q211_2 e5 (by rfl) ?_
  refine wp_iload_n q211_5 (by rfl) ?_
  refine wp_iload_n q211_6 (by rfl) ?_
  refine wp_icf (t := 14) q211_7 e6 (by rfl) ?_
  refine wp_iconst q211_10 ?_
  refine wp_goto (t := 15) q211_11 (by rfl) ?_
  refine wp_ireturn q211_15 (by rfl) (by rfl) ?_
  refine wK_v ?_
  refine wp_iff (t := 37) q273_18 (by rfl) (by rfl) ?_
  refine wp_iload_n q273_21 (by rfl) ?_
  refine wp_iload_n q273_22 (by rfl) ?_
  refine wp_imul q273_23 ?_
  refine wp_iload_n q273_24 (by rfl) ?_
  refine wp_iadd q273_25 ?_
  refine wp_aload_n q273_26 (by rfl) ?_
  refine wp_virtual q273_27 (by decide) (Nat.le_of_ble_eq_true rfl) (by rfl) (by rfl) (by rfl) ⟨(Nat.le_of_ble_eq_true rfl), (Nat.le_of_ble_eq_true rfl), (Nat.le_of_ble_eq_true rfl)⟩ (Nat.le_of_ble_eq_true rfl) ?_
  refine wp_iconst q247_0 ?_
  refine wp_istore_n q247_1 (Nat.le_of_ble_eq_true rfl) ?_
  refine wp_iconst q247_2 ?_
  refine wp_istore_n q247_3 (Nat.le_of_ble_eq_true rfl) ?_
  refine wp_iload_n q247_4 (by rfl) ?_
  refine wp_aload_n q247_5 (by rfl) ?_
  refine wp_getfield q247_6 (by rfl) (by rfl) ?_
  refine wp_ict (t := 34) q247_9 (by rfl) (by rfl) ?_
  refine wp_iload_n q247_34 (by rfl) ?_
  refine wp_ireturn q247_35 (by rfl) (by rfl) ?_
  refine wK_v ?_
  refine wp_ict (t := 37) q273_30 e7 (by rfl) ?_
  refine wp_iconst q273_37 ?_
  refine wp_istore q273_38 (Nat.le_of_ble_eq_true rfl) ?_
  refine wp_aload_n q273_40 (by rfl) ?_
  refine wp_iload_n q273_41 (by rfl) ?_
  refine wp_iconst q273_42 ?_
  refine wp_bipush q273_43 ?_
  refine wp_static q273_45 (by decide) (Nat.le_of_ble_eq_true rfl) (by rfl) (by rfl) ⟨(Nat.le_of_ble_eq_true rfl), (Nat.le_of_ble_eq_true rfl), (Nat.le_of_ble_eq_true rfl)⟩ (Nat.le_of_ble_eq_true rfl) ?_
  refine wp_iload_n q211_0 (by rfl) ?_
  refine wp_iload_n q211_1 (by rfl) ?_
  refine wp_icf (t := 14) q211_2 (by rfl) (by rfl) ?_
  refine wp_iload_n q211_5 (by rfl) ?_
  refine wp_iload_n q211_6 (by rfl) ?_
  refine wp_icf (t := 14) q211_7 (by rfl) (by rfl) ?_
  refine wp_iconst q211_10 ?_
  refine wp_goto (t := 15) q211_11 (by rfl) ?_
  refine wp_ireturn q211_15 (by rfl) (by rfl) ?_
  refine wK_v ?_
  refine wp_ift (t := 55) q273_48 (by rfl) (by rfl) ?_
  refine wp_iload q273_55 (by rfl) ?_
  refine wp_iff (t := 64) q273_57 (by rfl) (by rfl) ?_
  refine wp_iconst q273_60 ?_
  refine wp_goto (t := 65) q273_61 (by rfl) ?_
  refine wp_putfield q273_65 (by rfl) (Nat.le_of_ble_eq_true rfl) (by rfl) ?_
  refine wp_aload_n q273_68 (by rfl) ?_
  refine wp_getfield q273_69 (by rfl) (by rfl) ?_
  refine wp_iff (t := 77) q273_72 (by rfl) (by rfl) ?_
  refine wp_iconst q273_75 ?_
  refine wp_ireturn q273_76 (by rfl) (by rfl) ?_
  refine wK_v ?_
  refine wp_istore qL_2453 (Nat.le_of_ble_eq_true rfl) ?_
  refine wp_aload_n qL_2455 (by rfl) ?_
  refine wp_virtual qL_2456 (by decide) (Nat.le_of_ble_eq_true rfl) (by rfl) (by rfl) (by rfl) ⟨(Nat.le_of_ble_eq_true rfl), (Nat.le_of_ble_eq_true rfl), (Nat.le_of_ble_eq_true rfl)⟩ (Nat.le_of_ble_eq_true rfl) ?_
  refine wp_aload_n q209_0 (by rfl) ?_
  refine wp_getfield q209_1 (by rfl) (by rfl) ?_
  refine wp_ireturn q209_4 (by rfl) (by rfl) ?_
  refine wK_v ?_
  refine wp_iload qL_2459 (by rfl) ?_
  refine wp_ict (t := 2466) qL_2461 (by rfl) (by rfl) ?_
  refine wp_iload qL_2466 (by rfl) ?_
  refine wp_ift (t := 2483) qL_2468 (by rfl) (by rfl) ?_
  refine wp_goto (t := 3983) qL_2483 (by rfl) ?_
  refine wp_iinc qL_3983 (by rfl) (Nat.le_of_ble_eq_true rfl) ?_
  refine wp_goto (t := 28) qL_3986 (by rfl) ?_
  refine wp_iload qL_28 (by rfl) ?_
  refine wp_aload_ns qL_30 (by rfl) ?_
  refine wp_slen (n := 5) qL_31 rfl ?_
  refine wp_iconst qL_32 ?_
  refine wp_isub qL_33 ?_
  refine wp_ict (t := 3989) qL_34 (by rfl) (by rfl) ?_
  refine wp_iconst qL_3989 ?_
  refine wp_ireturn qL_3990 (by rfl) (by rfl) ?_
  rfl
theorem pt_35_11 {x0 x2 x3 x4 : Int32} (e0 : x0 &&& 63 = Int32.ofNat 35) (e1 : sC2 .lt x2 (0) = false) (e2 : sC2 .gt x2 (-1) = true) (e3 : sC2 .lt x3 (0) = false) (e4 : sC2 .gt x3 (0) = true) : wLaw [x0, (1), x2, x3, x4] := by
  unfold wLaw
  refine wp_iload qL_28 (by rfl) ?_
  refine wp_aload_ns qL_30 (by rfl) ?_
  refine wp_slen (n := 5) qL_31 rfl ?_
  refine wp_iconst qL_32 ?_
  refine wp_isub qL_33 ?_
  refine wp_icf (t := 3989) qL_34 (by rfl) (by rfl) ?_
  refine wp_aload_ns qL_37 (by rfl) ?_
  refine wp_iload qL_38 (by rfl) ?_
  refine wp_sload (x := x0) qL_40 (by rfl) (by rfl) ?_
  refine wp_bipush qL_41 ?_
  refine wp_iand qL_43 ?_
  refine wp_switch (t := 2406) qL_44 e0 (by rfl) ?_
  refine wp_aload_n qL_2406 (by rfl) ?_
  refine wp_aload_ns qL_2407 (by rfl) ?_
  refine wp_iload qL_2408 (by rfl) ?_
  refine wp_iconst qL_2410 ?_
  refine wp_iadd qL_2411 ?_
  refine wp_sload (x := (1)) qL_2412 (by rfl) (by rfl) ?_
  refine wp_aload_ns qL_2413 (by rfl) ?_
  refine wp_iload qL_2414 (by rfl) ?_
  refine wp_iconst qL_2416 ?_
  refine wp_iadd qL_2417 ?_
  refine wp_sload (x := x2) qL_2418 (by rfl) (by rfl) ?_
  refine wp_aload_ns qL_2419 (by rfl) ?_
  refine wp_iload qL_2420 (by rfl) ?_
  refine wp_iconst qL_2422 ?_
  refine wp_iadd qL_2423 ?_
  refine wp_sload (x := x3) qL_2424 (by rfl) (by rfl) ?_
  refine wp_aload_n qL_2425 (by rfl) ?_
  refine wp_static qL_2426 (by decide) (Nat.le_of_ble_eq_true rfl) (by rfl) (by rfl) ⟨(Nat.le_of_ble_eq_true rfl), (Nat.le_of_ble_eq_true rfl), (Nat.le_of_ble_eq_true rfl)⟩ (Nat.le_of_ble_eq_true rfl) ?_
  refine wp_aload q148_0 (by rfl) ?_
  refine wp_iconst q148_2 ?_
  refine wp_aload_n q148_3 (by rfl) ?_
  refine wp_iload_n q148_4 (by rfl) ?_
  refine wp_iload_n q148_5 (by rfl) ?_
  refine wp_iload_n q148_6 (by rfl) ?_
  refine wp_virtual q148_7 (by decide) (Nat.le_of_ble_eq_true rfl) (by rfl) (by rfl) (by rfl) ⟨(Nat.le_of_ble_eq_true rfl), (Nat.le_of_ble_eq_true rfl), (Nat.le_of_ble_eq_true rfl)⟩ (Nat.le_of_ble_eq_true rfl) ?_
  refine wp_aload_n q149_0 (by rfl) ?_
  refine wp_iload_n q149_1 (by rfl) ?_
  refine wp_virtual q149_2 (by decide) (Nat.le_of_ble_eq_true rfl) (by rfl) (by rfl) (by rfl) ⟨(Nat.le_of_ble_eq_true rfl), (Nat.le_of_ble_eq_true rfl), (Nat.le_of_ble_eq_true rfl)⟩ (Nat.le_of_ble_eq_true rfl) ?_
  refine wp_iload_n q146_0 (by rfl) ?_
  refine wp_iconst q146_1 ?_
  refine wp_bipush q146_2 ?_
  refine wp_static q146_4 (by decide) (Nat.le_of_ble_eq_true rfl) (by rfl) (by rfl) ⟨(Nat.le_of_ble_eq_true rfl), (Nat.le_of_ble_eq_true rfl), (Nat.le_of_ble_eq_true rfl)⟩ (Nat.le_of_ble_eq_true rfl) ?_
  refine wp_iload_n q47_0 (by rfl) ?_
  refine wp_iload_n q47_1 (by rfl) ?_
  refine wp_icf (t := 14) q47_2 (by rfl) (by rfl) ?_
  refine wp_iload_n q47_5 (by rfl) ?_
  refine wp_iload_n q47_6 (by rfl) ?_
  refine wp_icf (t := 14) q47_7 (by rfl) (by rfl) ?_
  refine wp_iconst q47_10 ?_
  refine wp_goto (t := 15) q47_11 (by rfl) ?_
  refine wp_ireturn q47_15 (by rfl) (by rfl) ?_
  refine wK_v ?_
  refine wp_ift (t := 21) q146_7 (by rfl) (by rfl) ?_
  refine wp_return q146_21 (by rfl) ?_
  refine wK_n ?_
  refine wp_aload_n q149_5 (by rfl) ?_
  refine wp_virtual q149_6 (by decide) (Nat.le_of_ble_eq_true rfl) (by rfl) (by rfl) (by rfl) ⟨(Nat.le_of_ble_eq_true rfl), (Nat.le_of_ble_eq_true rfl), (Nat.le_of_ble_eq_true rfl)⟩ (Nat.le_of_ble_eq_true rfl) ?_
  refine wp_iconst q12_0 ?_
  refine wp_istore_n q12_1 (Nat.le_of_ble_eq_true rfl) ?_
  refine wp_iconst q12_2 ?_
  refine wp_istore_n q12_3 (Nat.le_of_ble_eq_true rfl) ?_
  refine wp_iload_n q12_4 (by rfl) ?_
  refine wp_aload_n q12_5 (by rfl) ?_
  refine wp_getfield q12_6 (by rfl) (by rfl) ?_
  refine wp_ict (t := 34) q12_9 (by rfl) (by rfl) ?_
  refine wp_iload_n q12_34 (by rfl) ?_
  refine wp_ireturn q12_35 (by rfl) (by rfl) ?_
  refine wK_v ?_
  refine wp_istore q149_9 (Nat.le_of_ble_eq_true rfl) ?_
  refine wp_iload_n q149_11 (by rfl) ?_
  refine wp_iconst q149_12 ?_
  refine wp_iload_n q149_13 (by rfl) ?_
  refine wp_iload q149_14 (by rfl) ?_
  refine wp_static q149_16 (by decide) (Nat.le_of_ble_eq_true rfl) (by rfl) (by rfl) ⟨(Nat.le_of_ble_eq_true rfl), (Nat.le_of_ble_eq_true rfl), (Nat.le_of_ble_eq_true rfl)⟩ (Nat.le_of_ble_eq_true rfl) ?_
  refine wp_iload_n q147_0 (by rfl) ?_
  refine wp_iff (t := 14) q147_1 (by rfl) (by rfl) ?_
  refine wp_iload_n q147_4 (by rfl) ?_
  refine wp_iload_n q147_5 (by rfl) ?_
  refine wp_iadd q147_6 ?_
  refine wp_iconst q147_7 ?_
  refine wp_isub q147_8 ?_
  refine wp_iload_n q147_9 (by rfl) ?_
  refine wp_idiv q147_10 (by decide) ?_
  refine wp_goto (t := 15) q147_11 (by rfl) ?_
  refine wp_ireturn q147_15 (by rfl) (by rfl) ?_
  refine wK_v ?_
  refine wp_iconst q149_19 ?_
  refine wp_isub q149_20 ?_
  refine wp_static q149_21 (by decide) (Nat.le_of_ble_eq_true rfl) (by rfl) (by rfl) ⟨(Nat.le_of_ble_eq_true rfl), (Nat.le_of_ble_eq_true rfl), (Nat.le_of_ble_eq_true rfl)⟩ (Nat.le_of_ble_eq_true rfl) ?_
  refine wp_iload_n q47_0 (by rfl) ?_
  refine wp_iload_n q47_1 (by rfl) ?_
  refine wp_icf (t := 14) q47_2 e1 (by rfl) ?_
  refine wp_iload_n q47_5 (by rfl) ?_
  refine wp_iload_n q47_6 (by rfl) ?_
  refine wp_ict (t := 14) q47_7 e2 (by rfl) ?_
  refine wp_iconst q47_14 ?_
  refine wp_ireturn q47_15 (by rfl) (by rfl) ?_
  refine wK_v ?_
  refine wp_ift (t := 38) q149_24 (by rfl) (by rfl) ?_
  refine wp_throw q149_38 (by decide) ⟨(Nat.le_of_ble_eq_true rfl), (Nat.le_of_ble_eq_true rfl), (Nat.le_of_ble_eq_true rfl)⟩ ?_
  refine wK_c (by rfl) (by rfl) (by decide) (by rfl) ?_
  refine wp_iconst q148_21 ?_
  refine wp_ireturn q148_22 (by rfl) (by rfl) ?_
  refine wK_v ?_
  refine wp_istore qL_2429 (Nat.le_of_ble_eq_true rfl) ?_
  refine wp_aload_n qL_2431 (by rfl) ?_
  refine wp_aload_ns qL_2432 (by rfl) ?_
  refine wp_iload qL_2433 (by rfl) ?_
  refine wp_iconst qL_2435 ?_
  refine wp_iadd qL_2436 ?_
  refine wp_sload (x := (1)) qL_2437 (by rfl) (by rfl) ?_
  refine wp_aload_ns qL_2438 (by rfl) ?_
  refine wp_iload qL_2439 (by rfl) ?_
  refine wp_iconst qL_2441 ?_
  refine wp_iadd qL_2442 ?_
  refine wp_sload (x := x2) qL_2443 (by rfl) (by rfl) ?_
  refine wp_aload_ns qL_2444 (by rfl) ?_
  refine wp_iload qL_2445 (by rfl) ?_
  refine wp_iconst qL_2447 ?_
  refine wp_iadd qL_2448 ?_
  refine wp_sload (x := x3) qL_2449 (by rfl) (by rfl) ?_
  refine wp_virtual qL_2450 (by decide) (Nat.le_of_ble_eq_true rfl) (by rfl) (by rfl) (by rfl) ⟨(Nat.le_of_ble_eq_true rfl), (Nat.le_of_ble_eq_true rfl), (Nat.le_of_ble_eq_true rfl)⟩ (Nat.le_of_ble_eq_true rfl) ?_
  refine wp_iload_n q273_0 (by rfl) ?_
  refine wp_iconst q273_1 ?_
  refine wp_iload_n q273_2 (by rfl) ?_
  refine wp_iconst q273_3 ?_
  refine wp_isub q273_4 ?_
  refine wp_static q273_5 (by decide) (Nat.le_of_ble_eq_true rfl) (by rfl) (by rfl) ⟨(Nat.le_of_ble_eq_true rfl), (Nat.le_of_ble_eq_true rfl), (Nat.le_of_ble_eq_true rfl)⟩ (Nat.le_of_ble_eq_true rfl) ?_
  refine wp_iload_n q211_0 (by rfl) ?_
  refine wp_iload_n q211_1 (by rfl) ?_
  refine wp_icf (t := 14) q211_2 e3 (by rfl) ?_
  refine wp_iload_n q211_5 (by rfl) ?_
  refine wp_iload_n q211_6 (by rfl) ?_
  refine wp_ict (t := 14) q211_7 e4 (by rfl) ?_
  refine wp_iconst q211_14 ?_
  refine wp_ireturn q211_15 (by rfl) (by rfl) ?_
  refine wK_v ?_
  refine wp_ift (t := 37) q273_8 (by rfl) (by rfl) ?_
  refine wp_iconst q273_37 ?_
  refine wp_istore q273_38 (Nat.le_of_ble_eq_true rfl) ?_
  refine wp_aload_n q273_40 (by rfl) ?_
  refine wp_iload_n q273_41 (by rfl) ?_
  refine wp_iconst q273_42 ?_
  refine wp_bipush q273_43 ?_
  refine wp_static q273_45 (by decide) (Nat.le_of_ble_eq_true rfl) (by rfl) (by rfl) ⟨(Nat.le_of_ble_eq_true rfl), (Nat.le_of_ble_eq_true rfl), (Nat.le_of_ble_eq_true rfl)⟩ (Nat.le_of_ble_eq_true rfl) ?_
  refine wp_iload_n q211_0 (by rfl) ?_
  refine wp_iload_n q211_1 (by rfl) ?_
  refine wp_icf (t := 14) q211_2 (by rfl) (by rfl) ?_
  refine wp_iload_n q211_5 (by rfl) ?_
  refine wp_iload_n q211_6 (by rfl) ?_
  refine wp_icf (t := 14) q211_7 (by rfl) (by rfl) ?_
  refine wp_iconst q211_10 ?_
  refine wp_goto (t := 15) q211_11 (by rfl) ?_
  refine wp_ireturn q211_15 (by rfl) (by rfl) ?_
  refine wK_v ?_
  refine wp_ift (t := 55) q273_48 (by rfl) (by rfl) ?_
  refine wp_iload q273_55 (by rfl) ?_
  refine wp_iff (t := 64) q273_57 (by rfl) (by rfl) ?_
  refine wp_iconst q273_60 ?_
  refine wp_goto (t := 65) q273_61 (by rfl) ?_
  refine wp_putfield q273_65 (by rfl) (Nat.le_of_ble_eq_true rfl) (by rfl) ?_
  refine wp_aload_n q273_68 (by rfl) ?_
  refine wp_getfield q273_69 (by rfl) (by rfl) ?_
  refine wp_iff (t := 77) q273_72 (by rfl) (by rfl) ?_
  refine wp_iconst q273_75 ?_
  refine wp_ireturn q273_76 (by rfl) (by rfl) ?_
  refine wK_v ?_
  refine wp_istore qL_2453 (Nat.le_of_ble_eq_true rfl) ?_
  refine wp_aload_n qL_2455 (by rfl) ?_
  refine wp_virtual qL_2456 (by decide) (Nat.le_of_ble_eq_true rfl) (by rfl) (by rfl) (by rfl) ⟨(Nat.le_of_ble_eq_true rfl), (Nat.le_of_ble_eq_true rfl), (Nat.le_of_ble_eq_true rfl)⟩ (Nat.le_of_ble_eq_true rfl) ?_
  refine wp_aload_n q209_0 (by rfl) ?_
  refine wp_getfield q209_1 (by rfl) (by rfl) ?_
  refine wp_ireturn q209_4 (by rfl) (by rfl) ?_
  refine wK_v ?_
  refine wp_iload qL_2459 (by rfl) ?_
  refine wp_ict (t := 2466) qL_2461 (by rfl) (by rfl) ?_
  refine wp_iload qL_2466 (by rfl) ?_
  refine wp_ift (t := 2483) qL_2468 (by rfl) (by rfl) ?_
  refine wp_goto (t := 3983) qL_2483 (by rfl) ?_
  refine wp_iinc qL_3983 (by rfl) (Nat.le_of_ble_eq_true rfl) ?_
  refine wp_goto (t := 28) qL_3986 (by rfl) ?_
  refine wp_iload qL_28 (by rfl) ?_
  refine wp_aload_ns qL_30 (by rfl) ?_
  refine wp_slen (n := 5) qL_31 rfl ?_
  refine wp_iconst qL_32 ?_
  refine wp_isub qL_33 ?_
  refine wp_ict (t := 3989) qL_34 (by rfl) (by rfl) ?_
  refine wp_iconst qL_3989 ?_
  refine wp_ireturn qL_3990 (by rfl) (by rfl) ?_
  rfl
theorem pt_35_12 {x0 x2 x3 x4 : Int32} (e0 : x0 &&& 63 = Int32.ofNat 35) (e1 : sC2 .lt x2 (0) = false) (e2 : sC2 .gt x2 (-1) = true) (e3 : sC2 .lt x3 (0) = false) (e4 : sC2 .gt x3 (0) = false) (e5 : sC2 .lt x2 (0) = false) (e6 : sC2 .gt x2 (9) = true) : wLaw [x0, (1), x2, x3, x4] := by
  unfold wLaw
  refine wp_iload qL_28 (by rfl) ?_
  refine wp_aload_ns qL_30 (by rfl) ?_
  refine wp_slen (n := 5) qL_31 rfl ?_
  refine wp_iconst qL_32 ?_
  refine wp_isub qL_33 ?_
  refine wp_icf (t := 3989) qL_34 (by rfl) (by rfl) ?_
  refine wp_aload_ns qL_37 (by rfl) ?_
  refine wp_iload qL_38 (by rfl) ?_
  refine wp_sload (x := x0) qL_40 (by rfl) (by rfl) ?_
  refine wp_bipush qL_41 ?_
  refine wp_iand qL_43 ?_
  refine wp_switch (t := 2406) qL_44 e0 (by rfl) ?_
  refine wp_aload_n qL_2406 (by rfl) ?_
  refine wp_aload_ns qL_2407 (by rfl) ?_
  refine wp_iload qL_2408 (by rfl) ?_
  refine wp_iconst qL_2410 ?_
  refine wp_iadd qL_2411 ?_
  refine wp_sload (x := (1)) qL_2412 (by rfl) (by rfl) ?_
  refine wp_aload_ns qL_2413 (by rfl) ?_
  refine wp_iload qL_2414 (by rfl) ?_
  refine wp_iconst qL_2416 ?_
  refine wp_iadd qL_2417 ?_
  refine wp_sload (x := x2) qL_2418 (by rfl) (by rfl) ?_
  refine wp_aload_ns qL_2419 (by rfl) ?_
  refine wp_iload qL_2420 (by rfl) ?_
  refine wp_iconst qL_2422 ?_
  refine wp_iadd qL_2423 ?_
  refine wp_sload (x := x3) qL_2424 (by rfl) (by rfl) ?_
  refine wp_aload_n qL_2425 (by rfl) ?_
  refine wp_static qL_2426 (by decide) (Nat.le_of_ble_eq_true rfl) (by rfl) (by rfl) ⟨(Nat.le_of_ble_eq_true rfl), (Nat.le_of_ble_eq_true rfl), (Nat.le_of_ble_eq_true rfl)⟩ (Nat.le_of_ble_eq_true rfl) ?_
  refine wp_aload q148_0 (by rfl) ?_
  refine wp_iconst q148_2 ?_
  refine wp_aload_n q148_3 (by rfl) ?_
  refine wp_iload_n q148_4 (by rfl) ?_
  refine wp_iload_n q148_5 (by rfl) ?_
  refine wp_iload_n q148_6 (by rfl) ?_
  refine wp_virtual q148_7 (by decide) (Nat.le_of_ble_eq_true rfl) (by rfl) (by rfl) (by rfl) ⟨(Nat.le_of_ble_eq_true rfl), (Nat.le_of_ble_eq_true rfl), (Nat.le_of_ble_eq_true rfl)⟩ (Nat.le_of_ble_eq_true rfl) ?_
  refine wp_aload_n q149_0 (by rfl) ?_
  refine wp_iload_n q149_1 (by rfl) ?_
  refine wp_virtual q149_2 (by decide) (Nat.le_of_ble_eq_true rfl) (by rfl) (by rfl) (by rfl) ⟨(Nat.le_of_ble_eq_true rfl), (Nat.le_of_ble_eq_true rfl), (Nat.le_of_ble_eq_true rfl)⟩ (Nat.le_of_ble_eq_true rfl) ?_
  refine wp_iload_n q146_0 (by rfl) ?_
  refine wp_iconst q146_1 ?_
  refine wp_bipush q146_2 ?_
  refine wp_static q146_4 (by decide) (Nat.le_of_ble_eq_true rfl) (by rfl) (by rfl) ⟨(Nat.le_of_ble_eq_true rfl), (Nat.le_of_ble_eq_true rfl), (Nat.le_of_ble_eq_true rfl)⟩ (Nat.le_of_ble_eq_true rfl) ?_
  refine wp_iload_n q47_0 (by rfl) ?_
  refine wp_iload_n q47_1 (by rfl) ?_
  refine wp_icf (t := 14) q47_2 (by rfl) (by rfl) ?_
  refine wp_iload_n q47_5 (by rfl) ?_
  refine wp_iload_n q47_6 (by rfl) ?_
  refine wp_icf (t := 14) q47_7 (by rfl) (by rfl) ?_
  refine wp_iconst q47_10 ?_
  refine wp_goto (t := 15) q47_11 (by rfl) ?_
  refine wp_ireturn q47_15 (by rfl) (by rfl) ?_
  refine wK_v ?_
  refine wp_ift (t := 21) q146_7 (by rfl) (by rfl) ?_
  refine wp_return q146_21 (by rfl) ?_
  refine wK_n ?_
  refine wp_aload_n q149_5 (by rfl) ?_
  refine wp_virtual q149_6 (by decide) (Nat.le_of_ble_eq_true rfl) (by rfl) (by rfl) (by rfl) ⟨(Nat.le_of_ble_eq_true rfl), (Nat.le_of_ble_eq_true rfl), (Nat.le_of_ble_eq_true rfl)⟩ (Nat.le_of_ble_eq_true rfl) ?_
  refine wp_iconst q12_0 ?_
  refine wp_istore_n q12_1 (Nat.le_of_ble_eq_true rfl) ?_
  refine wp_iconst q12_2 ?_
  refine wp_istore_n q12_3 (Nat.le_of_ble_eq_true rfl) ?_
  refine wp_iload_n q12_4 (by rfl) ?_
  refine wp_aload_n q12_5 (by rfl) ?_
  refine wp_getfield q12_6 (by rfl) (by rfl) ?_
  refine wp_ict (t := 34) q12_9 (by rfl) (by rfl) ?_
  refine wp_iload_n q12_34 (by rfl) ?_
  refine wp_ireturn q12_35 (by rfl) (by rfl) ?_
  refine wK_v ?_
  refine wp_istore q149_9 (Nat.le_of_ble_eq_true rfl) ?_
  refine wp_iload_n q149_11 (by rfl) ?_
  refine wp_iconst q149_12 ?_
  refine wp_iload_n q149_13 (by rfl) ?_
  refine wp_iload q149_14 (by rfl) ?_
  refine wp_static q149_16 (by decide) (Nat.le_of_ble_eq_true rfl) (by rfl) (by rfl) ⟨(Nat.le_of_ble_eq_true rfl), (Nat.le_of_ble_eq_true rfl), (Nat.le_of_ble_eq_true rfl)⟩ (Nat.le_of_ble_eq_true rfl) ?_
  refine wp_iload_n q147_0 (by rfl) ?_
  refine wp_iff (t := 14) q147_1 (by rfl) (by rfl) ?_
  refine wp_iload_n q147_4 (by rfl) ?_
  refine wp_iload_n q147_5 (by rfl) ?_
  refine wp_iadd q147_6 ?_
  refine wp_iconst q147_7 ?_
  refine wp_isub q147_8 ?_
  refine wp_iload_n q147_9 (by rfl) ?_
  refine wp_idiv q147_10 (by decide) ?_
  refine wp_goto (t := 15) q147_11 (by rfl) ?_
  refine wp_ireturn q147_15 (by rfl) (by rfl) ?_
  refine wK_v ?_
  refine wp_iconst q149_19 ?_
  refine wp_isub q149_20 ?_
  refine wp_static q149_21 (by decide) (Nat.le_of_ble_eq_true rfl) (by rfl) (by rfl) ⟨(Nat.le_of_ble_eq_true rfl), (Nat.le_of_ble_eq_true rfl), (Nat.le_of_ble_eq_true rfl)⟩ (Nat.le_of_ble_eq_true rfl) ?_
  refine wp_iload_n q47_0 (by rfl) ?_
  refine wp_iload_n q47_1 (by rfl) ?_
  refine wp_icf (t := 14) q47_2 e1 (by rfl) ?_
  refine wp_iload_n q47_5 (by rfl) ?_
  refine wp_iload_n q47_6 (by rfl) ?_
  refine wp_ict (t := 14) q47_7 e2 (by rfl) ?_
  refine wp_iconst q47_14 ?_
  refine wp_ireturn q47_15 (by rfl) (by rfl) ?_
  refine wK_v ?_
  refine wp_ift (t := 38) q149_24 (by rfl) (by rfl) ?_
  refine wp_throw q149_38 (by decide) ⟨(Nat.le_of_ble_eq_true rfl), (Nat.le_of_ble_eq_true rfl), (Nat.le_of_ble_eq_true rfl)⟩ ?_
  refine wK_c (by rfl) (by rfl) (by decide) (by rfl) ?_
  refine wp_iconst q148_21 ?_
  refine wp_ireturn q148_22 (by rfl) (by rfl) ?_
  refine wK_v ?_
  refine wp_istore qL_2429 (Nat.le_of_ble_eq_true rfl) ?_
  refine wp_aload_n qL_2431 (by rfl) ?_
  refine wp_aload_ns qL_2432 (by rfl) ?_
  refine wp_iload qL_2433 (by rfl) ?_
  refine wp_iconst qL_2435 ?_
  refine wp_iadd qL_2436 ?_
  refine wp_sload (x := (1)) qL_2437 (by rfl) (by rfl) ?_
  refine wp_aload_ns qL_2438 (by rfl) ?_
  refine wp_iload qL_2439 (by rfl) ?_
  refine wp_iconst qL_2441 ?_
  refine wp_iadd qL_2442 ?_
  refine wp_sload (x := x2) qL_2443 (by rfl) (by rfl) ?_
  refine wp_aload_ns qL_2444 (by rfl) ?_
  refine wp_iload qL_2445 (by rfl) ?_
  refine wp_iconst qL_2447 ?_
  refine wp_iadd qL_2448 ?_
  refine wp_sload (x := x3) qL_2449 (by rfl) (by rfl) ?_
  refine wp_virtual qL_2450 (by decide) (Nat.le_of_ble_eq_true rfl) (by rfl) (by rfl) (by rfl) ⟨(Nat.le_of_ble_eq_true rfl), (Nat.le_of_ble_eq_true rfl), (Nat.le_of_ble_eq_true rfl)⟩ (Nat.le_of_ble_eq_true rfl) ?_
  refine wp_iload_n q273_0 (by rfl) ?_
  refine wp_iconst q273_1 ?_
  refine wp_iload_n q273_2 (by rfl) ?_
  refine wp_iconst q273_3 ?_
  refine wp_isub q273_4 ?_
  refine wp_static q273_5 (by decide) (Nat.le_of_ble_eq_true rfl) (by rfl) (by rfl) ⟨(Nat.le_of_ble_eq_true rfl), (Nat.le_of_ble_eq_true rfl), (Nat.le_of_ble_eq_true rfl)⟩ (Nat.le_of_ble_eq_true rfl) ?_
  refine wp_iload_n q211_0 (by rfl) ?_
  refine wp_iload_n q211_1 (by rfl) ?_
  refine wp_icf (t := 14) q211_2 e3 (by rfl) ?_
  refine wp_iload_n q211_5 (by rfl) ?_
  refine wp_iload_n q211_6 (by rfl) ?_
  refine wp_icf (t := 14) q211_7 e4 (by rfl) ?_
  refine wp_iconst q211_10 ?_
  refine wp_goto (t := 15) q211_11 (by rfl) ?_
  refine wp_ireturn q211_15 (by rfl) (by rfl) ?_
  refine wK_v ?_
  refine wp_iff (t := 37) q273_8 (by rfl) (by rfl) ?_
  refine wp_iload_n q273_11 (by rfl) ?_
  refine wp_iconst q273_12 ?_
  refine wp_bipush q273_13 ?_
  refine wp_static q273_15 (by decide) (Nat.le_of_ble_eq_true rfl) (by rfl) (by rfl) ⟨(Nat.le_of_ble_eq_true rfl), (Nat.le_of_ble_eq_true rfl), (Nat.le_of_ble_eq_true rfl)⟩ (Nat.le_of_ble_eq_true rfl) ?_
  refine wp_iload_n q211_0 (by rfl) ?_
  refine wp_iload_n q211_1 (by rfl) ?_
  refine wp_icf (t := 14) q211_2 e5 (by rfl) ?_
  refine wp_iload_n q211_5 (by rfl) ?_
  refine wp_iload_n q211_6 (by rfl) ?_
  refine wp_ict (t := 14) q211_7 e6 (by rfl) ?_
  refine wp_iconst q211_14 ?_
  refine wp_ireturn q211_15 (by rfl) (by rfl) ?_
  refine wK_v ?_
  refine wp_ift (t := 37) q273_18 (by rfl) (by rfl) ?_
  refine wp_iconst q273_37 ?_
  refine wp_istore q273_38 (Nat.le_of_ble_eq_true rfl) ?_
  refine wp_aload_n q273_40 (by rfl) ?_
  refine wp_iload_n q273_41 (by rfl) ?_
  refine wp_iconst q273_42 ?_
  refine wp_bipush q273_43 ?_
  refine wp_static q273_45 (by decide) (Nat.le_of_ble_eq_true rfl) (by rfl) (by rfl) ⟨(Nat.le_of_ble_eq_true rfl), (Nat.le_of_ble_eq_true rfl), (Nat.le_of_ble_eq_true rfl)⟩ (Nat.le_of_ble_eq_true rfl) ?_
  refine wp_iload_n q211_0 (by rfl) ?_
  refine wp_iload_n q211_1 (by rfl) ?_
  refine wp_icf (t := 14) q211_2 (by rfl) (by rfl) ?_
  refine wp_iload_n q211_5 (by rfl) ?_
  refine wp_iload_n q211_6 (by rfl) ?_
  refine wp_icf (t := 14) q211_7 (by rfl) (by rfl) ?_
  refine wp_iconst q211_10 ?_
  refine wp_goto (t := 15) q211_11 (by rfl) ?_
  refine wp_ireturn q211_15 (by rfl) (by rfl) ?_
  refine wK_v ?_
  refine wp_ift (t := 55) q273_48 (by rfl) (by rfl) ?_
  refine wp_iload q273_55 (by rfl) ?_
  refine wp_iff (t := 64) q273_57 (by rfl) (by rfl) ?_
  refine wp_iconst q273_60 ?_
  refine wp_goto (t := 65) q273_61 (by rfl) ?_
  refine wp_putfield q273_65 (by rfl) (Nat.le_of_ble_eq_true rfl) (by rfl) ?_
  refine wp_aload_n q273_68 (by rfl) ?_
  refine wp_getfield q273_69 (by rfl) (by rfl) ?_
  refine wp_iff (t := 77) q273_72 (by rfl) (by rfl) ?_
  refine wp_iconst q273_75 ?_
  refine wp_ireturn q273_76 (by rfl) (by rfl) ?_
  refine wK_v ?_
  refine wp_istore qL_2453 (Nat.le_of_ble_eq_true rfl) ?_
  refine wp_aload_n qL_2455 (by rfl) ?_
  refine wp_virtual qL_2456 (by decide) (Nat.le_of_ble_eq_true rfl) (by rfl) (by rfl) (by rfl) ⟨(Nat.le_of_ble_eq_true rfl), (Nat.le_of_ble_eq_true rfl), (Nat.le_of_ble_eq_true rfl)⟩ (Nat.le_of_ble_eq_true rfl) ?_
  refine wp_aload_n q209_0 (by rfl) ?_
  refine wp_getfield q209_1 (by rfl) (by rfl) ?_
  refine wp_ireturn q209_4 (by rfl) (by rfl) ?_
  refine wK_v ?_
  refine wp_iload qL_2459 (by rfl) ?_
  refine wp_ict (t := 2466) qL_2461 (by rfl) (by rfl) ?_
  refine wp_iload qL_2466 (by rfl) ?_
  refine wp_ift (t := 2483) qL_2468 (by rfl) (by rfl) ?_
  refine wp_goto (t := 3983) qL_2483 (by rfl) ?_
  refine wp_iinc qL_3983 (by rfl) (Nat.le_of_ble_eq_true rfl) ?_
  refine wp_goto (t := 28) qL_3986 (by rfl) ?_
  refine wp_iload qL_28 (by rfl) ?_
  refine wp_aload_ns qL_30 (by rfl) ?_
  refine wp_slen (n := 5) qL_31 rfl ?_
  refine wp_iconst qL_32 ?_
  refine wp_isub qL_33 ?_
  refine wp_ict (t := 3989) qL_34 (by rfl) (by rfl) ?_
  refine wp_iconst qL_3989 ?_
  refine wp_ireturn qL_3990 (by rfl) (by rfl) ?_
  rfl
theorem pt_35_13 {x0 x2 x3 x4 : Int32} (e0 : x0 &&& 63 = Int32.ofNat 35) (e1 : sC2 .lt x2 (0) = true) (e2 : sC2 .lt x3 (0) = true) : wLaw [x0, (2), x2, x3, x4] := by
  unfold wLaw
  refine wp_iload qL_28 (by rfl) ?_
  refine wp_aload_ns qL_30 (by rfl) ?_
  refine wp_slen (n := 5) qL_31 rfl ?_
  refine wp_iconst qL_32 ?_
  refine wp_isub qL_33 ?_
  refine wp_icf (t := 3989) qL_34 (by rfl) (by rfl) ?_
  refine wp_aload_ns qL_37 (by rfl) ?_
  refine wp_iload qL_38 (by rfl) ?_
  refine wp_sload (x := x0) qL_40 (by rfl) (by rfl) ?_
  refine wp_bipush qL_41 ?_
  refine wp_iand qL_43 ?_
  refine wp_switch (t := 2406) qL_44 e0 (by rfl) ?_
  refine wp_aload_n qL_2406 (by rfl) ?_
  refine wp_aload_ns qL_2407 (by rfl) ?_
  refine wp_iload qL_2408 (by rfl) ?_
  refine wp_iconst qL_2410 ?_
  refine wp_iadd qL_2411 ?_
  refine wp_sload (x := (2)) qL_2412 (by rfl) (by rfl) ?_
  refine wp_aload_ns qL_2413 (by rfl) ?_
  refine wp_iload qL_2414 (by rfl) ?_
  refine wp_iconst qL_2416 ?_
  refine wp_iadd qL_2417 ?_
  refine wp_sload (x := x2) qL_2418 (by rfl) (by rfl) ?_
  refine wp_aload_ns qL_2419 (by rfl) ?_
  refine wp_iload qL_2420 (by rfl) ?_
  refine wp_iconst qL_2422 ?_
  refine wp_iadd qL_2423 ?_
  refine wp_sload (x := x3) qL_2424 (by rfl) (by rfl) ?_
  refine wp_aload_n qL_2425 (by rfl) ?_
  refine wp_static qL_2426 (by decide) (Nat.le_of_ble_eq_true rfl) (by rfl) (by rfl) ⟨(Nat.le_of_ble_eq_true rfl), (Nat.le_of_ble_eq_true rfl), (Nat.le_of_ble_eq_true rfl)⟩ (Nat.le_of_ble_eq_true rfl) ?_
  refine wp_aload q148_0 (by rfl) ?_
  refine wp_iconst q148_2 ?_
  refine wp_aload_n q148_3 (by rfl) ?_
  refine wp_iload_n q148_4 (by rfl) ?_
  refine wp_iload_n q148_5 (by rfl) ?_
  refine wp_iload_n q148_6 (by rfl) ?_
  refine wp_virtual q148_7 (by decide) (Nat.le_of_ble_eq_true rfl) (by rfl) (by rfl) (by rfl) ⟨(Nat.le_of_ble_eq_true rfl), (Nat.le_of_ble_eq_true rfl), (Nat.le_of_ble_eq_true rfl)⟩ (Nat.le_of_ble_eq_true rfl) ?_
  refine wp_aload_n q149_0 (by rfl) ?_
  refine wp_iload_n q149_1 (by rfl) ?_
  refine wp_virtual q149_2 (by decide) (Nat.le_of_ble_eq_true rfl) (by rfl) (by rfl) (by rfl) ⟨(Nat.le_of_ble_eq_true rfl), (Nat.le_of_ble_eq_true rfl), (Nat.le_of_ble_eq_true rfl)⟩ (Nat.le_of_ble_eq_true rfl) ?_
  refine wp_iload_n q146_0 (by rfl) ?_
  refine wp_iconst q146_1 ?_
  refine wp_bipush q146_2 ?_
  refine wp_static q146_4 (by decide) (Nat.le_of_ble_eq_true rfl) (by rfl) (by rfl) ⟨(Nat.le_of_ble_eq_true rfl), (Nat.le_of_ble_eq_true rfl), (Nat.le_of_ble_eq_true rfl)⟩ (Nat.le_of_ble_eq_true rfl) ?_
  refine wp_iload_n q47_0 (by rfl) ?_
  refine wp_iload_n q47_1 (by rfl) ?_
  refine wp_icf (t := 14) q47_2 (by rfl) (by rfl) ?_
  refine wp_iload_n q47_5 (by rfl) ?_
  refine wp_iload_n q47_6 (by rfl) ?_
  refine wp_icf (t := 14) q47_7 (by rfl) (by rfl) ?_
  refine wp_iconst q47_10 ?_
  refine wp_goto (t := 15) q47_11 (by rfl) ?_
  refine wp_ireturn q47_15 (by rfl) (by rfl) ?_
  refine wK_v ?_
  refine wp_ift (t := 21) q146_7 (by rfl) (by rfl) ?_
  refine wp_return q146_21 (by rfl) ?_
  refine wK_n ?_
  refine wp_aload_n q149_5 (by rfl) ?_
  refine wp_virtual q149_6 (by decide) (Nat.le_of_ble_eq_true rfl) (by rfl) (by rfl) (by rfl) ⟨(Nat.le_of_ble_eq_true rfl), (Nat.le_of_ble_eq_true rfl), (Nat.le_of_ble_eq_true rfl)⟩ (Nat.le_of_ble_eq_true rfl) ?_
  refine wp_iconst q12_0 ?_
  refine wp_istore_n q12_1 (Nat.le_of_ble_eq_true rfl) ?_
  refine wp_iconst q12_2 ?_
  refine wp_istore_n q12_3 (Nat.le_of_ble_eq_true rfl) ?_
  refine wp_iload_n q12_4 (by rfl) ?_
  refine wp_aload_n q12_5 (by rfl) ?_
  refine wp_getfield q12_6 (by rfl) (by rfl) ?_
  refine wp_ict (t := 34) q12_9 (by rfl) (by rfl) ?_
  refine wp_iload_n q12_34 (by rfl) ?_
  refine wp_ireturn q12_35 (by rfl) (by rfl) ?_
  refine wK_v ?_
  refine wp_istore q149_9 (Nat.le_of_ble_eq_true rfl) ?_
  refine wp_iload_n q149_11 (by rfl) ?_
  refine wp_iconst q149_12 ?_
  refine wp_iload_n q149_13 (by rfl) ?_
  refine wp_iload q149_14 (by rfl) ?_
  refine wp_static q149_16 (by decide) (Nat.le_of_ble_eq_true rfl) (by rfl) (by rfl) ⟨(Nat.le_of_ble_eq_true rfl), (Nat.le_of_ble_eq_true rfl), (Nat.le_of_ble_eq_true rfl)⟩ (Nat.le_of_ble_eq_true rfl) ?_
  refine wp_iload_n q147_0 (by rfl) ?_
  refine wp_iff (t := 14) q147_1 (by rfl) (by rfl) ?_
  refine wp_iload_n q147_4 (by rfl) ?_
  refine wp_iload_n q147_5 (by rfl) ?_
  refine wp_iadd q147_6 ?_
  refine wp_iconst q147_7 ?_
  refine wp_isub q147_8 ?_
  refine wp_iload_n q147_9 (by rfl) ?_
  refine wp_idiv q147_10 (by decide) ?_
  refine wp_goto (t := 15) q147_11 (by rfl) ?_
  refine wp_ireturn q147_15 (by rfl) (by rfl) ?_
  refine wK_v ?_
  refine wp_iconst q149_19 ?_
  refine wp_isub q149_20 ?_
  refine wp_static q149_21 (by decide) (Nat.le_of_ble_eq_true rfl) (by rfl) (by rfl) ⟨(Nat.le_of_ble_eq_true rfl), (Nat.le_of_ble_eq_true rfl), (Nat.le_of_ble_eq_true rfl)⟩ (Nat.le_of_ble_eq_true rfl) ?_
  refine wp_iload_n q47_0 (by rfl) ?_
  refine wp_iload_n q47_1 (by rfl) ?_
  refine wp_ict (t := 14) q47_2 e1 (by rfl) ?_
  refine wp_iconst q47_14 ?_
  refine wp_ireturn q47_15 (by rfl) (by rfl) ?_
  refine wK_v ?_
  refine wp_ift (t := 38) q149_24 (by rfl) (by rfl) ?_
  refine wp_throw q149_38 (by decide) ⟨(Nat.le_of_ble_eq_true rfl), (Nat.le_of_ble_eq_true rfl), (Nat.le_of_ble_eq_true rfl)⟩ ?_
  refine wK_c (by rfl) (by rfl) (by decide) (by rfl) ?_
  refine wp_iconst q148_21 ?_
  refine wp_ireturn q148_22 (by rfl) (by rfl) ?_
  refine wK_v ?_
  refine wp_istore qL_2429 (Nat.le_of_ble_eq_true rfl) ?_
  refine wp_aload_n qL_2431 (by rfl) ?_
  refine wp_aload_ns qL_2432 (by rfl) ?_
  refine wp_iload qL_2433 (by rfl) ?_
  refine wp_iconst qL_2435 ?_
  refine wp_iadd qL_2436 ?_
  refine wp_sload (x := (2)) qL_2437 (by rfl) (by rfl) ?_
  refine wp_aload_ns qL_2438 (by rfl) ?_
  refine wp_iload qL_2439 (by rfl) ?_
  refine wp_iconst qL_2441 ?_
  refine wp_iadd qL_2442 ?_
  refine wp_sload (x := x2) qL_2443 (by rfl) (by rfl) ?_
  refine wp_aload_ns qL_2444 (by rfl) ?_
  refine wp_iload qL_2445 (by rfl) ?_
  refine wp_iconst qL_2447 ?_
  refine wp_iadd qL_2448 ?_
  refine wp_sload (x := x3) qL_2449 (by rfl) (by rfl) ?_
  refine wp_virtual qL_2450 (by decide) (Nat.le_of_ble_eq_true rfl) (by rfl) (by rfl) (by rfl) ⟨(Nat.le_of_ble_eq_true rfl), (Nat.le_of_ble_eq_true rfl), (Nat.le_of_ble_eq_true rfl)⟩ (Nat.le_of_ble_eq_true rfl) ?_
  refine wp_iload_n q273_0 (by rfl) ?_
  refine wp_iconst q273_1 ?_
  refine wp_iload_n q273_2 (by rfl) ?_
  refine wp_iconst q273_3 ?_
  refine wp_isub q273_4 ?_
  refine wp_static q273_5 (by decide) (Nat.le_of_ble_eq_true rfl) (by rfl) (by rfl) ⟨(Nat.le_of_ble_eq_true rfl), (Nat.le_of_ble_eq_true rfl), (Nat.le_of_ble_eq_true rfl)⟩ (Nat.le_of_ble_eq_true rfl) ?_
  refine wp_iload_n q211_0 (by rfl) ?_
  refine wp_iload_n q211_1 (by rfl) ?_
  refine wp_ict (t := 14) q211_2 e2 (by rfl) ?_
  refine wp_iconst q211_14 ?_
  refine wp_ireturn q211_15 (by rfl) (by rfl) ?_
  refine wK_v ?_
  refine wp_ift (t := 37) q273_8 (by rfl) (by rfl) ?_
  refine wp_iconst q273_37 ?_
  refine wp_istore q273_38 (Nat.le_of_ble_eq_true rfl) ?_
  refine wp_aload_n q273_40 (by rfl) ?_
  refine wp_iload_n q273_41 (by rfl) ?_
  refine wp_iconst q273_42 ?_
  refine wp_bipush q273_43 ?_
  refine wp_static q273_45 (by decide) (Nat.le_of_ble_eq_true rfl) (by rfl) (by rfl) ⟨(Nat.le_of_ble_eq_true rfl), (Nat.le_of_ble_eq_true rfl), (Nat.le_of_ble_eq_true rfl)⟩ (Nat.le_of_ble_eq_true rfl) ?_
  refine wp_iload_n q211_0 (by rfl) ?_
  refine wp_iload_n q211_1 (by rfl) ?_
  refine wp_icf (t := 14) q211_2 (by rfl) (by rfl) ?_
  refine wp_iload_n q211_5 (by rfl) ?_
  refine wp_iload_n q211_6 (by rfl) ?_
  refine wp_icf (t := 14) q211_7 (by rfl) (by rfl) ?_
  refine wp_iconst q211_10 ?_
  refine wp_goto (t := 15) q211_11 (by rfl) ?_
  refine wp_ireturn q211_15 (by rfl) (by rfl) ?_
  refine wK_v ?_
  refine wp_ift (t := 55) q273_48 (by rfl) (by rfl) ?_
  refine wp_iload q273_55 (by rfl) ?_
  refine wp_iff (t := 64) q273_57 (by rfl) (by rfl) ?_
  refine wp_iconst q273_60 ?_
  refine wp_goto (t := 65) q273_61 (by rfl) ?_
  refine wp_putfield q273_65 (by rfl) (Nat.le_of_ble_eq_true rfl) (by rfl) ?_
  refine wp_aload_n q273_68 (by rfl) ?_
  refine wp_getfield q273_69 (by rfl) (by rfl) ?_
  refine wp_iff (t := 77) q273_72 (by rfl) (by rfl) ?_
  refine wp_iconst q273_75 ?_
  refine wp_ireturn q273_76 (by rfl) (by rfl) ?_
  refine wK_v ?_
  refine wp_istore qL_2453 (Nat.le_of_ble_eq_true rfl) ?_
  refine wp_aload_n qL_2455 (by rfl) ?_
  refine wp_virtual qL_2456 (by decide) (Nat.le_of_ble_eq_true rfl) (by rfl) (by rfl) (by rfl) ⟨(Nat.le_of_ble_eq_true rfl), (Nat.le_of_ble_eq_true rfl), (Nat.le_of_ble_eq_true rfl)⟩ (Nat.le_of_ble_eq_true rfl) ?_
  refine wp_aload_n q209_0 (by rfl) ?_
  refine wp_getfield q209_1 (by rfl) (by rfl) ?_
  refine wp_ireturn q209_4 (by rfl) (by rfl) ?_
  refine wK_v ?_
  refine wp_iload qL_2459 (by rfl) ?_
  refine wp_ict (t := 2466) qL_2461 (by rfl) (by rfl) ?_
  refine wp_iload qL_2466 (by rfl) ?_
  refine wp_ift (t := 2483) qL_2468 (by rfl) (by rfl) ?_
  refine wp_goto (t := 3983) qL_2483 (by rfl) ?_
  refine wp_iinc qL_3983 (by rfl) (Nat.le_of_ble_eq_true rfl) ?_
  refine wp_goto (t := 28) qL_3986 (by rfl) ?_
  refine wp_iload qL_28 (by rfl) ?_
  refine wp_aload_ns qL_30 (by rfl) ?_
  refine wp_slen (n := 5) qL_31 rfl ?_
  refine wp_iconst qL_32 ?_
  refine wp_isub qL_33 ?_
  refine wp_ict (t := 3989) qL_34 (by rfl) (by rfl) ?_
  refine wp_iconst qL_3989 ?_
  refine wp_ireturn qL_3990 (by rfl) (by rfl) ?_
  rfl
theorem pt_35_14 {x0 x2 x3 x4 : Int32} (e0 : x0 &&& 63 = Int32.ofNat 35) (e1 : sC2 .lt x2 (0) = true) (e2 : sC2 .lt x3 (0) = false) (e3 : sC2 .gt x3 (1) = false) (e4 : sC2 .lt x2 (0) = true) : wLaw [x0, (2), x2, x3, x4] := by
  unfold wLaw
  refine wp_iload qL_28 (by rfl) ?_
  refine wp_aload_ns qL_30 (by rfl) ?_
  refine wp_slen (n := 5) qL_31 rfl ?_
  refine wp_iconst qL_32 ?_
  refine wp_isub qL_33 ?_
  refine wp_icf (t := 3989) qL_34 (by rfl) (by rfl) ?_
  refine wp_aload_ns qL_37 (by rfl) ?_
  refine wp_iload qL_38 (by rfl) ?_
  refine wp_sload (x := x0) qL_40 (by rfl) (by rfl) ?_
  refine wp_bipush qL_41 ?_
  refine wp_iand qL_43 ?_
  refine wp_switch (t := 2406) qL_44 e0 (by rfl) ?_
  refine wp_aload_n qL_2406 (by rfl) ?_
  refine wp_aload_ns qL_2407 (by rfl) ?_
  refine wp_iload qL_2408 (by rfl) ?_
  refine wp_iconst qL_2410 ?_
  refine wp_iadd qL_2411 ?_
  refine wp_sload (x := (2)) qL_2412 (by rfl) (by rfl) ?_
  refine wp_aload_ns qL_2413 (by rfl) ?_
  refine wp_iload qL_2414 (by rfl) ?_
  refine wp_iconst qL_2416 ?_
  refine wp_iadd qL_2417 ?_
  refine wp_sload (x := x2) qL_2418 (by rfl) (by rfl) ?_
  refine wp_aload_ns qL_2419 (by rfl) ?_
  refine wp_iload qL_2420 (by rfl) ?_
  refine wp_iconst qL_2422 ?_
  refine wp_iadd qL_2423 ?_
  refine wp_sload (x := x3) qL_2424 (by rfl) (by rfl) ?_
  refine wp_aload_n qL_2425 (by rfl) ?_
  refine wp_static qL_2426 (by decide) (Nat.le_of_ble_eq_true rfl) (by rfl) (by rfl) ⟨(Nat.le_of_ble_eq_true rfl), (Nat.le_of_ble_eq_true rfl), (Nat.le_of_ble_eq_true rfl)⟩ (Nat.le_of_ble_eq_true rfl) ?_
  refine wp_aload q148_0 (by rfl) ?_
  refine wp_iconst q148_2 ?_
  refine wp_aload_n q148_3 (by rfl) ?_
  refine wp_iload_n q148_4 (by rfl) ?_
  refine wp_iload_n q148_5 (by rfl) ?_
  refine wp_iload_n q148_6 (by rfl) ?_
  refine wp_virtual q148_7 (by decide) (Nat.le_of_ble_eq_true rfl) (by rfl) (by rfl) (by rfl) ⟨(Nat.le_of_ble_eq_true rfl), (Nat.le_of_ble_eq_true rfl), (Nat.le_of_ble_eq_true rfl)⟩ (Nat.le_of_ble_eq_true rfl) ?_
  refine wp_aload_n q149_0 (by rfl) ?_
  refine wp_iload_n q149_1 (by rfl) ?_
  refine wp_virtual q149_2 (by decide) (Nat.le_of_ble_eq_true rfl) (by rfl) (by rfl) (by rfl) ⟨(Nat.le_of_ble_eq_true rfl), (Nat.le_of_ble_eq_true rfl), (Nat.le_of_ble_eq_true rfl)⟩ (Nat.le_of_ble_eq_true rfl) ?_
  refine wp_iload_n q146_0 (by rfl) ?_
  refine wp_iconst q146_1 ?_
  refine wp_bipush q146_2 ?_
  refine wp_static q146_4 (by decide) (Nat.le_of_ble_eq_true rfl) (by rfl) (by rfl) ⟨(Nat.le_of_ble_eq_true rfl), (Nat.le_of_ble_eq_true rfl), (Nat.le_of_ble_eq_true rfl)⟩ (Nat.le_of_ble_eq_true rfl) ?_
  refine wp_iload_n q47_0 (by rfl) ?_
  refine wp_iload_n q47_1 (by rfl) ?_
  refine wp_icf (t := 14) q47_2 (by rfl) (by rfl) ?_
  refine wp_iload_n q47_5 (by rfl) ?_
  refine wp_iload_n q47_6 (by rfl) ?_
  refine wp_icf (t := 14) q47_7 (by rfl) (by rfl) ?_
  refine wp_iconst q47_10 ?_
  refine wp_goto (t := 15) q47_11 (by rfl) ?_
  refine wp_ireturn q47_15 (by rfl) (by rfl) ?_
  refine wK_v ?_
  refine wp_ift (t := 21) q146_7 (by rfl) (by rfl) ?_
  refine wp_return q146_21 (by rfl) ?_
  refine wK_n ?_
  refine wp_aload_n q149_5 (by rfl) ?_
  refine wp_virtual q149_6 (by decide) (Nat.le_of_ble_eq_true rfl) (by rfl) (by rfl) (by rfl) ⟨(Nat.le_of_ble_eq_true rfl), (Nat.le_of_ble_eq_true rfl), (Nat.le_of_ble_eq_true rfl)⟩ (Nat.le_of_ble_eq_true rfl) ?_
  refine wp_iconst q12_0 ?_
  refine wp_istore_n q12_1 (Nat.le_of_ble_eq_true rfl) ?_
  refine wp_iconst q12_2 ?_
  refine wp_istore_n q12_3 (Nat.le_of_ble_eq_true rfl) ?_
  refine wp_iload_n q12_4 (by rfl) ?_
  refine wp_aload_n q12_5 (by rfl) ?_
  refine wp_getfield q12_6 (by rfl) (by rfl) ?_
  refine wp_ict (t := 34) q12_9 (by rfl) (by rfl) ?_
  refine wp_iload_n q12_34 (by rfl) ?_
  refine wp_ireturn q12_35 (by rfl) (by rfl) ?_
  refine wK_v ?_
  refine wp_istore q149_9 (Nat.le_of_ble_eq_true rfl) ?_
  refine wp_iload_n q149_11 (by rfl) ?_
  refine wp_iconst q149_12 ?_
  refine wp_iload_n q149_13 (by rfl) ?_
  refine wp_iload q149_14 (by rfl) ?_
  refine wp_static q149_16 (by decide) (Nat.le_of_ble_eq_true rfl) (by rfl) (by rfl) ⟨(Nat.le_of_ble_eq_true rfl), (Nat.le_of_ble_eq_true rfl), (Nat.le_of_ble_eq_true rfl)⟩ (Nat.le_of_ble_eq_true rfl) ?_
  refine wp_iload_n q147_0 (by rfl) ?_
  refine wp_iff (t := 14) q147_1 (by rfl) (by rfl) ?_
  refine wp_iload_n q147_4 (by rfl) ?_
  refine wp_iload_n q147_5 (by rfl) ?_
  refine wp_iadd q147_6 ?_
  refine wp_iconst q147_7 ?_
  refine wp_isub q147_8 ?_
  refine wp_iload_n q147_9 (by rfl) ?_
  refine wp_idiv q147_10 (by decide) ?_
  refine wp_goto (t := 15) q147_11 (by rfl) ?_
  refine wp_ireturn q147_15 (by rfl) (by rfl) ?_
  refine wK_v ?_
  refine wp_iconst q149_19 ?_
  refine wp_isub q149_20 ?_
  refine wp_static q149_21 (by decide) (Nat.le_of_ble_eq_true rfl) (by rfl) (by rfl) ⟨(Nat.le_of_ble_eq_true rfl), (Nat.le_of_ble_eq_true rfl), (Nat.le_of_ble_eq_true rfl)⟩ (Nat.le_of_ble_eq_true rfl) ?_
  refine wp_iload_n q47_0 (by rfl) ?_
  refine wp_iload_n q47_1 (by rfl) ?_
  refine wp_ict (t := 14) q47_2 e1 (by rfl) ?_
  refine wp_iconst q47_14 ?_
  refine wp_ireturn q47_15 (by rfl) (by rfl) ?_
  refine wK_v ?_
  refine wp_ift (t := 38) q149_24 (by rfl) (by rfl) ?_
  refine wp_throw q149_38 (by decide) ⟨(Nat.le_of_ble_eq_true rfl), (Nat.le_of_ble_eq_true rfl), (Nat.le_of_ble_eq_true rfl)⟩ ?_
  refine wK_c (by rfl) (by rfl) (by decide) (by rfl) ?_
  refine wp_iconst q148_21 ?_
  refine wp_ireturn q148_22 (by rfl) (by rfl) ?_
  refine wK_v ?_
  refine wp_istore qL_2429 (Nat.le_of_ble_eq_true rfl) ?_
  refine wp_aload_n qL_2431 (by rfl) ?_
  refine wp_aload_ns qL_2432 (by rfl) ?_
  refine wp_iload qL_2433 (by rfl) ?_
  refine wp_iconst qL_2435 ?_
  refine wp_iadd qL_2436 ?_
  refine wp_sload (x := (2)) qL_2437 (by rfl) (by rfl) ?_
  refine wp_aload_ns qL_2438 (by rfl) ?_
  refine wp_iload qL_2439 (by rfl) ?_
  refine wp_iconst qL_2441 ?_
  refine wp_iadd qL_2442 ?_
  refine wp_sload (x := x2) qL_2443 (by rfl) (by rfl) ?_
  refine wp_aload_ns qL_2444 (by rfl) ?_
  refine wp_iload qL_2445 (by rfl) ?_
  refine wp_iconst qL_2447 ?_
  refine wp_iadd qL_2448 ?_
  refine wp_sload (x := x3) qL_2449 (by rfl) (by rfl) ?_
  refine wp_virtual qL_2450 (by decide) (Nat.le_of_ble_eq_true rfl) (by rfl) (by rfl) (by rfl) ⟨(Nat.le_of_ble_eq_true rfl), (Nat.le_of_ble_eq_true rfl), (Nat.le_of_ble_eq_true rfl)⟩ (Nat.le_of_ble_eq_true rfl) ?_
  refine wp_iload_n q273_0 (by rfl) ?_
  refine wp_iconst q273_1 ?_
  refine wp_iload_n q273_2 (by rfl) ?_
  refine wp_iconst q273_3 ?_
  refine wp_isub q273_4 ?_
  refine wp_static q273_5 (by decide) (Nat.le_of_ble_eq_true rfl) (by rfl) (by rfl) ⟨(Nat.le_of_ble_eq_true rfl), (Nat.le_of_ble_eq_true rfl), (Nat.le_of_ble_eq_true rfl)⟩ (Nat.le_of_ble_eq_true rfl) ?_
  refine wp_iload_n q211_0 (by rfl) ?_
  refine wp_iload_n q211_1 (by rfl) ?_
  refine wp_icf (t := 14) q211_2 e2 (by rfl) ?_
  refine wp_iload_n q211_5 (by rfl) ?_
  refine wp_iload_n q211_6 (by rfl) ?_
  refine wp_icf (t := 14) q211_7 e3 (by rfl) ?_
  refine wp_iconst q211_10 ?_
  refine wp_goto (t := 15) q211_11 (by rfl) ?_
  refine wp_ireturn q211_15 (by rfl) (by rfl) ?_
  refine wK_v ?_
  refine wp_iff (t := 37) q273_8 (by rfl) (by rfl) ?_
  refine wp_iload_n q273_11 (by rfl) ?_
  refine wp_iconst q273_12 ?_
  refine wp_bipush q273_13 ?_
  refine wp_static q273_15 (by decide) (Nat.le_of_ble_eq_true rfl) (by rfl) (by rfl) ⟨(Nat.le_of_ble_eq_true rfl), (Nat.le_of_ble_eq_true rfl), (Nat.le_of_ble_eq_true rfl)⟩ (Nat.le_of_ble_eq_true rfl) ?_
  refine wp_iload_n q211_0 (by rfl) ?_
  refine wp_iload_n q211_1 (by rfl) ?_
  refine wp_ict (t := 14) q211_2 e4 (by rfl) ?_
  refine wp_iconst q211_14 ?_
  refine wp_ireturn q211_15 (by rfl) (by rfl) ?_
  refine wK_v ?_
  refine wp_ift (t := 37) q273_18 (by rfl) (by rfl) ?_
  refine wp_iconst q273_37 ?_
  refine wp_istore q273_38 (Nat.le_of_ble_eq_true rfl) ?_
  refine wp_aload_n q273_40 (by rfl) ?_
  refine wp_iload_n q273_41 (by rfl) ?_
  refine wp_iconst q273_42 ?_
  refine wp_bipush q273_43 ?_
  refine wp_static q273_45 (by decide) (Nat.le_of_ble_eq_true rfl) (by rfl) (by rfl) ⟨(Nat.le_of_ble_eq_true rfl), (Nat.le_of_ble_eq_true rfl), (Nat.le_of_ble_eq_true rfl)⟩ (Nat.le_of_ble_eq_true rfl) ?_
  refine wp_iload_n q211_0 (by rfl) ?_
  refine wp_iload_n q211_1 (by rfl) ?_
  refine wp_icf (t := 14) q211_2 (by rfl) (by rfl) ?_
  refine wp_iload_n q211_5 (by rfl) ?_
  refine wp_iload_n q211_6 (by rfl) ?_
  refine wp_icf (t := 14) q211_7 (by rfl) (by rfl) ?_
  refine wp_iconst q211_10 ?_
  refine wp_goto (t := 15) q211_11 (by rfl) ?_
  refine wp_ireturn q211_15 (by rfl) (by rfl) ?_
  refine wK_v ?_
  refine wp_ift (t := 55) q273_48 (by rfl) (by rfl) ?_
  refine wp_iload q273_55 (by rfl) ?_
  refine wp_iff (t := 64) q273_57 (by rfl) (by rfl) ?_
  refine wp_iconst q273_60 ?_
  refine wp_goto (t := 65) q273_61 (by rfl) ?_
  refine wp_putfield q273_65 (by rfl) (Nat.le_of_ble_eq_true rfl) (by rfl) ?_
  refine wp_aload_n q273_68 (by rfl) ?_
  refine wp_getfield q273_69 (by rfl) (by rfl) ?_
  refine wp_iff (t := 77) q273_72 (by rfl) (by rfl) ?_
  refine wp_iconst q273_75 ?_
  refine wp_ireturn q273_76 (by rfl) (by rfl) ?_
  refine wK_v ?_
  refine wp_istore qL_2453 (Nat.le_of_ble_eq_true rfl) ?_
  refine wp_aload_n qL_2455 (by rfl) ?_
  refine wp_virtual qL_2456 (by decide) (Nat.le_of_ble_eq_true rfl) (by rfl) (by rfl) (by rfl) ⟨(Nat.le_of_ble_eq_true rfl), (Nat.le_of_ble_eq_true rfl), (Nat.le_of_ble_eq_true rfl)⟩ (Nat.le_of_ble_eq_true rfl) ?_
  refine wp_aload_n q209_0 (by rfl) ?_
  refine wp_getfield q209_1 (by rfl) (by rfl) ?_
  refine wp_ireturn q209_4 (by rfl) (by rfl) ?_
  refine wK_v ?_
  refine wp_iload qL_2459 (by rfl) ?_
  refine wp_ict (t := 2466) qL_2461 (by rfl) (by rfl) ?_
  refine wp_iload qL_2466 (by rfl) ?_
  refine wp_ift (t := 2483) qL_2468 (by rfl) (by rfl) ?_
  refine wp_goto (t := 3983) qL_2483 (by rfl) ?_
  refine wp_iinc qL_3983 (by rfl) (Nat.le_of_ble_eq_true rfl) ?_
  refine wp_goto (t := 28) qL_3986 (by rfl) ?_
  refine wp_iload qL_28 (by rfl) ?_
  refine wp_aload_ns qL_30 (by rfl) ?_
  refine wp_slen (n := 5) qL_31 rfl ?_
  refine wp_iconst qL_32 ?_
  refine wp_isub qL_33 ?_
  refine wp_ict (t := 3989) qL_34 (by rfl) (by rfl) ?_
  refine wp_iconst qL_3989 ?_
  refine wp_ireturn qL_3990 (by rfl) (by rfl) ?_
  rfl
theorem pt_35_15 {x0 x2 x3 x4 : Int32} (e0 : x0 &&& 63 = Int32.ofNat 35) (e1 : sC2 .lt x2 (0) = true) (e2 : sC2 .lt x3 (0) = false) (e3 : sC2 .gt x3 (1) = true) : wLaw [x0, (2), x2, x3, x4] := by
  unfold wLaw
  refine wp_iload qL_28 (by rfl) ?_
  refine wp_aload_ns qL_30 (by rfl) ?_
  refine wp_slen (n := 5) qL_31 rfl ?_
  refine wp_iconst qL_32 ?_
  refine wp_isub qL_33 ?_
  refine wp_icf (t := 3989) qL_34 (by rfl) (by rfl) ?_
  refine wp_aload_ns qL_37 (by rfl) ?_
  refine wp_iload qL_38 (by rfl) ?_
  refine wp_sload (x := x0) qL_40 (by rfl) (by rfl) ?_
  refine wp_bipush qL_41 ?_
  refine wp_iand qL_43 ?_
  refine wp_switch (t := 2406) qL_44 e0 (by rfl) ?_
  refine wp_aload_n qL_2406 (by rfl) ?_
  refine wp_aload_ns qL_2407 (by rfl) ?_
  refine wp_iload qL_2408 (by rfl) ?_
  refine wp_iconst qL_2410 ?_
  refine wp_iadd qL_2411 ?_
  refine wp_sload (x := (2)) qL_2412 (by rfl) (by rfl) ?_
  refine wp_aload_ns qL_2413 (by rfl) ?_
  refine wp_iload qL_2414 (by rfl) ?_
  refine wp_iconst qL_2416 ?_
  refine wp_iadd qL_2417 ?_
  refine wp_sload (x := x2) qL_2418 (by rfl) (by rfl) ?_
  refine wp_aload_ns qL_2419 (by rfl) ?_
  refine wp_iload qL_2420 (by rfl) ?_
  refine wp_iconst qL_2422 ?_
  refine wp_iadd qL_2423 ?_
  refine wp_sload (x := x3) qL_2424 (by rfl) (by rfl) ?_
  refine wp_aload_n qL_2425 (by rfl) ?_
  refine wp_static qL_2426 (by decide) (Nat.le_of_ble_eq_true rfl) (by rfl) (by rfl) ⟨(Nat.le_of_ble_eq_true rfl), (Nat.le_of_ble_eq_true rfl), (Nat.le_of_ble_eq_true rfl)⟩ (Nat.le_of_ble_eq_true rfl) ?_
  refine wp_aload q148_0 (by rfl) ?_
  refine wp_iconst q148_2 ?_
  refine wp_aload_n q148_3 (by rfl) ?_
  refine wp_iload_n q148_4 (by rfl) ?_
  refine wp_iload_n q148_5 (by rfl) ?_
  refine wp_iload_n q148_6 (by rfl) ?_
  refine wp_virtual q148_7 (by decide) (Nat.le_of_ble_eq_true rfl) (by rfl) (by rfl) (by rfl) ⟨(Nat.le_of_ble_eq_true rfl), (Nat.le_of_ble_eq_true rfl), (Nat.le_of_ble_eq_true rfl)⟩ (Nat.le_of_ble_eq_true rfl) ?_
  refine wp_aload_n q149_0 (by rfl) ?_
  refine wp_iload_n q149_1 (by rfl) ?_
  refine wp_virtual q149_2 (by decide) (Nat.le_of_ble_eq_true rfl) (by rfl) (by rfl) (by rfl) ⟨(Nat.le_of_ble_eq_true rfl), (Nat.le_of_ble_eq_true rfl), (Nat.le_of_ble_eq_true rfl)⟩ (Nat.le_of_ble_eq_true rfl) ?_
  refine wp_iload_n q146_0 (by rfl) ?_
  refine wp_iconst q146_1 ?_
  refine wp_bipush q146_2 ?_
  refine wp_static q146_4 (by decide) (Nat.le_of_ble_eq_true rfl) (by rfl) (by rfl) ⟨(Nat.le_of_ble_eq_true rfl), (Nat.le_of_ble_eq_true rfl), (Nat.le_of_ble_eq_true rfl)⟩ (Nat.le_of_ble_eq_true rfl) ?_
  refine wp_iload_n q47_0 (by rfl) ?_
  refine wp_iload_n q47_1 (by rfl) ?_
  refine wp_icf (t := 14) q47_2 (by rfl) (by rfl) ?_
  refine wp_iload_n q47_5 (by rfl) ?_
  refine wp_iload_n q47_6 (by rfl) ?_
  refine wp_icf (t := 14) q47_7 (by rfl) (by rfl) ?_
  refine wp_iconst q47_10 ?_
  refine wp_goto (t := 15) q47_11 (by rfl) ?_
  refine wp_ireturn q47_15 (by rfl) (by rfl) ?_
  refine wK_v ?_
  refine wp_ift (t := 21) q146_7 (by rfl) (by rfl) ?_
  refine wp_return q146_21 (by rfl) ?_
  refine wK_n ?_
  refine wp_aload_n q149_5 (by rfl) ?_
  refine wp_virtual q149_6 (by decide) (Nat.le_of_ble_eq_true rfl) (by rfl) (by rfl) (by rfl) ⟨(Nat.le_of_ble_eq_true rfl), (Nat.le_of_ble_eq_true rfl), (Nat.le_of_ble_eq_true rfl)⟩ (Nat.le_of_ble_eq_true rfl) ?_
  refine wp_iconst q12_0 ?_
  refine wp_istore_n q12_1 (Nat.le_of_ble_eq_true rfl) ?_
  refine wp_iconst q12_2 ?_
  refine wp_istore_n q12_3 (Nat.le_of_ble_eq_true rfl) ?_
  refine wp_iload_n q12_4 (by rfl) ?_
  refine wp_aload_n q12_5 (by rfl) ?_
  refine wp_getfield q12_6 (by rfl) (by rfl) ?_
  refine wp_ict (t := 34) q12_9 (by rfl) (by rfl) ?_
  refine wp_iload_n q12_34 (by rfl) ?_
  refine wp_ireturn q12_35 (by rfl) (by rfl) ?_
  refine wK_v ?_
  refine wp_istore q149_9 (Nat.le_of_ble_eq_true rfl) ?_
  refine wp_iload_n q149_11 (by rfl) ?_
  refine wp_iconst q149_12 ?_
  refine wp_iload_n q149_13 (by rfl) ?_
  refine wp_iload q149_14 (by rfl) ?_
  refine wp_static q149_16 (by decide) (Nat.le_of_ble_eq_true rfl) (by rfl) (by rfl) ⟨(Nat.le_of_ble_eq_true rfl), (Nat.le_of_ble_eq_true rfl), (Nat.le_of_ble_eq_true rfl)⟩ (Nat.le_of_ble_eq_true rfl) ?_
  refine wp_iload_n q147_0 (by rfl) ?_
  refine wp_iff (t := 14) q147_1 (by rfl) (by rfl) ?_
  refine wp_iload_n q147_4 (by rfl) ?_
  refine wp_iload_n q147_5 (by rfl) ?_
  refine wp_iadd q147_6 ?_
  refine wp_iconst q147_7 ?_
  refine wp_isub q147_8 ?_
  refine wp_iload_n q147_9 (by rfl) ?_
  refine wp_idiv q147_10 (by decide) ?_
  refine wp_goto (t := 15) q147_11 (by rfl) ?_
  refine wp_ireturn q147_15 (by rfl) (by rfl) ?_
  refine wK_v ?_
  refine wp_iconst q149_19 ?_
  refine wp_isub q149_20 ?_
  refine wp_static q149_21 (by decide) (Nat.le_of_ble_eq_true rfl) (by rfl) (by rfl) ⟨(Nat.le_of_ble_eq_true rfl), (Nat.le_of_ble_eq_true rfl), (Nat.le_of_ble_eq_true rfl)⟩ (Nat.le_of_ble_eq_true rfl) ?_
  refine wp_iload_n q47_0 (by rfl) ?_
  refine wp_iload_n q47_1 (by rfl) ?_
  refine wp_ict (t := 14) q47_2 e1 (by rfl) ?_
  refine wp_iconst q47_14 ?_
  refine wp_ireturn q47_15 (by rfl) (by rfl) ?_
  refine wK_v ?_
  refine wp_ift (t := 38) q149_24 (by rfl) (by rfl) ?_
  refine wp_throw q149_38 (by decide) ⟨(Nat.le_of_ble_eq_true rfl), (Nat.le_of_ble_eq_true rfl), (Nat.le_of_ble_eq_true rfl)⟩ ?_
  refine wK_c (by rfl) (by rfl) (by decide) (by rfl) ?_
  refine wp_iconst q148_21 ?_
  refine wp_ireturn q148_22 (by rfl) (by rfl) ?_
  refine wK_v ?_
  refine wp_istore qL_2429 (Nat.le_of_ble_eq_true rfl) ?_
  refine wp_aload_n qL_2431 (by rfl) ?_
  refine wp_aload_ns qL_2432 (by rfl) ?_
  refine wp_iload qL_2433 (by rfl) ?_
  refine wp_iconst qL_2435 ?_
  refine wp_iadd qL_2436 ?_
  refine wp_sload (x := (2)) qL_2437 (by rfl) (by rfl) ?_
  refine wp_aload_ns qL_2438 (by rfl) ?_
  refine wp_iload qL_2439 (by rfl) ?_
  refine wp_iconst qL_2441 ?_
  refine wp_iadd qL_2442 ?_
  refine wp_sload (x := x2) qL_2443 (by rfl) (by rfl) ?_
  refine wp_aload_ns qL_2444 (by rfl) ?_
  refine wp_iload qL_2445 (by rfl) ?_
  refine wp_iconst qL_2447 ?_
  refine wp_iadd qL_2448 ?_
  refine wp_sload (x := x3) qL_2449 (by rfl) (by rfl) ?_
  refine wp_virtual qL_2450 (by decide) (Nat.le_of_ble_eq_true rfl) (by rfl) (by rfl) (by rfl) ⟨(Nat.le_of_ble_eq_true rfl), (Nat.le_of_ble_eq_true rfl), (Nat.le_of_ble_eq_true rfl)⟩ (Nat.le_of_ble_eq_true rfl) ?_
  refine wp_iload_n q273_0 (by rfl) ?_
  refine wp_iconst q273_1 ?_
  refine wp_iload_n q273_2 (by rfl) ?_
  refine wp_iconst q273_3 ?_
  refine wp_isub q273_4 ?_
  refine wp_static q273_5 (by decide) (Nat.le_of_ble_eq_true rfl) (by rfl) (by rfl) ⟨(Nat.le_of_ble_eq_true rfl), (Nat.le_of_ble_eq_true rfl), (Nat.le_of_ble_eq_true rfl)⟩ (Nat.le_of_ble_eq_true rfl) ?_
  refine wp_iload_n q211_0 (by rfl) ?_
  refine wp_iload_n q211_1 (by rfl) ?_
  refine wp_icf (t := 14) q211_2 e2 (by rfl) ?_
  refine wp_iload_n q211_5 (by rfl) ?_
  refine wp_iload_n q211_6 (by rfl) ?_
  refine wp_ict (t := 14) q211_7 e3 (by rfl) ?_
  refine wp_iconst q211_14 ?_
  refine wp_ireturn q211_15 (by rfl) (by rfl) ?_
  refine wK_v ?_
  refine wp_ift (t := 37) q273_8 (by rfl) (by rfl) ?_
  refine wp_iconst q273_37 ?_
  refine wp_istore q273_38 (Nat.le_of_ble_eq_true rfl) ?_
  refine wp_aload_n q273_40 (by rfl) ?_
  refine wp_iload_n q273_41 (by rfl) ?_
  refine wp_iconst q273_42 ?_
  refine wp_bipush q273_43 ?_
  refine wp_static q273_45 (by decide) (Nat.le_of_ble_eq_true rfl) (by rfl) (by rfl) ⟨(Nat.le_of_ble_eq_true rfl), (Nat.le_of_ble_eq_true rfl), (Nat.le_of_ble_eq_true rfl)⟩ (Nat.le_of_ble_eq_true rfl) ?_
  refine wp_iload_n q211_0 (by rfl) ?_
  refine wp_iload_n q211_1 (by rfl) ?_
  refine wp_icf (t := 14) q211_2 (by rfl) (by rfl) ?_
  refine wp_iload_n q211_5 (by rfl) ?_
  refine wp_iload_n q211_6 (by rfl) ?_
  refine wp_icf (t := 14) q211_7 (by rfl) (by rfl) ?_
  refine wp_iconst q211_10 ?_
  refine wp_goto (t := 15) q211_11 (by rfl) ?_
  refine wp_ireturn q211_15 (by rfl) (by rfl) ?_
  refine wK_v ?_
  refine wp_ift (t := 55) q273_48 (by rfl) (by rfl) ?_
  refine wp_iload q273_55 (by rfl) ?_
  refine wp_iff (t := 64) q273_57 (by rfl) (by rfl) ?_
  refine wp_iconst q273_60 ?_
  refine wp_goto (t := 65) q273_61 (by rfl) ?_
  refine wp_putfield q273_65 (by rfl) (Nat.le_of_ble_eq_true rfl) (by rfl) ?_
  refine wp_aload_n q273_68 (by rfl) ?_
  refine wp_getfield q273_69 (by rfl) (by rfl) ?_
  refine wp_iff (t := 77) q273_72 (by rfl) (by rfl) ?_
  refine wp_iconst q273_75 ?_
  refine wp_ireturn q273_76 (by rfl) (by rfl) ?_
  refine wK_v ?_
  refine wp_istore qL_2453 (Nat.le_of_ble_eq_true rfl) ?_
  refine wp_aload_n qL_2455 (by rfl) ?_
  refine wp_virtual qL_2456 (by decide) (Nat.le_of_ble_eq_true rfl) (by rfl) (by rfl) (by rfl) ⟨(Nat.le_of_ble_eq_true rfl), (Nat.le_of_ble_eq_true rfl), (Nat.le_of_ble_eq_true rfl)⟩ (Nat.le_of_ble_eq_true rfl) ?_
  refine wp_aload_n q209_0 (by rfl) ?_
  refine wp_getfield q209_1 (by rfl) (by rfl) ?_
  refine wp_ireturn q209_4 (by rfl) (by rfl) ?_
  refine wK_v ?_
  refine wp_iload qL_2459 (by rfl) ?_
  refine wp_ict (t := 2466) qL_2461 (by rfl) (by rfl) ?_
  refine wp_iload qL_2466 (by rfl) ?_
  refine wp_ift (t := 2483) qL_2468 (by rfl) (by rfl) ?_
  refine wp_goto (t := 3983) qL_2483 (by rfl) ?_
  refine wp_iinc qL_3983 (by rfl) (Nat.le_of_ble_eq_true rfl) ?_
  refine wp_goto (t := 28) qL_3986 (by rfl) ?_
  refine wp_iload qL_28 (by rfl) ?_
  refine wp_aload_ns qL_30 (by rfl) ?_
  refine wp_slen (n := 5) qL_31 rfl ?_
  refine wp_iconst qL_32 ?_
  refine wp_isub qL_33 ?_
  refine wp_ict (t := 3989) qL_34 (by rfl) (by rfl) ?_
  refine wp_iconst qL_3989 ?_
  refine wp_ireturn qL_3990 (by rfl) (by rfl) ?_
  rfl
theorem pt_35_16 {x0 x2 x3 x4 : Int32} (e0 : x0 &&& 63 = Int32.ofNat 35) (e1 : sC2 .lt x2 (0) = false) (e2 : sC2 .gt x2 (-1) = true) (e3 : sC2 .lt x3 (0) = true) : wLaw [x0, (2), x2, x3, x4] := by
  unfold wLaw
  refine wp_iload qL_28 (by rfl) ?_
  refine wp_aload_ns qL_30 (by rfl) ?_
  refine wp_slen (n := 5) qL_31 rfl ?_
  refine wp_iconst qL_32 ?_
  refine wp_isub qL_33 ?_
  refine wp_icf (t := 3989) qL_34 (by rfl) (by rfl) ?_
  refine wp_aload_ns qL_37 (by rfl) ?_
  refine wp_iload qL_38 (by rfl) ?_
  refine wp_sload (x := x0) qL_40 (by rfl) (by rfl) ?_
  refine wp_bipush qL_41 ?_
  refine wp_iand qL_43 ?_
  refine wp_switch (t := 2406) qL_44 e0 (by rfl) ?_
  refine wp_aload_n qL_2406 (by rfl) ?_
  refine wp_aload_ns qL_2407 (by rfl) ?_
  refine wp_iload qL_2408 (by rfl) ?_
  refine wp_iconst qL_2410 ?_
  refine wp_iadd qL_2411 ?_
  refine wp_sload (x := (2)) qL_2412 (by rfl) (by rfl) ?_
  refine wp_aload_ns qL_2413 (by rfl) ?_
  refine wp_iload qL_2414 (by rfl) ?_
  refine wp_iconst qL_2416 ?_
  refine wp_iadd qL_2417 ?_
  refine wp_sload (x := x2) qL_2418 (by rfl) (by rfl) ?_
  refine wp_aload_ns qL_2419 (by rfl) ?_
  refine wp_iload qL_2420 (by rfl) ?_
  refine wp_iconst qL_2422 ?_
  refine wp_iadd qL_2423 ?_
  refine wp_sload (x := x3) qL_2424 (by rfl) (by rfl) ?_
  refine wp_aload_n qL_2425 (by rfl) ?_
  refine wp_static qL_2426 (by decide) (Nat.le_of_ble_eq_true rfl) (by rfl) (by rfl) ⟨(Nat.le_of_ble_eq_true rfl), (Nat.le_of_ble_eq_true rfl), (Nat.le_of_ble_eq_true rfl)⟩ (Nat.le_of_ble_eq_true rfl) ?_
  refine wp_aload q148_0 (by rfl) ?_
  refine wp_iconst q148_2 ?_
  refine wp_aload_n q148_3 (by rfl) ?_
  refine wp_iload_n q148_4 (by rfl) ?_
  refine wp_iload_n q148_5 (by rfl) ?_
  refine wp_iload_n q148_6 (by rfl) ?_
  refine wp_virtual q148_7 (by decide) (Nat.le_of_ble_eq_true rfl) (by rfl) (by rfl) (by rfl) ⟨(Nat.le_of_ble_eq_true rfl), (Nat.le_of_ble_eq_true rfl), (Nat.le_of_ble_eq_true rfl)⟩ (Nat.le_of_ble_eq_true rfl) ?_
  refine wp_aload_n q149_0 (by rfl) ?_
  refine wp_iload_n q149_1 (by rfl) ?_
  refine wp_virtual q149_2 (by decide) (Nat.le_of_ble_eq_true rfl) (by rfl) (by rfl) (by rfl) ⟨(Nat.le_of_ble_eq_true rfl), (Nat.le_of_ble_eq_true rfl), (Nat.le_of_ble_eq_true rfl)⟩ (Nat.le_of_ble_eq_true rfl) ?_
  refine wp_iload_n q146_0 (by rfl) ?_
  refine wp_iconst q146_1 ?_
  refine wp_bipush q146_2 ?_
  refine wp_static q146_4 (by decide) (Nat.le_of_ble_eq_true rfl) (by rfl) (by rfl) ⟨(Nat.le_of_ble_eq_true rfl), (Nat.le_of_ble_eq_true rfl), (Nat.le_of_ble_eq_true rfl)⟩ (Nat.le_of_ble_eq_true rfl) ?_
  refine wp_iload_n q47_0 (by rfl) ?_
  refine wp_iload_n q47_1 (by rfl) ?_
  refine wp_icf (t := 14) q47_2 (by rfl) (by rfl) ?_
  refine wp_iload_n q47_5 (by rfl) ?_
  refine wp_iload_n q47_6 (by rfl) ?_
  refine wp_icf (t := 14) q47_7 (by rfl) (by rfl) ?_
  refine wp_iconst q47_10 ?_
  refine wp_goto (t := 15) q47_11 (by rfl) ?_
  refine wp_ireturn q47_15 (by rfl) (by rfl) ?_
  refine wK_v ?_
  refine wp_ift (t := 21) q146_7 (by rfl) (by rfl) ?_
  refine wp_return q146_21 (by rfl) ?_
  refine wK_n ?_
  refine wp_aload_n q149_5 (by rfl) ?_
  refine wp_virtual q149_6 (by decide) (Nat.le_of_ble_eq_true rfl) (by rfl) (by rfl) (by rfl) ⟨(Nat.le_of_ble_eq_true rfl), (Nat.le_of_ble_eq_true rfl), (Nat.le_of_ble_eq_true rfl)⟩ (Nat.le_of_ble_eq_true rfl) ?_
  refine wp_iconst q12_0 ?_
  refine wp_istore_n q12_1 (Nat.le_of_ble_eq_true rfl) ?_
  refine wp_iconst q12_2 ?_
  refine wp_istore_n q12_3 (Nat.le_of_ble_eq_true rfl) ?_
  refine wp_iload_n q12_4 (by rfl) ?_
  refine wp_aload_n q12_5 (by rfl) ?_
  refine wp_getfield q12_6 (by rfl) (by rfl) ?_
  refine wp_ict (t := 34) q12_9 (by rfl) (by rfl) ?_
  refine wp_iload_n q12_34 (by rfl) ?_
  refine wp_ireturn q12_35 (by rfl) (by rfl) ?_
  refine wK_v ?_
  refine wp_istore q149_9 (Nat.le_of_ble_eq_true rfl) ?_
  refine wp_iload_n q149_11 (by rfl) ?_
  refine wp_iconst q149_12 ?_
  refine wp_iload_n q149_13 (by rfl) ?_
  refine wp_iload q149_14 (by rfl) ?_
  refine wp_static q149_16 (by decide) (Nat.le_of_ble_eq_true rfl) (by rfl) (by rfl) ⟨(Nat.le_of_ble_eq_true rfl), (Nat.le_of_ble_eq_true rfl), (Nat.le_of_ble_eq_true rfl)⟩ (Nat.le_of_ble_eq_true rfl) ?_
  refine wp_iload_n q147_0 (by rfl) ?_
  refine wp_iff (t := 14) q147_1 (by rfl) (by rfl) ?_
  refine wp_iload_n q147_4 (by rfl) ?_
  refine wp_iload_n q147_5 (by rfl) ?_
  refine wp_iadd q147_6 ?_
  refine wp_iconst q147_7 ?_
  refine wp_isub q147_8 ?_
  refine wp_iload_n q147_9 (by rfl) ?_
  refine wp_idiv q147_10 (by decide) ?_
  refine wp_goto (t := 15) q147_11 (by rfl) ?_
  refine wp_ireturn q147_15 (by rfl) (by rfl) ?_
  refine wK_v ?_
  refine wp_iconst q149_19 ?_
  refine wp_isub q149_20 ?_
  refine wp_static q149_21 (by decide) (Nat.le_of_ble_eq_true rfl) (by rfl) (by rfl) ⟨(Nat.le_of_ble_eq_true rfl), (Nat.le_of_ble_eq_true rfl), (Nat.le_of_ble_eq_true rfl)⟩ (Nat.le_of_ble_eq_true rfl) ?_
  refine wp_iload_n q47_0 (by rfl) ?_
  refine wp_iload_n q47_1 (by rfl) ?_
  refine wp_icf (t := 14) q47_2 e1 (by rfl) ?_
  refine wp_iload_n q47_5 (by rfl) ?_
  refine wp_iload_n q47_6 (by rfl) ?_
  refine wp_ict (t := 14) q47_7 e2 (by rfl) ?_
  refine wp_iconst q47_14 ?_
  refine wp_ireturn q47_15 (by rfl) (by rfl) ?_
  refine wK_v ?_
  refine wp_ift (t := 38) q149_24 (by rfl) (by rfl) ?_
  refine wp_throw q149_38 (by decide) ⟨(Nat.le_of_ble_eq_true rfl), (Nat.le_of_ble_eq_true rfl), (Nat.le_of_ble_eq_true rfl)⟩ ?_
  refine wK_c (by rfl) (by rfl) (by decide) (by rfl) ?_
  refine wp_iconst q148_21 ?_
  refine wp_ireturn q148_22 (by rfl) (by rfl) ?_
  refine wK_v ?_
  refine wp_istore qL_2429 (Nat.le_of_ble_eq_true rfl) ?_
  refine wp_aload_n qL_2431 (by rfl) ?_
  refine wp_aload_ns qL_2432 (by rfl) ?_
  refine wp_iload qL_2433 (by rfl) ?_
  refine wp_iconst qL_2435 ?_
  refine wp_iadd qL_2436 ?_
  refine wp_sload (x := (2)) qL_2437 (by rfl) (by rfl) ?_
  refine wp_aload_ns qL_2438 (by rfl) ?_
  refine wp_iload qL_2439 (by rfl) ?_
  refine wp_iconst qL_2441 ?_
  refine wp_iadd qL_2442 ?_
  refine wp_sload (x := x2) qL_2443 (by rfl) (by rfl) ?_
  refine wp_aload_ns qL_2444 (by rfl) ?_
  refine wp_iload qL_2445 (by rfl) ?_
  refine wp_iconst qL_2447 ?_
  refine wp_iadd qL_2448 ?_
  refine wp_sload (x := x3) qL_2449 (by rfl) (by rfl) ?_
  refine wp_virtual qL_2450 (by decide) (Nat.le_of_ble_eq_true rfl) (by rfl) (by rfl) (by rfl) ⟨(Nat.le_of_ble_eq_true rfl), (Nat.le_of_ble_eq_true rfl), (Nat.le_of_ble_eq_true rfl)⟩ (Nat.le_of_ble_eq_true rfl) ?_
  refine wp_iload_n q273_0 (by rfl) ?_
  refine wp_iconst q273_1 ?_
  refine wp_iload_n q273_2 (by rfl) ?_
  refine wp_iconst q273_3 ?_
  refine wp_isub q273_4 ?_
  refine wp_static q273_5 (by decide) (Nat.le_of_ble_eq_true rfl) (by rfl) (by rfl) ⟨(Nat.le_of_ble_eq_true rfl), (Nat.le_of_ble_eq_true rfl), (Nat.le_of_ble_eq_true rfl)⟩ (Nat.le_of_ble_eq_true rfl) ?_
  refine wp_iload_n q211_0 (by rfl) ?_
  refine wp_iload_n q211_1 (by rfl) ?_
  refine wp_ict (t := 14) q211_2 e3 (by rfl) ?_
  refine wp_iconst q211_14 ?_
  refine wp_ireturn q211_15 (by rfl) (by rfl) ?_
  refine wK_v ?_
  refine wp_ift (t := 37) q273_8 (by rfl) (by rfl) ?_
  refine wp_iconst q273_37 ?_
  refine wp_istore q273_38 (Nat.le_of_ble_eq_true rfl) ?_
  refine wp_aload_n q273_40 (by rfl) ?_
  refine wp_iload_n q273_41 (by rfl) ?_
  refine wp_iconst q273_42 ?_
  refine wp_bipush q273_43 ?_
  refine wp_static q273_45 (by decide) (Nat.le_of_ble_eq_true rfl) (by rfl) (by rfl) ⟨(Nat.le_of_ble_eq_true rfl), (Nat.le_of_ble_eq_true rfl), (Nat.le_of_ble_eq_true rfl)⟩ (Nat.le_of_ble_eq_true rfl) ?_
  refine wp_iload_n q211_0 (by rfl) ?_
  refine wp_iload_n q211_1 (by rfl) ?_
  refine wp_icf (t := 14) q211_2 (by rfl) (by rfl) ?_
  refine wp_iload_n q211_5 (by rfl) ?_
  refine wp_iload_n q211_6 (by rfl) ?_
  refine wp_icf (t := 14) q211_7 (by rfl) (by rfl) ?_
  refine wp_iconst q211_10 ?_
  refine wp_goto (t := 15) q211_11 (by rfl) ?_
  refine wp_ireturn q211_15 (by rfl) (by rfl) ?_
  refine wK_v ?_
  refine wp_ift (t := 55) q273_48 (by rfl) (by rfl) ?_
  refine wp_iload q273_55 (by rfl) ?_
  refine wp_iff (t := 64) q273_57 (by rfl) (by rfl) ?_
  refine wp_iconst q273_60 ?_
  refine wp_goto (t := 65) q273_61 (by rfl) ?_
  refine wp_putfield q273_65 (by rfl) (Nat.le_of_ble_eq_true rfl) (by rfl) ?_
  refine wp_aload_n q273_68 (by rfl) ?_
  refine wp_getfield q273_69 (by rfl) (by rfl) ?_
  refine wp_iff (t := 77) q273_72 (by rfl) (by rfl) ?_
  refine wp_iconst q273_75 ?_
  refine wp_ireturn q273_76 (by rfl) (by rfl) ?_
  refine wK_v ?_
  refine wp_istore qL_2453 (Nat.le_of_ble_eq_true rfl) ?_
  refine wp_aload_n qL_2455 (by rfl) ?_
  refine wp_virtual qL_2456 (by decide) (Nat.le_of_ble_eq_true rfl) (by rfl) (by rfl) (by rfl) ⟨(Nat.le_of_ble_eq_true rfl), (Nat.le_of_ble_eq_true rfl), (Nat.le_of_ble_eq_true rfl)⟩ (Nat.le_of_ble_eq_true rfl) ?_
  refine wp_aload_n q209_0 (by rfl) ?_
  refine wp_getfield q209_1 (by rfl) (by rfl) ?_
  refine wp_ireturn q209_4 (by rfl) (by rfl) ?_
  refine wK_v ?_
  refine wp_iload qL_2459 (by rfl) ?_
  refine wp_ict (t := 2466) qL_2461 (by rfl) (by rfl) ?_
  refine wp_iload qL_2466 (by rfl) ?_
  refine wp_ift (t := 2483) qL_2468 (by rfl) (by rfl) ?_
  refine wp_goto (t := 3983) qL_2483 (by rfl) ?_
  refine wp_iinc qL_3983 (by rfl) (Nat.le_of_ble_eq_true rfl) ?_
  refine wp_goto (t := 28) qL_3986 (by rfl) ?_
  refine wp_iload qL_28 (by rfl) ?_
  refine wp_aload_ns qL_30 (by rfl) ?_
  refine wp_slen (n := 5) qL_31 rfl ?_
  refine wp_iconst qL_32 ?_
  refine wp_isub qL_33 ?_
  refine wp_ict (t := 3989) qL_34 (by rfl) (by rfl) ?_
  refine wp_iconst qL_3989 ?_
  refine wp_ireturn qL_3990 (by rfl) (by rfl) ?_
  rfl
theorem pt_35_17 {x0 x2 x3 x4 : Int32} (e0 : x0 &&& 63 = Int32.ofNat 35) (e1 : sC2 .lt x2 (0) = false) (e2 : sC2 .gt x2 (-1) = true) (e3 : sC2 .lt x3 (0) = false) (e4 : sC2 .gt x3 (1) = false) (e5 : sC2 .lt x2 (0) = false) (e6 : sC2 .gt x2 (9) = false) (e7 : sC2 .ge ((x2 * (2)) + x3) (0) = true) : wLaw [x0, (2), x2, x3, x4] := by
  unfold wLaw
  refine wp_iload qL_28 (by rfl) ?_
  refine wp_aload_ns qL_30 (by rfl) ?_
  refine wp_slen (n := 5) qL_31 rfl ?_
  refine wp_iconst qL_32 ?_
  refine wp_isub qL_33 ?_
  refine wp_icf (t := 3989) qL_34 (by rfl) (by rfl) ?_
  refine wp_aload_ns qL_37 (by rfl) ?_
  refine wp_iload qL_38 (by rfl) ?_
  refine wp_sload (x := x0) qL_40 (by rfl) (by rfl) ?_
  refine wp_bipush qL_41 ?_
  refine wp_iand qL_43 ?_
  refine wp_switch (t := 2406) qL_44 e0 (by rfl) ?_
  refine wp_aload_n qL_2406 (by rfl) ?_
  refine wp_aload_ns qL_2407 (by rfl) ?_
  refine wp_iload qL_2408 (by rfl) ?_
  refine wp_iconst qL_2410 ?_
  refine wp_iadd qL_2411 ?_
  refine wp_sload (x := (2)) qL_2412 (by rfl) (by rfl) ?_
  refine wp_aload_ns qL_2413 (by rfl) ?_
  refine wp_iload qL_2414 (by rfl) ?_
  refine wp_iconst qL_2416 ?_
  refine wp_iadd qL_2417 ?_
  refine wp_sload (x := x2) qL_2418 (by rfl) (by rfl) ?_
  refine wp_aload_ns qL_2419 (by rfl) ?_
  refine wp_iload qL_2420 (by rfl) ?_
  refine wp_iconst qL_2422 ?_
  refine wp_iadd qL_2423 ?_
  refine wp_sload (x := x3) qL_2424 (by rfl) (by rfl) ?_
  refine wp_aload_n qL_2425 (by rfl) ?_
  refine wp_static qL_2426 (by decide) (Nat.le_of_ble_eq_true rfl) (by rfl) (by rfl) ⟨(Nat.le_of_ble_eq_true rfl), (Nat.le_of_ble_eq_true rfl), (Nat.le_of_ble_eq_true rfl)⟩ (Nat.le_of_ble_eq_true rfl) ?_
  refine wp_aload q148_0 (by rfl) ?_
  refine wp_iconst q148_2 ?_
  refine wp_aload_n q148_3 (by rfl) ?_
  refine wp_iload_n q148_4 (by rfl) ?_
  refine wp_iload_n q148_5 (by rfl) ?_
  refine wp_iload_n q148_6 (by rfl) ?_
  refine wp_virtual q148_7 (by decide) (Nat.le_of_ble_eq_true rfl) (by rfl) (by rfl) (by rfl) ⟨(Nat.le_of_ble_eq_true rfl), (Nat.le_of_ble_eq_true rfl), (Nat.le_of_ble_eq_true rfl)⟩ (Nat.le_of_ble_eq_true rfl) ?_
  refine wp_aload_n q149_0 (by rfl) ?_
  refine wp_iload_n q149_1 (by rfl) ?_
  refine wp_virtual q149_2 (by decide) (Nat.le_of_ble_eq_true rfl) (by rfl) (by rfl) (by rfl) ⟨(Nat.le_of_ble_eq_true rfl), (Nat.le_of_ble_eq_true rfl), (Nat.le_of_ble_eq_true rfl)⟩ (Nat.le_of_ble_eq_true rfl) ?_
  refine wp_iload_n q146_0 (by rfl) ?_
  refine wp_iconst q146_1 ?_
  refine wp_bipush q146_2 ?_
  refine wp_static q146_4 (by decide) (Nat.le_of_ble_eq_true rfl) (by rfl) (by rfl) ⟨(Nat.le_of_ble_eq_true rfl), (Nat.le_of_ble_eq_true rfl), (Nat.le_of_ble_eq_true rfl)⟩ (Nat.le_of_ble_eq_true rfl) ?_
  refine wp_iload_n q47_0 (by rfl) ?_
  refine wp_iload_n q47_1 (by rfl) ?_
  refine wp_icf (t := 14) q47_2 (by rfl) (by rfl) ?_
  refine wp_iload_n q47_5 (by rfl) ?_
  refine wp_iload_n q47_6 (by rfl) ?_
  refine wp_icf (t := 14) q47_7 (by rfl) (by rfl) ?_
  refine wp_iconst q47_10 ?_
  refine wp_goto (t := 15) q47_11 (by rfl) ?_
  refine wp_ireturn q47_15 (by rfl) (by rfl) ?_
  refine wK_v ?_
  refine wp_ift (t := 21) q146_7 (by rfl) (by rfl) ?_
  refine wp_return q146_21 (by rfl) ?_
  refine wK_n ?_
  refine wp_aload_n q149_5 (by rfl) ?_
  refine wp_virtual q149_6 (by decide) (Nat.le_of_ble_eq_true rfl) (by rfl) (by rfl) (by rfl) ⟨(Nat.le_of_ble_eq_true rfl), (Nat.le_of_ble_eq_true rfl), (Nat.le_of_ble_eq_true rfl)⟩ (Nat.le_of_ble_eq_true rfl) ?_
  refine wp_iconst q12_0 ?_
  refine wp_istore_n q12_1 (Nat.le_of_ble_eq_true rfl) ?_
  refine wp_iconst q12_2 ?_
  refine wp_istore_n q12_3 (Nat.le_of_ble_eq_true rfl) ?_
  refine wp_iload_n q12_4 (by rfl) ?_
  refine wp_aload_n q12_5 (by rfl) ?_
  refine wp_getfield q12_6 (by rfl) (by rfl) ?_
  refine wp_ict (t := 34) q12_9 (by rfl) (by rfl) ?_
  refine wp_iload_n q12_34 (by rfl) ?_
  refine wp_ireturn q12_35 (by rfl) (by rfl) ?_
  refine wK_v ?_
  refine wp_istore q149_9 (Nat.le_of_ble_eq_true rfl) ?_
  refine wp_iload_n q149_11 (by rfl) ?_
  refine wp_iconst q149_12 ?_
  refine wp_iload_n q149_13 (by rfl) ?_
  refine wp_iload q149_14 (by rfl) ?_
  refine wp_static q149_16 (by decide) (Nat.le_of_ble_eq_true rfl) (by rfl) (by rfl) ⟨(Nat.le_of_ble_eq_true rfl), (Nat.le_of_ble_eq_true rfl), (Nat.le_of_ble_eq_true rfl)⟩ (Nat.le_of_ble_eq_true rfl) ?_
  refine wp_iload_n q147_0 (by rfl) ?_
  refine wp_iff (t := 14) q147_1 (by rfl) (by rfl) ?_
  refine wp_iload_n q147_4 (by rfl) ?_
  refine wp_iload_n q147_5 (by rfl) ?_
  refine wp_iadd q147_6 ?_
  refine wp_iconst q147_7 ?_
  refine wp_isub q147_8 ?_
  refine wp_iload_n q147_9 (by rfl) ?_
  refine wp_idiv q147_10 (by decide) ?_
  refine wp_goto (t := 15) q147_11 (by rfl) ?_
  refine wp_ireturn q147_15 (by rfl) (by rfl) ?_
  refine wK_v ?_
  refine wp_iconst q149_19 ?_
  refine wp_isub q149_20 ?_
  refine wp_static q149_21 (by decide) (Nat.le_of_ble_eq_true rfl) (by rfl) (by rfl) ⟨(Nat.le_of_ble_eq_true rfl), (Nat.le_of_ble_eq_true rfl), (Nat.le_of_ble_eq_true rfl)⟩ (Nat.le_of_ble_eq_true rfl) ?_
  refine wp_iload_n q47_0 (by rfl) ?_
  refine wp_iload_n q47_1 (by rfl) ?_
  refine wp_icf (t := 14) q47_2 e1 (by rfl) ?_
  refine wp_iload_n q47_5 (by rfl) ?_
  refine wp_iload_n q47_6 (by rfl) ?_
  refine wp_ict (t := 14) q47_7 e2 (by rfl) ?_
  refine wp_iconst q47_14 ?_
  refine wp_ireturn q47_15 (by rfl) (by rfl) ?_
  refine wK_v ?_
  refine wp_ift (t := 38) q149_24 (by rfl) (by rfl) ?_
  refine wp_throw q149_38 (by decide) ⟨(Nat.le_of_ble_eq_true rfl), (Nat.le_of_ble_eq_true rfl), (Nat.le_of_ble_eq_true rfl)⟩ ?_
  refine wK_c (by rfl) (by rfl) (by decide) (by rfl) ?_
  refine wp_iconst q148_21 ?_
  refine wp_ireturn q148_22 (by rfl) (by rfl) ?_
  refine wK_v ?_
  refine wp_istore qL_2429 (Nat.le_of_ble_eq_true rfl) ?_
  refine wp_aload_n qL_2431 (by rfl) ?_
  refine wp_aload_ns qL_2432 (by rfl) ?_
  refine wp_iload qL_2433 (by rfl) ?_
  refine wp_iconst qL_2435 ?_
  refine wp_iadd qL_2436 ?_
  refine wp_sload (x := (2)) qL_2437 (by rfl) (by rfl) ?_
  refine wp_aload_ns qL_2438 (by rfl) ?_
  refine wp_iload qL_2439 (by rfl) ?_
  refine wp_iconst qL_2441 ?_
  refine wp_iadd qL_2442 ?_
  refine wp_sload (x := x2) qL_2443 (by rfl) (by rfl) ?_
  refine wp_aload_ns qL_2444 (by rfl) ?_
  refine wp_iload qL_2445 (by rfl) ?_
  refine wp_iconst qL_2447 ?_
  refine wp_iadd qL_2448 ?_
  refine wp_sload (x := x3) qL_2449 (by rfl) (by rfl) ?_
  refine wp_virtual qL_2450 (by decide) (Nat.le_of_ble_eq_true rfl) (by rfl) (by rfl) (by rfl) ⟨(Nat.le_of_ble_eq_true rfl), (Nat.le_of_ble_eq_true rfl), (Nat.le_of_ble_eq_true rfl)⟩ (Nat.le_of_ble_eq_true rfl) ?_
  refine wp_iload_n q273_0 (by rfl) ?_
  refine wp_iconst q273_1 ?_
  refine wp_iload_n q273_2 (by rfl) ?_
  refine wp_iconst q273_3 ?_
  refine wp_isub q273_4 ?_
  refine wp_static q273_5 (by decide) (Nat.le_of_ble_eq_true rfl) (by rfl) (by rfl) ⟨(Nat.le_of_ble_eq_true rfl), (Nat.le_of_ble_eq_true rfl), (Nat.le_of_ble_eq_true rfl)⟩ (Nat.le_of_ble_eq_true rfl) ?_
  refine wp_iload_n q211_0 (by rfl) ?_
  refine wp_iload_n q211_1 (by rfl) ?_
  refine wp_icf (t := 14) q211_2 e3 (by rfl) ?_
  refine wp_iload_n q211_5 (by rfl) ?_
  refine wp_iload_n q211_6 (by rfl) ?_
  refine wp_icf (t := 14) q211_7 e4 (by rfl) ?_
  refine wp_iconst q211_10 ?_
  refine wp_goto (t := 15) q211_11 (by rfl) ?_
  refine wp_ireturn q211_15 (by rfl) (by rfl) ?_
  refine wK_v ?_
  refine wp_iff (t := 37) q273_8 (by rfl) (by rfl) ?_
  refine wp_iload_n q273_11 (by rfl) ?_
  refine wp_iconst q273_12 ?_
  refine wp_bipush q273_13 ?_
  refine wp_static q273_15 (by decide) (Nat.le_of_ble_eq_true rfl) (by rfl) (by rfl) ⟨(Nat.le_of_ble_eq_true rfl), (Nat.le_of_ble_eq_true rfl), (Nat.le_of_ble_eq_true rfl)⟩ (Nat.le_of_ble_eq_true rfl) ?_
  refine wp_iload_n q211_0 (by rfl) ?_
  refine wp_iload_n q211_1 (by rfl) ?_
  refine wp_icf (t := 14) q211_2 e5 (by rfl) ?_
  refine wp_iload_n q211_5 (by rfl) ?_
  refine wp_iload_n q211_6 (by rfl) ?_
  refine wp_icf (t := 14) q211_7 e6 (by rfl) ?_
  refine wp_iconst q211_10 ?_
  refine wp_goto (t := 15) q211_11 (by rfl) ?_
  refine wp_ireturn q211_15 (by rfl) (by rfl) ?_
  refine wK_v ?_
  refine wp_iff (t := 37) q273_18 (by rfl) (by rfl) ?_
  refine wp_iload_n q273_21 (by rfl) ?_
  refine wp_iload_n q273_22 (by rfl) ?_
  refine wp_imul q273_23 ?_
  refine wp_iload_n q273_24 (by rfl) ?_
  refine wp_iadd q273_25 ?_
  refine wp_aload_n q273_26 (by rfl) ?_
  refine wp_virtual q273_27 (by decide) (Nat.le_of_ble_eq_true rfl) (by rfl) (by rfl) (by rfl) ⟨(Nat.le_of_ble_eq_true rfl), (Nat.le_of_ble_eq_true rfl), (Nat.le_of_ble_eq_true rfl)⟩ (Nat.le_of_ble_eq_true rfl) ?_
  refine wp_iconst q247_0 ?_
  refine wp_istore_n q247_1 (Nat.le_of_ble_eq_true rfl) ?_
  refine wp_iconst q247_2 ?_
  refine wp_istore_n q247_3 (Nat.le_of_ble_eq_true rfl) ?_
  refine wp_iload_n q247_4 (by rfl) ?_
  refine wp_aload_n q247_5 (by rfl) ?_
  refine wp_getfield q247_6 (by rfl) (by rfl) ?_
  refine wp_ict (t := 34) q247_9 (by rfl) (by rfl) ?_
  refine wp_iload_n q247_34 (by rfl) ?_
  refine wp_ireturn q247_35 (by rfl) (by rfl) ?_
  refine wK_v ?_
  refine wp_ict (t := 37) q273_30 e7 (by rfl) ?_
  refine wp_iconst q273_37 ?_
  refine wp_istore q273_38 (Nat.le_of_ble_eq_true rfl) ?_
  refine wp_aload_n q273_40 (by rfl) ?_
  refine wp_iload_n q273_41 (by rfl) ?_
  refine wp_iconst q273_42 ?_
  refine wp_bipush q273_43 ?_
  refine wp_static q273_45 (by decide) (Nat.le_of_ble_eq_true rfl) (by rfl) (by rfl) ⟨(Nat.le_of_ble_eq_true rfl), (Nat.le_of_ble_eq_true rfl), (Nat.le_of_ble_eq_true rfl)⟩ (Nat.le_of_ble_eq_true rfl) ?_
  refine wp_iload_n q211_0 (by rfl) ?_
  refine wp_iload_n q211_1 (by rfl) ?_
  refine wp_icf (t := 14) q211_2 (by rfl) (by rfl) ?_
  refine wp_iload_n q211_5 (by rfl) ?_
  refine wp_iload_n q211_6 (by rfl) ?_
  refine wp_icf (t := 14) q211_7 (by rfl) (by rfl) ?_
  refine wp_iconst q211_10 ?_
  refine wp_goto (t := 15) q211_11 (by rfl) ?_
  refine wp_ireturn q211_15 (by rfl) (by rfl) ?_
  refine wK_v ?_
  refine wp_ift (t := 55) q273_48 (by rfl) (by rfl) ?_
  refine wp_iload q273_55 (by rfl) ?_
  refine wp_iff (t := 64) q273_57 (by rfl) (by rfl) ?_
  refine wp_iconst q273_60 ?_
  refine wp_goto (t := 65) q273_61 (by rfl) ?_
  refine wp_putfield q273_65 (by rfl) (Nat.le_of_ble_eq_true rfl) (by rfl) ?_
  refine wp_aload_n q273_68 (by rfl) ?_
  refine wp_getfield q273_69 (by rfl) (by rfl) ?_
  refine wp_iff (t := 77) q273_72 (by rfl) (by rfl) ?_
  refine wp_iconst q273_75 ?_
  refine wp_ireturn q273_76 (by rfl) (by rfl) ?_
  refine wK_v ?_
  refine wp_istore qL_2453 (Nat.le_of_ble_eq_true rfl) ?_
  refine wp_aload_n qL_2455 (by rfl) ?_
  refine wp_virtual qL_2456 (by decide) (Nat.le_of_ble_eq_true rfl) (by rfl) (by rfl) (by rfl) ⟨(Nat.le_of_ble_eq_true rfl), (Nat.le_of_ble_eq_true rfl), (Nat.le_of_ble_eq_true rfl)⟩ (Nat.le_of_ble_eq_true rfl) ?_
  refine wp_aload_n q209_0 (by rfl) ?_
  refine wp_getfield q209_1 (by rfl) (by rfl) ?_
  refine wp_ireturn q209_4 (by rfl) (by rfl) ?_
  refine wK_v ?_
  refine wp_iload qL_2459 (by rfl) ?_
  refine wp_ict (t := 2466) qL_2461 (by rfl) (by rfl) ?_
  refine wp_iload qL_2466 (by rfl) ?_
  refine wp_ift (t := 2483) qL_2468 (by rfl) (by rfl) ?_
  refine wp_goto (t := 3983) qL_2483 (by rfl) ?_
  refine wp_iinc qL_3983 (by rfl) (Nat.le_of_ble_eq_true rfl) ?_
  refine wp_goto (t := 28) qL_3986 (by rfl) ?_
  refine wp_iload qL_28 (by rfl) ?_
  refine wp_aload_ns qL_30 (by rfl) ?_
  refine wp_slen (n := 5) qL_31 rfl ?_
  refine wp_iconst qL_32 ?_
  refine wp_isub qL_33 ?_
  refine wp_ict (t := 3989) qL_34 (by rfl) (by rfl) ?_
  refine wp_iconst qL_3989 ?_
  refine wp_ireturn qL_3990 (by rfl) (by rfl) ?_
  rfl
theorem pt_35_18 {x0 x2 x3 x4 : Int32} (e0 : x0 &&& 63 = Int32.ofNat 35) (e1 : sC2 .lt x2 (0) = false) (e2 : sC2 .gt x2 (-1) = true) (e3 : sC2 .lt x3 (0) = false) (e4 : sC2 .gt x3 (1) = true) : wLaw [x0, (2), x2, x3, x4] := by
  unfold wLaw
  refine wp_iload qL_28 (by rfl) ?_
  refine wp_aload_ns qL_30 (by rfl) ?_
  refine wp_slen (n := 5) qL_31 rfl ?_
  refine wp_iconst qL_32 ?_
  refine wp_isub qL_33 ?_
  refine wp_icf (t := 3989) qL_34 (by rfl) (by rfl) ?_
  refine wp_aload_ns qL_37 (by rfl) ?_
  refine wp_iload qL_38 (by rfl) ?_
  refine wp_sload (x := x0) qL_40 (by rfl) (by rfl) ?_
  refine wp_bipush qL_41 ?_
  refine wp_iand qL_43 ?_
  refine wp_switch (t := 2406) qL_44 e0 (by rfl) ?_
  refine wp_aload_n qL_2406 (by rfl) ?_
  refine wp_aload_ns qL_2407 (by rfl) ?_
  refine wp_iload qL_2408 (by rfl) ?_
  refine wp_iconst qL_2410 ?_
  refine wp_iadd qL_2411 ?_
  refine wp_sload (x := (2)) qL_2412 (by rfl) (by rfl) ?_
  refine wp_aload_ns qL_2413 (by rfl) ?_
  refine wp_iload qL_2414 (by rfl) ?_
  refine wp_iconst qL_2416 ?_
  refine wp_iadd qL_2417 ?_
  refine wp_sload (x := x2) qL_2418 (by rfl) (by rfl) ?_
  refine wp_aload_ns qL_2419 (by rfl) ?_
  refine wp_iload qL_2420 (by rfl) ?_
  refine wp_iconst qL_2422 ?_
  refine wp_iadd qL_2423 ?_
  refine wp_sload (x := x3) qL_2424 (by rfl) (by rfl) ?_
  refine wp_aload_n qL_2425 (by rfl) ?_
  refine wp_static qL_2426 (by decide) (Nat.le_of_ble_eq_true rfl) (by rfl) (by rfl) ⟨(Nat.le_of_ble_eq_true rfl), (Nat.le_of_ble_eq_true rfl), (Nat.le_of_ble_eq_true rfl)⟩ (Nat.le_of_ble_eq_true rfl) ?_
  refine wp_aload q148_0 (by rfl) ?_
  refine wp_iconst q148_2 ?_
  refine wp_aload_n q148_3 (by rfl) ?_
  refine wp_iload_n q148_4 (by rfl) ?_
  refine wp_iload_n q148_5 (by rfl) ?_
  refine wp_iload_n q148_6 (by rfl) ?_
  refine wp_virtual q148_7 (by decide) (Nat.le_of_ble_eq_true rfl) (by rfl) (by rfl) (by rfl) ⟨(Nat.le_of_ble_eq_true rfl), (Nat.le_of_ble_eq_true rfl), (Nat.le_of_ble_eq_true rfl)⟩ (Nat.le_of_ble_eq_true rfl) ?_
  refine wp_aload_n q149_0 (by rfl) ?_
  refine wp_iload_n q149_1 (by rfl) ?_
  refine wp_virtual q149_2 (by decide) (Nat.le_of_ble_eq_true rfl) (by rfl) (by rfl) (by rfl) ⟨(Nat.le_of_ble_eq_true rfl), (Nat.le_of_ble_eq_true rfl), (Nat.le_of_ble_eq_true rfl)⟩ (Nat.le_of_ble_eq_true rfl) ?_
  refine wp_iload_n q146_0 (by rfl) ?_
  refine wp_iconst q146_1 ?_
  refine wp_bipush q146_2 ?_
  refine wp_static q146_4 (by decide) (Nat.le_of_ble_eq_true rfl) (by rfl) (by rfl) ⟨(Nat.le_of_ble_eq_true rfl), (Nat.le_of_ble_eq_true rfl), (Nat.le_of_ble_eq_true rfl)⟩ (Nat.le_of_ble_eq_true rfl) ?_
  refine wp_iload_n q47_0 (by rfl) ?_
  refine wp_iload_n q47_1 (by rfl) ?_
  refine wp_icf (t := 14) q47_2 (by rfl) (by rfl) ?_
  refine wp_iload_n q47_5 (by rfl) ?_
  refine wp_iload_n q47_6 (by rfl) ?_
  refine wp_icf (t := 14) q47_7 (by rfl) (by rfl) ?_
  refine wp_iconst q47_10 ?_
  refine wp_goto (t := 15) q47_11 (by rfl) ?_
  refine wp_ireturn q47_15 (by rfl) (by rfl) ?_
  refine wK_v ?_
  refine wp_ift (t := 21) q146_7 (by rfl) (by rfl) ?_
  refine wp_return q146_21 (by rfl) ?_
  refine wK_n ?_
  refine wp_aload_n q149_5 (by rfl) ?_
  refine wp_virtual q149_6 (by decide) (Nat.le_of_ble_eq_true rfl) (by rfl) (by rfl) (by rfl) ⟨(Nat.le_of_ble_eq_true rfl), (Nat.le_of_ble_eq_true rfl), (Nat.le_of_ble_eq_true rfl)⟩ (Nat.le_of_ble_eq_true rfl) ?_
  refine wp_iconst q12_0 ?_
  refine wp_istore_n q12_1 (Nat.le_of_ble_eq_true rfl) ?_
  refine wp_iconst q12_2 ?_
  refine wp_istore_n q12_3 (Nat.le_of_ble_eq_true rfl) ?_
  refine wp_iload_n q12_4 (by rfl) ?_
  refine wp_aload_n q12_5 (by rfl) ?_
  refine wp_getfield q12_6 (by rfl) (by rfl) ?_
  refine wp_ict (t := 34) q12_9 (by rfl) (by rfl) ?_
  refine wp_iload_n q12_34 (by rfl) ?_
  refine wp_ireturn q12_35 (by rfl) (by rfl) ?_
  refine wK_v ?_
  refine wp_istore q149_9 (Nat.le_of_ble_eq_true rfl) ?_
  refine wp_iload_n q149_11 (by rfl) ?_
  refine wp_iconst q149_12 ?_
  refine wp_iload_n q149_13 (by rfl) ?_
  refine wp_iload q149_14 (by rfl) ?_
  refine wp_static q149_16 (by decide) (Nat.le_of_ble_eq_true rfl) (by rfl) (by rfl) ⟨(Nat.le_of_ble_eq_true rfl), (Nat.le_of_ble_eq_true rfl), (Nat.le_of_ble_eq_true rfl)⟩ (Nat.le_of_ble_eq_true rfl) ?_
  refine wp_iload_n q147_0 (by rfl) ?_
  refine wp_iff (t := 14) q147_1 (by rfl) (by rfl) ?_
  refine wp_iload_n q147_4 (by rfl) ?_
  refine wp_iload_n q147_5 (by rfl) ?_
  refine wp_iadd q147_6 ?_
  refine wp_iconst q147_7 ?_
  refine wp_isub q147_8 ?_
  refine wp_iload_n q147_9 (by rfl) ?_
  refine wp_idiv q147_10 (by decide) ?_
  refine wp_goto (t := 15) q147_11 (by rfl) ?_
  refine wp_ireturn q147_15 (by rfl) (by rfl) ?_
  refine wK_v ?_
  refine wp_iconst q149_19 ?_
  refine wp_isub q149_20 ?_
  refine wp_static q149_21 (by decide) (Nat.le_of_ble_eq_true rfl) (by rfl) (by rfl) ⟨(Nat.le_of_ble_eq_true rfl), (Nat.le_of_ble_eq_true rfl), (Nat.le_of_ble_eq_true rfl)⟩ (Nat.le_of_ble_eq_true rfl) ?_
  refine wp_iload_n q47_0 (by rfl) ?_
  refine wp_iload_n q47_1 (by rfl) ?_
  refine wp_icf (t := 14) q47_2 e1 (by rfl) ?_
  refine wp_iload_n q47_5 (by rfl) ?_
  refine wp_iload_n q47_6 (by rfl) ?_
  refine wp_ict (t := 14) q47_7 e2 (by rfl) ?_
  refine wp_iconst q47_14 ?_
  refine wp_ireturn q47_15 (by rfl) (by rfl) ?_
  refine wK_v ?_
  refine wp_ift (t := 38) q149_24 (by rfl) (by rfl) ?_
  refine wp_throw q149_38 (by decide) ⟨(Nat.le_of_ble_eq_true rfl), (Nat.le_of_ble_eq_true rfl), (Nat.le_of_ble_eq_true rfl)⟩ ?_
  refine wK_c (by rfl) (by rfl) (by decide) (by rfl) ?_
  refine wp_iconst q148_21 ?_
  refine wp_ireturn q148_22 (by rfl) (by rfl) ?_
  refine wK_v ?_
  refine wp_istore qL_2429 (Nat.le_of_ble_eq_true rfl) ?_
  refine wp_aload_n qL_2431 (by rfl) ?_
  refine wp_aload_ns qL_2432 (by rfl) ?_
  refine wp_iload qL_2433 (by rfl) ?_
  refine wp_iconst qL_2435 ?_
  refine wp_iadd qL_2436 ?_
  refine wp_sload (x := (2)) qL_2437 (by rfl) (by rfl) ?_
  refine wp_aload_ns qL_2438 (by rfl) ?_
  refine wp_iload qL_2439 (by rfl) ?_
  refine wp_iconst qL_2441 ?_
  refine wp_iadd qL_2442 ?_
  refine wp_sload (x := x2) qL_2443 (by rfl) (by rfl) ?_
  refine wp_aload_ns qL_2444 (by rfl) ?_
  refine wp_iload qL_2445 (by rfl) ?_
  refine wp_iconst qL_2447 ?_
  refine wp_iadd qL_2448 ?_
  refine wp_sload (x := x3) qL_2449 (by rfl) (by rfl) ?_
  refine wp_virtual qL_2450 (by decide) (Nat.le_of_ble_eq_true rfl) (by rfl) (by rfl) (by rfl) ⟨(Nat.le_of_ble_eq_true rfl), (Nat.le_of_ble_eq_true rfl), (Nat.le_of_ble_eq_true rfl)⟩ (Nat.le_of_ble_eq_true rfl) ?_
  refine wp_iload_n q273_0 (by rfl) ?_
  refine wp_iconst q273_1 ?_
  refine wp_iload_n q273_2 (by rfl) ?_
  refine wp_iconst q273_3 ?_
  refine wp_isub q273_4 ?_
  refine wp_static q273_5 (by decide) (Nat.le_of_ble_eq_true rfl) (by rfl) (by rfl) ⟨(Nat.le_of_ble_eq_true rfl), (Nat.le_of_ble_eq_true rfl), (Nat.le_of_ble_eq_true rfl)⟩ (Nat.le_of_ble_eq_true rfl) ?_
  refine wp_iload_n q211_0 (by rfl) ?_
  refine wp_iload_n q211_1 (by rfl) ?_
  refine wp_icf (t := 14) q211_2 e3 (by rfl) ?_
  refine wp_iload_n q211_5 (by rfl) ?_
  refine wp_iload_n q211_6 (by rfl) ?_
  refine wp_ict (t := 14) q211_7 e4 (by rfl) ?_
  refine wp_iconst q211_14 ?_
  refine wp_ireturn q211_15 (by rfl) (by rfl) ?_
  refine wK_v ?_
  refine wp_ift (t := 37) q273_8 (by rfl) (by rfl) ?_
  refine wp_iconst q273_37 ?_
  refine wp_istore q273_38 (Nat.le_of_ble_eq_true rfl) ?_
  refine wp_aload_n q273_40 (by rfl) ?_
  refine wp_iload_n q273_41 (by rfl) ?_
  refine wp_iconst q273_42 ?_
  refine wp_bipush q273_43 ?_
  refine wp_static q273_45 (by decide) (Nat.le_of_ble_eq_true rfl) (by rfl) (by rfl) ⟨(Nat.le_of_ble_eq_true rfl), (Nat.le_of_ble_eq_true rfl), (Nat.le_of_ble_eq_true rfl)⟩ (Nat.le_of_ble_eq_true rfl) ?_
  refine wp_iload_n q211_0 (by rfl) ?_
  refine wp_iload_n q211_1 (by rfl) ?_
  refine wp_icf (t := 14) q211_2 (by rfl) (by rfl) ?_
  refine wp_iload_n q211_5 (by rfl) ?_
  refine wp_iload_n q211_6 (by rfl) ?_
  refine wp_icf (t := 14) q211_7 (by rfl) (by rfl) ?_
  refine wp_iconst q211_10 ?_
  refine wp_goto (t := 15) q211_11 (by rfl) ?_
  refine wp_ireturn q211_15 (by rfl) (by rfl) ?_
  refine wK_v ?_
  refine wp_ift (t := 55) q273_48 (by rfl) (by rfl) ?_
  refine wp_iload q273_55 (by rfl) ?_
  refine wp_iff (t := 64) q273_57 (by rfl) (by rfl) ?_
  refine wp_iconst q273_60 ?_
  refine wp_goto (t := 65) q273_61 (by rfl) ?_
  refine wp_putfield q273_65 (by rfl) (Nat.le_of_ble_eq_true rfl) (by rfl) ?_
  refine wp_aload_n q273_68 (by rfl) ?_
  refine wp_getfield q273_69 (by rfl) (by rfl) ?_
  refine wp_iff (t := 77) q273_72 (by rfl) (by rfl) ?_
  refine wp_iconst q273_75 ?_
  refine wp_ireturn q273_76 (by rfl) (by rfl) ?_
  refine wK_v ?_
  refine wp_istore qL_2453 (Nat.le_of_ble_eq_true rfl) ?_
  refine wp_aload_n qL_2455 (by rfl) ?_
  refine wp_virtual qL_2456 (by decide) (Nat.le_of_ble_eq_true rfl) (by rfl) (by rfl) (by rfl) ⟨(Nat.le_of_ble_eq_true rfl), (Nat.le_of_ble_eq_true rfl), (Nat.le_of_ble_eq_true rfl)⟩ (Nat.le_of_ble_eq_true rfl) ?_
  refine wp_aload_n q209_0 (by rfl) ?_
  refine wp_getfield q209_1 (by rfl) (by rfl) ?_
  refine wp_ireturn q209_4 (by rfl) (by rfl) ?_
  refine wK_v ?_
  refine wp_iload qL_2459 (by rfl) ?_
  refine wp_ict (t := 2466) qL_2461 (by rfl) (by rfl) ?_
  refine wp_iload qL_2466 (by rfl) ?_
  refine wp_ift (t := 2483) qL_2468 (by rfl) (by rfl) ?_
  refine wp_goto (t := 3983) qL_2483 (by rfl) ?_
  refine wp_iinc qL_3983 (by rfl) (Nat.le_of_ble_eq_true rfl) ?_
  refine wp_goto (t := 28) qL_3986 (by rfl) ?_
  refine wp_iload qL_28 (by rfl) ?_
  refine wp_aload_ns qL_30 (by rfl) ?_
  refine wp_slen (n := 5) qL_31 rfl ?_
  refine wp_iconst qL_32 ?_
  refine wp_isub qL_33 ?_
  refine wp_ict (t := 3989) qL_34 (by rfl) (by rfl) ?_
  refine wp_iconst qL_3989 ?_
  refine wp_ireturn qL_3990 (by rfl) (by rfl) ?_
  rfl
theorem pt_35_19 {x0 x2 x3 x4 : Int32} (e0 : x0 &&& 63 = Int32.ofNat 35) (e1 : sC2 .lt x2 (0) = false) (e2 : sC2 .gt x2 (-1) = true) (e3 : sC2 .lt x3 (0) = false) (e4 : sC2 .gt x3 (1) = false) (e5 : sC2 .lt x2 (0) = false) (e6 : sC2 .gt x2 (9) = true) : wLaw [x0, (2), x2, x3, x4] := by
  unfold wLaw
  refine wp_iload qL_28 (by rfl) ?_
  refine wp_aload_ns qL_30 (by rfl) ?_
  refine wp_slen (n := 5) qL_31 rfl ?_
  refine wp_iconst qL_32 ?_
  refine wp_isub qL_33 ?_
  refine wp_icf (t := 3989) qL_34 (by rfl) (by rfl) ?_
  refine wp_aload_ns qL_37 (by rfl) ?_
  refine wp_iload qL_38 (by rfl) ?_
  refine wp_sload (x := x0) qL_40 (by rfl) (by rfl) ?_
  refine wp_bipush qL_41 ?_
  refine wp_iand qL_43 ?_
  refine wp_switch (t := 2406) qL_44 e0 (by rfl) ?_
  refine wp_aload_n qL_2406 (by rfl) ?_
  refine wp_aload_ns qL_2407 (by rfl) ?_
  refine wp_iload qL_2408 (by rfl) ?_
  refine wp_iconst qL_2410 ?_
  refine wp_iadd qL_2411 ?_
  refine wp_sload (x := (2)) qL_2412 (by rfl) (by rfl) ?_
  refine wp_aload_ns qL_2413 (by rfl) ?_
  refine wp_iload qL_2414 (by rfl) ?_
  refine wp_iconst qL_2416 ?_
  refine wp_iadd qL_2417 ?_
  refine wp_sload (x := x2) qL_2418 (by rfl) (by rfl) ?_
  refine wp_aload_ns qL_2419 (by rfl) ?_
  refine wp_iload qL_2420 (by rfl) ?_
  refine wp_iconst qL_2422 ?_
  refine wp_iadd qL_2423 ?_
  refine wp_sload (x := x3) qL_2424 (by rfl) (by rfl) ?_
  refine wp_aload_n qL_2425 (by rfl) ?_
  refine wp_static qL_2426 (by decide) (Nat.le_of_ble_eq_true rfl) (by rfl) (by rfl) ⟨(Nat.le_of_ble_eq_true rfl), (Nat.le_of_ble_eq_true rfl), (Nat.le_of_ble_eq_true rfl)⟩ (Nat.le_of_ble_eq_true rfl) ?_
  refine wp_aload q148_0 (by rfl) ?_
  refine wp_iconst q148_2 ?_
  refine wp_aload_n q148_3 (by rfl) ?_
  refine wp_iload_n q148_4 (by rfl) ?_
  refine wp_iload_n q148_5 (by rfl) ?_
  refine wp_iload_n q148_6 (by rfl) ?_
  refine wp_virtual q148_7 (by decide) (Nat.le_of_ble_eq_true rfl) (by rfl) (by rfl) (by rfl) ⟨(Nat.le_of_ble_eq_true rfl), (Nat.le_of_ble_eq_true rfl), (Nat.le_of_ble_eq_true rfl)⟩ (Nat.le_of_ble_eq_true rfl) ?_
  refine wp_aload_n q149_0 (by rfl) ?_
  refine wp_iload_n q149_1 (by rfl) ?_
  refine wp_virtual q149_2 (by decide) (Nat.le_of_ble_eq_true rfl) (by rfl) (by rfl) (by rfl) ⟨(Nat.le_of_ble_eq_true rfl), (Nat.le_of_ble_eq_true rfl), (Nat.le_of_ble_eq_true rfl)⟩ (Nat.le_of_ble_eq_true rfl) ?_
  refine wp_iload_n q146_0 (by rfl) ?_
  refine wp_iconst q146_1 ?_
  refine wp_bipush q146_2 ?_
  refine wp_static q146_4 (by decide) (Nat.le_of_ble_eq_true rfl) (by rfl) (by rfl) ⟨(Nat.le_of_ble_eq_true rfl), (Nat.le_of_ble_eq_true rfl), (Nat.le_of_ble_eq_true rfl)⟩ (Nat.le_of_ble_eq_true rfl) ?_
  refine wp_iload_n q47_0 (by rfl) ?_
  refine wp_iload_n q47_1 (by rfl) ?_
  refine wp_icf (t := 14) q47_2 (by rfl) (by rfl) ?_
  refine wp_iload_n q47_5 (by rfl) ?_
  refine wp_iload_n q47_6 (by rfl) ?_
  refine wp_icf (t := 14) q47_7 (by rfl) (by rfl) ?_
  refine wp_iconst q47_10 ?_
  refine wp_goto (t := 15) q47_11 (by rfl) ?_
  refine wp_ireturn q47_15 (by rfl) (by rfl) ?_
  refine wK_v ?_
  refine wp_ift (t := 21) q146_7 (by rfl) (by rfl) ?_
  refine wp_return q146_21 (by rfl) ?_
  refine wK_n ?_
  refine wp_aload_n q149_5 (by rfl) ?_
  refine wp_virtual q149_6 (by decide) (Nat.le_of_ble_eq_true rfl) (by rfl) (by rfl) (by rfl) ⟨(Nat.le_of_ble_eq_true rfl), (Nat.le_of_ble_eq_true rfl), (Nat.le_of_ble_eq_true rfl)⟩ (Nat.le_of_ble_eq_true rfl) ?_
  refine wp_iconst q12_0 ?_
  refine wp_istore_n q12_1 (Nat.le_of_ble_eq_true rfl) ?_
  refine wp_iconst q12_2 ?_
  refine wp_istore_n q12_3 (Nat.le_of_ble_eq_true rfl) ?_
  refine wp_iload_n q12_4 (by rfl) ?_
  refine wp_aload_n q12_5 (by rfl) ?_
  refine wp_getfield q12_6 (by rfl) (by rfl) ?_
  refine wp_ict (t := 34) q12_9 (by rfl) (by rfl) ?_
  refine wp_iload_n q12_34 (by rfl) ?_
  refine wp_ireturn q12_35 (by rfl) (by rfl) ?_
  refine wK_v ?_
  refine wp_istore q149_9 (Nat.le_of_ble_eq_true rfl) ?_
  refine wp_iload_n q149_11 (by rfl) ?_
  refine wp_iconst q149_12 ?_
  refine wp_iload_n q149_13 (by rfl) ?_
  refine wp_iload q149_14 (by rfl) ?_
  refine wp_static q149_16 (by decide) (Nat.le_of_ble_eq_true rfl) (by rfl) (by rfl) ⟨(Nat.le_of_ble_eq_true rfl), (Nat.le_of_ble_eq_true rfl), (Nat.le_of_ble_eq_true rfl)⟩ (Nat.le_of_ble_eq_true rfl) ?_
  refine wp_iload_n q147_0 (by rfl) ?_
  refine wp_iff (t := 14) q147_1 (by rfl) (by rfl) ?_
  refine wp_iload_n q147_4 (by rfl) ?_
  refine wp_iload_n q147_5 (by rfl) ?_
  refine wp_iadd q147_6 ?_
  refine wp_iconst q147_7 ?_
  refine wp_isub q147_8 ?_
  refine wp_iload_n q147_9 (by rfl) ?_
  refine wp_idiv q147_10 (by decide) ?_
  refine wp_goto (t := 15) q147_11 (by rfl) ?_
  refine wp_ireturn q147_15 (by rfl) (by rfl) ?_
  refine wK_v ?_
  refine wp_iconst q149_19 ?_
  refine wp_isub q149_20 ?_
  refine wp_static q149_21 (by decide) (Nat.le_of_ble_eq_true rfl) (by rfl) (by rfl) ⟨(Nat.le_of_ble_eq_true rfl), (Nat.le_of_ble_eq_true rfl), (Nat.le_of_ble_eq_true rfl)⟩ (Nat.le_of_ble_eq_true rfl) ?_
  refine wp_iload_n q47_0 (by rfl) ?_
  refine wp_iload_n q47_1 (by rfl) ?_
  refine wp_icf (t := 14) q47_2 e1 (by rfl) ?_
  refine wp_iload_n q47_5 (by rfl) ?_
  refine wp_iload_n q47_6 (by rfl) ?_
  refine wp_ict (t := 14) q47_7 e2 (by rfl) ?_
  refine wp_iconst q47_14 ?_
  refine wp_ireturn q47_15 (by rfl) (by rfl) ?_
  refine wK_v ?_
  refine wp_ift (t := 38) q149_24 (by rfl) (by rfl) ?_
  refine wp_throw q149_38 (by decide) ⟨(Nat.le_of_ble_eq_true rfl), (Nat.le_of_ble_eq_true rfl), (Nat.le_of_ble_eq_true rfl)⟩ ?_
  refine wK_c (by rfl) (by rfl) (by decide) (by rfl) ?_
  refine wp_iconst q148_21 ?_
  refine wp_ireturn q148_22 (by rfl) (by rfl) ?_
  refine wK_v ?_
  refine wp_istore qL_2429 (Nat.le_of_ble_eq_true rfl) ?_
  refine wp_aload_n qL_2431 (by rfl) ?_
  refine wp_aload_ns qL_2432 (by rfl) ?_
  refine wp_iload qL_2433 (by rfl) ?_
  refine wp_iconst qL_2435 ?_
  refine wp_iadd qL_2436 ?_
  refine wp_sload (x := (2)) qL_2437 (by rfl) (by rfl) ?_
  refine wp_aload_ns qL_2438 (by rfl) ?_
  refine wp_iload qL_2439 (by rfl) ?_
  refine wp_iconst qL_2441 ?_
  refine wp_iadd qL_2442 ?_
  refine wp_sload (x := x2) qL_2443 (by rfl) (by rfl) ?_
  refine wp_aload_ns qL_2444 (by rfl) ?_
  refine wp_iload qL_2445 (by rfl) ?_
  refine wp_iconst qL_2447 ?_
  refine wp_iadd qL_2448 ?_
  refine wp_sload (x := x3) qL_2449 (by rfl) (by rfl) ?_
  refine wp_virtual qL_2450 (by decide) (Nat.le_of_ble_eq_true rfl) (by rfl) (by rfl) (by rfl) ⟨(Nat.le_of_ble_eq_true rfl), (Nat.le_of_ble_eq_true rfl), (Nat.le_of_ble_eq_true rfl)⟩ (Nat.le_of_ble_eq_true rfl) ?_
  refine wp_iload_n q273_0 (by rfl) ?_
  refine wp_iconst q273_1 ?_
  refine wp_iload_n q273_2 (by rfl) ?_
  refine wp_iconst q273_3 ?_
  refine wp_isub q273_4 ?_
  refine wp_static q273_5 (by decide) (Nat.le_of_ble_eq_true rfl) (by rfl) (by rfl) ⟨(Nat.le_of_ble_eq_true rfl), (Nat.le_of_ble_eq_true rfl), (Nat.le_of_ble_eq_true rfl)⟩ (Nat.le_of_ble_eq_true rfl) ?_
  refine wp_iload_n q211_0 (by rfl) ?_
  refine wp_iload_n q211_1 (by rfl) ?_
  refine wp_icf (t := 14) q211_2 e3 (by rfl) ?_
  refine wp_iload_n q211_5 (by rfl) ?_
  refine wp_iload_n q211_6 (by rfl) ?_
  refine wp_icf (t := 14) q211_7 e4 (by rfl) ?_
  refine wp_iconst q211_10 ?_
  refine wp_goto (t := 15) q211_11 (by rfl) ?_
  refine wp_ireturn q211_15 (by rfl) (by rfl) ?_
  refine wK_v ?_
  refine wp_iff (t := 37) q273_8 (by rfl) (by rfl) ?_
  refine wp_iload_n q273_11 (by rfl) ?_
  refine wp_iconst q273_12 ?_
  refine wp_bipush q273_13 ?_
  refine wp_static q273_15 (by decide) (Nat.le_of_ble_eq_true rfl) (by rfl) (by rfl) ⟨(Nat.le_of_ble_eq_true rfl), (Nat.le_of_ble_eq_true rfl), (Nat.le_of_ble_eq_true rfl)⟩ (Nat.le_of_ble_eq_true rfl) ?_
  refine wp_iload_n q211_0 (by rfl) ?_
  refine wp_iload_n q211_1 (by rfl) ?_
  refine wp_icf (t := 14) q211_2 e5 (by rfl) ?_
  refine wp_iload_n q211_5 (by rfl) ?_
  refine wp_iload_n q211_6 (by rfl) ?_
  refine wp_ict (t := 14) q211_7 e6 (by rfl) ?_
  refine wp_iconst q211_14 ?_
  refine wp_ireturn q211_15 (by rfl) (by rfl) ?_
  refine wK_v ?_
  refine wp_ift (t := 37) q273_18 (by rfl) (by rfl) ?_
  refine wp_iconst q273_37 ?_
  refine wp_istore q273_38 (Nat.le_of_ble_eq_true rfl) ?_
  refine wp_aload_n q273_40 (by rfl) ?_
  refine wp_iload_n q273_41 (by rfl) ?_
  refine wp_iconst q273_42 ?_
  refine wp_bipush q273_43 ?_
  refine wp_static q273_45 (by decide) (Nat.le_of_ble_eq_true rfl) (by rfl) (by rfl) ⟨(Nat.le_of_ble_eq_true rfl), (Nat.le_of_ble_eq_true rfl), (Nat.le_of_ble_eq_true rfl)⟩ (Nat.le_of_ble_eq_true rfl) ?_
  refine wp_iload_n q211_0 (by rfl) ?_
  refine wp_iload_n q211_1 (by rfl) ?_
  refine wp_icf (t := 14) q211_2 (by rfl) (by rfl) ?_
  refine wp_iload_n q211_5 (by rfl) ?_
  refine wp_iload_n q211_6 (by rfl) ?_
  refine wp_icf (t := 14) q211_7 (by rfl) (by rfl) ?_
  refine wp_iconst q211_10 ?_
  refine wp_goto (t := 15) q211_11 (by rfl) ?_
  refine wp_ireturn q211_15 (by rfl) (by rfl) ?_
  refine wK_v ?_
  refine wp_ift (t := 55) q273_48 (by rfl) (by rfl) ?_
  refine wp_iload q273_55 (by rfl) ?_
  refine wp_iff (t := 64) q273_57 (by rfl) (by rfl) ?_
  refine wp_iconst q273_60 ?_
  refine wp_goto (t := 65) q273_61 (by rfl) ?_
  refine wp_putfield q273_65 (by rfl) (Nat.le_of_ble_eq_true rfl) (by rfl) ?_
  refine wp_aload_n q273_68 (by rfl) ?_
  refine wp_getfield q273_69 (by rfl) (by rfl) ?_
  refine wp_iff (t := 77) q273_72 (by rfl) (by rfl) ?_
  refine wp_iconst q273_75 ?_
  refine wp_ireturn q273_76 (by rfl) (by rfl) ?_
  refine wK_v ?_
  refine wp_istore qL_2453 (Nat.le_of_ble_eq_true rfl) ?_
  refine wp_aload_n qL_2455 (by rfl) ?_
  refine wp_virtual qL_2456 (by decide) (Nat.le_of_ble_eq_true rfl) (by rfl) (by rfl) (by rfl) ⟨(Nat.le_of_ble_eq_true rfl), (Nat.le_of_ble_eq_true rfl), (Nat.le_of_ble_eq_true rfl)⟩ (Nat.le_of_ble_eq_true rfl) ?_
  refine wp_aload_n q209_0 (by rfl) ?_
  refine wp_getfield q209_1 (by rfl) (by rfl) ?_
  refine wp_ireturn q209_4 (by rfl) (by rfl) ?_
  refine wK_v ?_
  refine wp_iload qL_2459 (by rfl) ?_
  refine wp_ict (t := 2466) qL_2461 (by rfl) (by rfl) ?_
  refine wp_iload qL_2466 (by rfl) ?_
  refine wp_ift (t := 2483) qL_2468 (by rfl) (by rfl) ?_
  refine wp_goto (t := 3983) qL_2483 (by rfl) ?_
  refine wp_iinc qL_3983 (by rfl) (Nat.le_of_ble_eq_true rfl) ?_
  refine wp_goto (t := 28) qL_3986 (by rfl) ?_
  refine wp_iload qL_28 (by rfl) ?_
  refine wp_aload_ns qL_30 (by rfl) ?_
  refine wp_slen (n := 5) qL_31 rfl ?_
  refine wp_iconst qL_32 ?_
  refine wp_isub qL_33 ?_
  refine wp_ict (t := 3989) qL_34 (by rfl) (by rfl) ?_
  refine wp_iconst qL_3989 ?_
  refine wp_ireturn qL_3990 (by rfl) (by rfl) ?_
  rfl
theorem pt_35_20 {x0 x2 x3 x4 : Int32} (e0 : x0 &&& 63 = Int32.ofNat 35) (e1 : sC2 .lt x2 (0) = true) (e2 : sC2 .lt x3 (0) = true) : wLaw [x0, (3), x2, x3, x4] := by
  unfold wLaw
  refine wp_iload qL_28 (by rfl) ?_
  refine wp_aload_ns qL_30 (by rfl) ?_
  refine wp_slen (n := 5) qL_31 rfl ?_
  refine wp_iconst qL_32 ?_
  refine wp_isub qL_33 ?_
  refine wp_icf (t := 3989) qL_34 (by rfl) (by rfl) ?_
  refine wp_aload_ns qL_37 (by rfl) ?_
  refine wp_iload qL_38 (by rfl) ?_
  refine wp_sload (x := x0) qL_40 (by rfl) (by rfl) ?_
  refine wp_bipush qL_41 ?_
  refine wp_iand qL_43 ?_
  refine wp_switch (t := 2406) qL_44 e0 (by rfl) ?_
  refine wp_aload_n qL_2406 (by rfl) ?_
  refine wp_aload_ns qL_2407 (by rfl) ?_
  refine wp_iload qL_2408 (by rfl) ?_
  refine wp_iconst qL_2410 ?_
  refine wp_iadd qL_2411 ?_
  refine wp_sload (x := (3)) qL_2412 (by rfl) (by rfl) ?_
  refine wp_aload_ns qL_2413 (by rfl) ?_
  refine wp_iload qL_2414 (by rfl) ?_
  refine wp_iconst qL_2416 ?_
  refine wp_iadd qL_2417 ?_
  refine wp_sload (x := x2) qL_2418 (by rfl) (by rfl) ?_
  refine wp_aload_ns qL_2419 (by rfl) ?_
  refine wp_iload qL_2420 (by rfl) ?_
  refine wp_iconst qL_2422 ?_
  refine wp_iadd qL_2423 ?_
  refine wp_sload (x := x3) qL_2424 (by rfl) (by rfl) ?_
  refine wp_aload_n qL_2425 (by rfl) ?_
  refine wp_static qL_2426 (by decide) (Nat.le_of_ble_eq_true rfl) (by rfl) (by rfl) ⟨(Nat.le_of_ble_eq_true rfl), (Nat.le_of_ble_eq_true rfl), (Nat.le_of_ble_eq_true rfl)⟩ (Nat.le_of_ble_eq_true rfl) ?_
  refine wp_aload q148_0 (by rfl) ?_
  refine wp_iconst q148_2 ?_
  refine wp_aload_n q148_3 (by rfl) ?_
  refine wp_iload_n q148_4 (by rfl) ?_
  refine wp_iload_n q148_5 (by rfl) ?_
  refine wp_iload_n q148_6 (by rfl) ?_
  refine wp_virtual q148_7 (by decide) (Nat.le_of_ble_eq_true rfl) (by rfl) (by rfl) (by rfl) ⟨(Nat.le_of_ble_eq_true rfl), (Nat.le_of_ble_eq_true rfl), (Nat.le_of_ble_eq_true rfl)⟩ (Nat.le_of_ble_eq_true rfl) ?_
  refine wp_aload_n q149_0 (by rfl) ?_
  refine wp_iload_n q149_1 (by rfl) ?_
  refine wp_virtual q149_2 (by decide) (Nat.le_of_ble_eq_true rfl) (by rfl) (by rfl) (by rfl) ⟨(Nat.le_of_ble_eq_true rfl), (Nat.le_of_ble_eq_true rfl), (Nat.le_of_ble_eq_true rfl)⟩ (Nat.le_of_ble_eq_true rfl) ?_
  refine wp_iload_n q146_0 (by rfl) ?_
  refine wp_iconst q146_1 ?_
  refine wp_bipush q146_2 ?_
  refine wp_static q146_4 (by decide) (Nat.le_of_ble_eq_true rfl) (by rfl) (by rfl) ⟨(Nat.le_of_ble_eq_true rfl), (Nat.le_of_ble_eq_true rfl), (Nat.le_of_ble_eq_true rfl)⟩ (Nat.le_of_ble_eq_true rfl) ?_
  refine wp_iload_n q47_0 (by rfl) ?_
  refine wp_iload_n q47_1 (by rfl) ?_
  refine wp_icf (t := 14) q47_2 (by rfl) (by rfl) ?_
  refine wp_iload_n q47_5 (by rfl) ?_
  refine wp_iload_n q47_6 (by rfl) ?_
  refine wp_icf (t := 14) q47_7 (by rfl) (by rfl) ?_
  refine wp_iconst q47_10 ?_
  refine wp_goto (t := 15) q47_11 (by rfl) ?_
  refine wp_ireturn q47_15 (by rfl) (by rfl) ?_
  refine wK_v ?_
  refine wp_ift (t := 21) q146_7 (by rfl) (by rfl) ?_
  refine wp_return q146_21 (by rfl) ?_
  refine wK_n ?_
  refine wp_aload_n q149_5 (by rfl) ?_
  refine wp_virtual q149_6 (by decide) (Nat.le_of_ble_eq_true rfl) (by rfl) (by rfl) (by rfl) ⟨(Nat.le_of_ble_eq_true rfl), (Nat.le_of_ble_eq_true rfl), (Nat.le_of_ble_eq_true rfl)⟩ (Nat.le_of_ble_eq_true rfl) ?_
  refine wp_iconst q12_0 ?_
  refine wp_istore_n q12_1 (Nat.le_of_ble_eq_true rfl) ?_
  refine wp_iconst q12_2 ?_
  refine wp_istore_n q12_3 (Nat.le_of_ble_eq_true rfl) ?_
  refine wp_iload_n q12_4 (by rfl) ?_
  refine wp_aload_n q12_5 (by rfl) ?_
  refine wp_getfield q12_6 (by rfl) (by rfl) ?_
  refine wp_ict (t := 34) q12_9 (by rfl) (by rfl) ?_
  refine wp_iload_n q12_34 (by rfl) ?_
  refine wp_ireturn q12_35 (by rfl) (by rfl) ?_
  refine wK_v ?_
  refine wp_istore q149_9 (Nat.le_of_ble_eq_true rfl) ?_
  refine wp_iload_n q149_11 (by rfl) ?_
  refine wp_iconst q149_12 ?_
  refine wp_iload_n q149_13 (by rfl) ?_
  refine wp_iload q149_14 (by rfl) ?_
  refine wp_static q149_16 (by decide) (Nat.le_of_ble_eq_true rfl) (by rfl) (by rfl) ⟨(Nat.le_of_ble_eq_true rfl), (Nat.le_of_ble_eq_true rfl), (Nat.le_of_ble_eq_true rfl)⟩ (Nat.le_of_ble_eq_true rfl) ?_
  refine wp_iload_n q147_0 (by rfl) ?_
  refine wp_iff (t := 14) q147_1 (by rfl) (by rfl) ?_
  refine wp_iload_n q147_4 (by rfl) ?_
  refine wp_iload_n q147_5 (by rfl) ?_
  refine wp_iadd q147_6 ?_
  refine wp_iconst q147_7 ?_
  refine wp_isub q147_8 ?_
  refine wp_iload_n q147_9 (by rfl) ?_
  refine wp_idiv q147_10 (by decide) ?_
  refine wp_goto (t := 15) q147_11 (by rfl) ?_
  refine wp_ireturn q147_15 (by rfl) (by rfl) ?_
  refine wK_v ?_
  refine wp_iconst q149_19 ?_
  refine wp_isub q149_20 ?_
  refine wp_static q149_21 (by decide) (Nat.le_of_ble_eq_true rfl) (by rfl) (by rfl) ⟨(Nat.le_of_ble_eq_true rfl), (Nat.le_of_ble_eq_true rfl), (Nat.le_of_ble_eq_true rfl)⟩ (Nat.le_of_ble_eq_true rfl) ?_
  refine wp_iload_n q47_0 (by rfl) ?_
  refine wp_iload_n q47_1 (by rfl) ?_
  refine wp_ict (t := 14) q47_2 e1 (by rfl) ?_
  refine wp_iconst q47_14 ?_
  refine wp_ireturn q47_15 (by rfl) (by rfl) ?_
  refine wK_v ?_
  refine wp_ift (t := 38) q149_24 (by rfl) (by rfl) ?_
  refine wp_throw q149_38 (by decide) ⟨(Nat.le_of_ble_eq_true rfl), (Nat.le_of_ble_eq_true rfl), (Nat.le_of_ble_eq_true rfl)⟩ ?_
  refine wK_c (by rfl) (by rfl) (by decide) (by rfl) ?_
  refine wp_iconst q148_21 ?_
  refine wp_ireturn q148_22 (by rfl) (by rfl) ?_
  refine wK_v ?_
  refine wp_istore qL_2429 (Nat.le_of_ble_eq_true rfl) ?_
  refine wp_aload_n qL_2431 (by rfl) ?_
  refine wp_aload_ns qL_2432 (by rfl) ?_
  refine wp_iload qL_2433 (by rfl) ?_
  refine wp_iconst qL_2435 ?_
  refine wp_iadd qL_2436 ?_
  refine wp_sload (x := (3)) qL_2437 (by rfl) (by rfl) ?_
  refine wp_aload_ns qL_2438 (by rfl) ?_
  refine wp_iload qL_2439 (by rfl) ?_
  refine wp_iconst qL_2441 ?_
  refine wp_iadd qL_2442 ?_
  refine wp_sload (x := x2) qL_2443 (by rfl) (by rfl) ?_
  refine wp_aload_ns qL_2444 (by rfl) ?_
  refine wp_iload qL_2445 (by rfl) ?_
  refine wp_iconst qL_2447 ?_
  refine wp_iadd qL_2448 ?_
  refine wp_sload (x := x3) qL_2449 (by rfl) (by rfl) ?_
  refine wp_virtual qL_2450 (by decide) (Nat.le_of_ble_eq_true rfl) (by rfl) (by rfl) (by rfl) ⟨(Nat.le_of_ble_eq_true rfl), (Nat.le_of_ble_eq_true rfl), (Nat.le_of_ble_eq_true rfl)⟩ (Nat.le_of_ble_eq_true rfl) ?_
  refine wp_iload_n q273_0 (by rfl) ?_
  refine wp_iconst q273_1 ?_
  refine wp_iload_n q273_2 (by rfl) ?_
  refine wp_iconst q273_3 ?_
  refine wp_isub q273_4 ?_
  refine wp_static q273_5 (by decide) (Nat.le_of_ble_eq_true rfl) (by rfl) (by rfl) ⟨(Nat.le_of_ble_eq_true rfl), (Nat.le_of_ble_eq_true rfl), (Nat.le_of_ble_eq_true rfl)⟩ (Nat.le_of_ble_eq_true rfl) ?_
  refine wp_iload_n q211_0 (by rfl) ?_
  refine wp_iload_n q211_1 (by rfl) ?_
  refine wp_ict (t := 14) q211_2 e2 (by rfl) ?_
  refine wp_iconst q211_14 ?_
  refine wp_ireturn q211_15 (by rfl) (by rfl) ?_
  refine wK_v ?_
  refine wp_ift (t := 37) q273_8 (by rfl) (by rfl) ?_
  refine wp_iconst q273_37 ?_
  refine wp_istore q273_38 (Nat.le_of_ble_eq_true rfl) ?_
  refine wp_aload_n q273_40 (by rfl) ?_
  refine wp_iload_n q273_41 (by rfl) ?_
  refine wp_iconst q273_42 ?_
  refine wp_bipush q273_43 ?_
  refine wp_static q273_45 (by decide) (Nat.le_of_ble_eq_true rfl) (by rfl) (by rfl) ⟨(Nat.le_of_ble_eq_true rfl), (Nat.le_of_ble_eq_true rfl), (Nat.le_of_ble_eq_true rfl)⟩ (Nat.le_of_ble_eq_true rfl) ?_
  refine wp_iload_n q211_0 (by rfl) ?_
  refine wp_iload_n q211_1 (by rfl) ?_
  refine wp_icf (t := 14) q211_2 (by rfl) (by rfl) ?_
  refine wp_iload_n q211_5 (by rfl) ?_
  refine wp_iload_n q211_6 (by rfl) ?_
  refine wp_icf (t := 14) q211_7 (by rfl) (by rfl) ?_
  refine wp_iconst q211_10 ?_
  refine wp_goto (t := 15) q211_11 (by rfl) ?_
  refine wp_ireturn q211_15 (by rfl) (by rfl) ?_
  refine wK_v ?_
  refine wp_ift (t := 55) q273_48 (by rfl) (by rfl) ?_
  refine wp_iload q273_55 (by rfl) ?_
  refine wp_iff (t := 64) q273_57 (by rfl) (by rfl) ?_
  refine wp_iconst q273_60 ?_
  refine wp_goto (t := 65) q273_61 (by rfl) ?_
  refine wp_putfield q273_65 (by rfl) (Nat.le_of_ble_eq_true rfl) (by rfl) ?_
  refine wp_aload_n q273_68 (by rfl) ?_
  refine wp_getfield q273_69 (by rfl) (by rfl) ?_
  refine wp_iff (t := 77) q273_72 (by rfl) (by rfl) ?_
  refine wp_iconst q273_75 ?_
  refine wp_ireturn q273_76 (by rfl) (by rfl) ?_
  refine wK_v ?_
  refine wp_istore qL_2453 (Nat.le_of_ble_eq_true rfl) ?_
  refine wp_aload_n qL_2455 (by rfl) ?_
  refine wp_virtual qL_2456 (by decide) (Nat.le_of_ble_eq_true rfl) (by rfl) (by rfl) (by rfl) ⟨(Nat.le_of_ble_eq_true rfl), (Nat.le_of_ble_eq_true rfl), (Nat.le_of_ble_eq_true rfl)⟩ (Nat.le_of_ble_eq_true rfl) ?_
  refine wp_aload_n q209_0 (by rfl) ?_
  refine wp_getfield q209_1 (by rfl) (by rfl) ?_
  refine wp_ireturn q209_4 (by rfl) (by rfl) ?_
  refine wK_v ?_
  refine wp_iload qL_2459 (by rfl) ?_
  refine wp_ict (t := 2466) qL_2461 (by rfl) (by rfl) ?_
  refine wp_iload qL_2466 (by rfl) ?_
  refine wp_ift (t := 2483) qL_2468 (by rfl) (by rfl) ?_
  refine wp_goto (t := 3983) qL_2483 (by rfl) ?_
  refine wp_iinc qL_3983 (by rfl) (Nat.le_of_ble_eq_true rfl) ?_
  refine wp_goto (t := 28) qL_3986 (by rfl) ?_
  refine wp_iload qL_28 (by rfl) ?_
  refine wp_aload_ns qL_30 (by rfl) ?_
  refine wp_slen (n := 5) qL_31 rfl ?_
  refine wp_iconst qL_32 ?_
  refine wp_isub qL_33 ?_
  refine wp_ict (t := 3989) qL_34 (by rfl) (by rfl) ?_
  refine wp_iconst qL_3989 ?_
  refine wp_ireturn qL_3990 (by rfl) (by rfl) ?_
  rfl
theorem pt_35_21 {x0 x2 x3 x4 : Int32} (e0 : x0 &&& 63 = Int32.ofNat 35) (e1 : sC2 .lt x2 (0) = true) (e2 : sC2 .lt x3 (0) = false) (e3 : sC2 .gt x3 (2) = false) (e4 : sC2 .lt x2 (0) = true) : wLaw [x0, (3), x2, x3, x4] := by
  unfold wLaw
  refine wp_iload qL_28 (by rfl) ?_
  refine wp_aload_ns qL_30 (by rfl) ?_
  refine wp_slen (n := 5) qL_31 rfl ?_
  refine wp_iconst qL_32 ?_
  refine wp_isub qL_33 ?_
  refine wp_icf (t := 3989) qL_34 (by rfl) (by rfl) ?_
  refine wp_aload_ns qL_37 (by rfl) ?_
  refine wp_iload qL_38 (by rfl) ?_
  refine wp_sload (x := x0) qL_40 (by rfl) (by rfl) ?_
  refine wp_bipush qL_41 ?_
  refine wp_iand qL_43 ?_
  refine wp_switch (t := 2406) qL_44 e0 (by rfl) ?_
  refine wp_aload_n qL_2406 (by rfl) ?_
  refine wp_aload_ns qL_2407 (by rfl) ?_
  refine wp_iload qL_2408 (by rfl) ?_
  refine wp_iconst qL_2410 ?_
  refine wp_iadd qL_2411 ?_
  refine wp_sload (x := (3)) qL_2412 (by rfl) (by rfl) ?_
  refine wp_aload_ns qL_2413 (by rfl) ?_
  refine wp_iload qL_2414 (by rfl) ?_
  refine wp_iconst qL_2416 ?_
  refine wp_iadd qL_2417 ?_
  refine wp_sload (x := x2) qL_2418 (by rfl) (by rfl) ?_
  refine wp_aload_ns qL_2419 (by rfl) ?_
  refine wp_iload qL_2420 (by rfl) ?_
  refine wp_iconst qL_2422 ?_
  refine wp_iadd qL_2423 ?_
  refine wp_sload (x := x3) qL_2424 (by rfl) (by rfl) ?_
  refine wp_aload_n qL_2425 (by rfl) ?_
  refine wp_static qL_2426 (by decide) (Nat.le_of_ble_eq_true rfl) (by rfl) (by rfl) ⟨(Nat.le_of_ble_eq_true rfl), (Nat.le_of_ble_eq_true rfl), (Nat.le_of_ble_eq_true rfl)⟩ (Nat.le_of_ble_eq_true rfl) ?_
  refine wp_aload q148_0 (by rfl) ?_
  refine wp_iconst q148_2 ?_
  refine wp_aload_n q148_3 (by rfl) ?_
  refine wp_iload_n q148_4 (by rfl) ?_
  refine wp_iload_n q148_5 (by rfl) ?_
  refine wp_iload_n q148_6 (by rfl) ?_
  refine wp_virtual q148_7 (by decide) (Nat.le_of_ble_eq_true rfl) (by rfl) (by rfl) (by rfl) ⟨(Nat.le_of_ble_eq_true rfl), (Nat.le_of_ble_eq_true rfl), (Nat.le_of_ble_eq_true rfl)⟩ (Nat.le_of_ble_eq_true rfl) ?_
  refine wp_aload_n q149_0 (by rfl) ?_
  refine wp_iload_n q149_1 (by rfl) ?_
  refine wp_virtual q149_2 (by decide) (Nat.le_of_ble_eq_true rfl) (by rfl) (by rfl) (by rfl) ⟨(Nat.le_of_ble_eq_true rfl), (Nat.le_of_ble_eq_true rfl), (Nat.le_of_ble_eq_true rfl)⟩ (Nat.le_of_ble_eq_true rfl) ?_
  refine wp_iload_n q146_0 (by rfl) ?_
  refine wp_iconst q146_1 ?_
  refine wp_bipush q146_2 ?_
  refine wp_static q146_4 (by decide) (Nat.le_of_ble_eq_true rfl) (by rfl) (by rfl) ⟨(Nat.le_of_ble_eq_true rfl), (Nat.le_of_ble_eq_true rfl), (Nat.le_of_ble_eq_true rfl)⟩ (Nat.le_of_ble_eq_true rfl) ?_
  refine wp_iload_n q47_0 (by rfl) ?_
  refine wp_iload_n q47_1 (by rfl) ?_
  refine wp_icf (t := 14) q47_2 (by rfl) (by rfl) ?_
  refine wp_iload_n q47_5 (by rfl) ?_
  refine wp_iload_n q47_6 (by rfl) ?_
  refine wp_icf (t := 14) q47_7 (by rfl) (by rfl) ?_
  refine wp_iconst q47_10 ?_
  refine wp_goto (t := 15) q47_11 (by rfl) ?_
  refine wp_ireturn q47_15 (by rfl) (by rfl) ?_
  refine wK_v ?_
  refine wp_ift (t := 21) q146_7 (by rfl) (by rfl) ?_
  refine wp_return q146_21 (by rfl) ?_
  refine wK_n ?_
  refine wp_aload_n q149_5 (by rfl) ?_
  refine wp_virtual q149_6 (by decide) (Nat.le_of_ble_eq_true rfl) (by rfl) (by rfl) (by rfl) ⟨(Nat.le_of_ble_eq_true rfl), (Nat.le_of_ble_eq_true rfl), (Nat.le_of_ble_eq_true rfl)⟩ (Nat.le_of_ble_eq_true rfl) ?_
  refine wp_iconst q12_0 ?_
  refine wp_istore_n q12_1 (Nat.le_of_ble_eq_true rfl) ?_
  refine wp_iconst q12_2 ?_
  refine wp_istore_n q12_3 (Nat.le_of_ble_eq_true rfl) ?_
  refine wp_iload_n q12_4 (by rfl) ?_
  refine wp_aload_n q12_5 (by rfl) ?_
  refine wp_getfield q12_6 (by rfl) (by rfl) ?_
  refine wp_ict (t := 34) q12_9 (by rfl) (by rfl) ?_
  refine wp_iload_n q12_34 (by rfl) ?_
  refine wp_ireturn q12_35 (by rfl) (by rfl) ?_
  refine wK_v ?_
  refine wp_istore q149_9 (Nat.le_of_ble_eq_true rfl) ?_
  refine wp_iload_n q149_11 (by rfl) ?_
  refine wp_iconst q149_12 ?_
  refine wp_iload_n q149_13 (by rfl) ?_
  refine wp_iload q149_14 (by rfl) ?_
  refine wp_static q149_16 (by decide) (Nat.le_of_ble_eq_true rfl) (by rfl) (by rfl) ⟨(Nat.le_of_ble_eq_true rfl), (Nat.le_of_ble_eq_true rfl), (Nat.le_of_ble_eq_true rfl)⟩ (Nat.le_of_ble_eq_true rfl) ?_
  refine wp_iload_n q147_0 (by rfl) ?_
  refine wp_iff (t := 14) q147_1 (by rfl) (by rfl) ?_
  refine wp_iload_n q147_4 (by rfl) ?_
  refine wp_iload_n q147_5 (by rfl) ?_
  refine wp_iadd q147_6 ?_
  refine wp_iconst q147_7 ?_
  refine wp_isub q147_8 ?_
  refine wp_iload_n q147_9 (by rfl) ?_
  refine wp_idiv q147_10 (by decide) ?_
  refine wp_goto (t := 15) q147_11 (by rfl) ?_
  refine wp_ireturn q147_15 (by rfl) (by rfl) ?_
  refine wK_v ?_
  refine wp_iconst q149_19 ?_
  refine wp_isub q149_20 ?_
  refine wp_static q149_21 (by decide) (Nat.le_of_ble_eq_true rfl) (by rfl) (by rfl) ⟨(Nat.le_of_ble_eq_true rfl), (Nat.le_of_ble_eq_true rfl), (Nat.le_of_ble_eq_true rfl)⟩ (Nat.le_of_ble_eq_true rfl) ?_
  refine wp_iload_n q47_0 (by rfl) ?_
  refine wp_iload_n q47_1 (by rfl) ?_
  refine wp_ict (t := 14) q47_2 e1 (by rfl) ?_
  refine wp_iconst q47_14 ?_
  refine wp_ireturn q47_15 (by rfl) (by rfl) ?_
  refine wK_v ?_
  refine wp_ift (t := 38) q149_24 (by rfl) (by rfl) ?_
  refine wp_throw q149_38 (by decide) ⟨(Nat.le_of_ble_eq_true rfl), (Nat.le_of_ble_eq_true rfl), (Nat.le_of_ble_eq_true rfl)⟩ ?_
  refine wK_c (by rfl) (by rfl) (by decide) (by rfl) ?_
  refine wp_iconst q148_21 ?_
  refine wp_ireturn q148_22 (by rfl) (by rfl) ?_
  refine wK_v ?_
  refine wp_istore qL_2429 (Nat.le_of_ble_eq_true rfl) ?_
  refine wp_aload_n qL_2431 (by rfl) ?_
  refine wp_aload_ns qL_2432 (by rfl) ?_
  refine wp_iload qL_2433 (by rfl) ?_
  refine wp_iconst qL_2435 ?_
  refine wp_iadd qL_2436 ?_
  refine wp_sload (x := (3)) qL_2437 (by rfl) (by rfl) ?_
  refine wp_aload_ns qL_2438 (by rfl) ?_
  refine wp_iload qL_2439 (by rfl) ?_
  refine wp_iconst qL_2441 ?_
  refine wp_iadd qL_2442 ?_
  refine wp_sload (x := x2) qL_2443 (by rfl) (by rfl) ?_
  refine wp_aload_ns qL_2444 (by rfl) ?_
  refine wp_iload qL_2445 (by rfl) ?_
  refine wp_iconst qL_2447 ?_
  refine wp_iadd qL_2448 ?_
  refine wp_sload (x := x3) qL_2449 (by rfl) (by rfl) ?_
  refine wp_virtual qL_2450 (by decide) (Nat.le_of_ble_eq_true rfl) (by rfl) (by rfl) (by rfl) ⟨(Nat.le_of_ble_eq_true rfl), (Nat.le_of_ble_eq_true rfl), (Nat.le_of_ble_eq_true rfl)⟩ (Nat.le_of_ble_eq_true rfl) ?_
  refine wp_iload_n q273_0 (by rfl) ?_
  refine wp_iconst q273_1 ?_
  refine wp_iload_n q273_2 (by rfl) ?_
  refine wp_iconst q273_3 ?_
  refine wp_isub q273_4 ?_
  refine wp_static q273_5 (by decide) (Nat.le_of_ble_eq_true rfl) (by rfl) (by rfl) ⟨(Nat.le_of_ble_eq_true rfl), (Nat.le_of_ble_eq_true rfl), (Nat.le_of_ble_eq_true rfl)⟩ (Nat.le_of_ble_eq_true rfl) ?_
  refine wp_iload_n q211_0 (by rfl) ?_
  refine wp_iload_n q211_1 (by rfl) ?_
  refine wp_icf (t := 14) q211_2 e2 (by rfl) ?_
  refine wp_iload_n q211_5 (by rfl) ?_
  refine wp_iload_n q211_6 (by rfl) ?_
  refine wp_icf (t := 14) q211_7 e3 (by rfl) ?_
  refine wp_iconst q211_10 ?_
  refine wp_goto (t := 15) q211_11 (by rfl) ?_
  refine wp_ireturn q211_15 (by rfl) (by rfl) ?_
  refine wK_v ?_
  refine wp_iff (t := 37) q273_8 (by rfl) (by rfl) ?_
  refine wp_iload_n q273_11 (by rfl) ?_
  refine wp_iconst q273_12 ?_
  refine wp_bipush q273_13 ?_
  refine wp_static q273_15 (by decide) (Nat.le_of_ble_eq_true rfl) (by rfl) (by rfl) ⟨(Nat.le_of_ble_eq_true rfl), (Nat.le_of_ble_eq_true rfl), (Nat.le_of_ble_eq_true rfl)⟩ (Nat.le_of_ble_eq_true rfl) ?_
  refine wp_iload_n q211_0 (by rfl) ?_
  refine wp_iload_n q211_1 (by rfl) ?_
  refine wp_ict (t := 14) q211_2 e4 (by rfl) ?_
  refine wp_iconst q211_14 ?_
  refine wp_ireturn q211_15 (by rfl) (by rfl) ?_
  refine wK_v ?_
  refine wp_ift (t := 37) q273_18 (by rfl) (by rfl) ?_
  refine wp_iconst q273_37 ?_
  refine wp_istore q273_38 (Nat.le_of_ble_eq_true rfl) ?_
  refine wp_aload_n q273_40 (by rfl) ?_
  refine wp_iload_n q273_41 (by rfl) ?_
  refine wp_iconst q273_42 ?_
  refine wp_bipush q273_43 ?_
  refine wp_static q273_45 (by decide) (Nat.le_of_ble_eq_true rfl) (by rfl) (by rfl) ⟨(Nat.le_of_ble_eq_true rfl), (Nat.le_of_ble_eq_true rfl), (Nat.le_of_ble_eq_true rfl)⟩ (Nat.le_of_ble_eq_true rfl) ?_
  refine wp_iload_n q211_0 (by rfl) ?_
  refine wp_iload_n q211_1 (by rfl) ?_
  refine wp_icf (t := 14) q211_2 (by rfl) (by rfl) ?_
  refine wp_iload_n q211_5 (by rfl) ?_
  refine wp_iload_n q211_6 (by rfl) ?_
  refine wp_icf (t := 14) q211_7 (by rfl) (by rfl) ?_
  refine wp_iconst q211_10 ?_
  refine wp_goto (t := 15) q211_11 (by rfl) ?_
  refine wp_ireturn q211_15 (by rfl) (by rfl) ?_
  refine wK_v ?_
  refine wp_ift (t := 55) q273_48 (by rfl) (by rfl) ?_
  refine wp_iload q273_55 (by rfl) ?_
  refine wp_iff (t := 64) q273_57 (by rfl) (by rfl) ?_
  refine wp_iconst q273_60 ?_
  refine wp_goto (t := 65) q273_61 (by rfl) ?_
  refine wp_putfield q273_65 (by rfl) (Nat.le_of_ble_eq_true rfl) (by rfl) ?_
  refine wp_aload_n q273_68 (by rfl) ?_
  refine wp_getfield q273_69 (by rfl) (by rfl) ?_
  refine wp_iff (t := 77) q273_72 (by rfl) (by rfl) ?_
  refine wp_iconst q273_75 ?_
  refine wp_ireturn q273_76 (by rfl) (by rfl) ?_
  refine wK_v ?_
  refine wp_istore qL_2453 (Nat.le_of_ble_eq_true rfl) ?_
  refine wp_aload_n qL_2455 (by rfl) ?_
  refine wp_virtual qL_2456 (by decide) (Nat.le_of_ble_eq_true rfl) (by rfl) (by rfl) (by rfl) ⟨(Nat.le_of_ble_eq_true rfl), (Nat.le_of_ble_eq_true rfl), (Nat.le_of_ble_eq_true rfl)⟩ (Nat.le_of_ble_eq_true rfl) ?_
  refine wp_aload_n q209_0 (by rfl) ?_
  refine wp_getfield q209_1 (by rfl) (by rfl) ?_
  refine wp_ireturn q209_4 (by rfl) (by rfl) ?_
  refine wK_v ?_
  refine wp_iload qL_2459 (by rfl) ?_
  refine wp_ict (t := 2466) qL_2461 (by rfl) (by rfl) ?_
  refine wp_iload qL_2466 (by rfl) ?_
  refine wp_ift (t := 2483) qL_2468 (by rfl) (by rfl) ?_
  refine wp_goto (t := 3983) qL_2483 (by rfl) ?_
  refine wp_iinc qL_3983 (by rfl) (Nat.le_of_ble_eq_true rfl) ?_
  refine wp_goto (t := 28) qL_3986 (by rfl) ?_
  refine wp_iload qL_28 (by rfl) ?_
  refine wp_aload_ns qL_30 (by rfl) ?_
  refine wp_slen (n := 5) qL_31 rfl ?_
  refine wp_iconst qL_32 ?_
  refine wp_isub qL_33 ?_
  refine wp_ict (t := 3989) qL_34 (by rfl) (by rfl) ?_
  refine wp_iconst qL_3989 ?_
  refine wp_ireturn qL_3990 (by rfl) (by rfl) ?_
  rfl
theorem pt_35_22 {x0 x2 x3 x4 : Int32} (e0 : x0 &&& 63 = Int32.ofNat 35) (e1 : sC2 .lt x2 (0) = true) (e2 : sC2 .lt x3 (0) = false) (e3 : sC2 .gt x3 (2) = true) : wLaw [x0, (3), x2, x3, x4] := by
  unfold wLaw
  refine wp_iload qL_28 (by rfl) ?_
  refine wp_aload_ns qL_30 (by rfl) ?_
  refine wp_slen (n := 5) qL_31 rfl ?_
  refine wp_iconst qL_32 ?_
  refine wp_isub qL_33 ?_
  refine wp_icf (t := 3989) qL_34 (by rfl) (by rfl) ?_
  refine wp_aload_ns qL_37 (by rfl) ?_
  refine wp_iload qL_38 (by rfl) ?_
  refine wp_sload (x := x0) qL_40 (by rfl) (by rfl) ?_
  refine wp_bipush qL_41 ?_
  refine wp_iand qL_43 ?_
  refine wp_switch (t := 2406) qL_44 e0 (by rfl) ?_
  refine wp_aload_n qL_2406 (by rfl) ?_
  refine wp_aload_ns qL_2407 (by rfl) ?_
  refine wp_iload qL_2408 (by rfl) ?_
  refine wp_iconst qL_2410 ?_
  refine wp_iadd qL_2411 ?_
  refine wp_sload (x := (3)) qL_2412 (by rfl) (by rfl) ?_
  refine wp_aload_ns qL_2413 (by rfl) ?_
  refine wp_iload qL_2414 (by rfl) ?_
  refine wp_iconst qL_2416 ?_
  refine wp_iadd qL_2417 ?_
  refine wp_sload (x := x2) qL_2418 (by rfl) (by rfl) ?_
  refine wp_aload_ns qL_2419 (by rfl) ?_
  refine wp_iload qL_2420 (by rfl) ?_
  refine wp_iconst qL_2422 ?_
  refine wp_iadd qL_2423 ?_
  refine wp_sload (x := x3) qL_2424 (by rfl) (by rfl) ?_
  refine wp_aload_n qL_2425 (by rfl) ?_
  refine wp_static qL_2426 (by decide) (Nat.le_of_ble_eq_true rfl) (by rfl) (by rfl) ⟨(Nat.le_of_ble_eq_true rfl), (Nat.le_of_ble_eq_true rfl), (Nat.le_of_ble_eq_true rfl)⟩ (Nat.le_of_ble_eq_true rfl) ?_
  refine wp_aload q148_0 (by rfl) ?_
  refine wp_iconst q148_2 ?_
  refine wp_aload_n q148_3 (by rfl) ?_
  refine wp_iload_n q148_4 (by rfl) ?_
  refine wp_iload_n q148_5 (by rfl) ?_
  refine wp_iload_n q148_6 (by rfl) ?_
  refine wp_virtual q148_7 (by decide) (Nat.le_of_ble_eq_true rfl) (by rfl) (by rfl) (by rfl) ⟨(Nat.le_of_ble_eq_true rfl), (Nat.le_of_ble_eq_true rfl), (Nat.le_of_ble_eq_true rfl)⟩ (Nat.le_of_ble_eq_true rfl) ?_
  refine wp_aload_n q149_0 (by rfl) ?_
  refine wp_iload_n q149_1 (by rfl) ?_
  refine wp_virtual q149_2 (by decide) (Nat.le_of_ble_eq_true rfl) (by rfl) (by rfl) (by rfl) ⟨(Nat.le_of_ble_eq_true rfl), (Nat.le_of_ble_eq_true rfl), (Nat.le_of_ble_eq_true rfl)⟩ (Nat.le_of_ble_eq_true rfl) ?_
  refine wp_iload_n q146_0 (by rfl) ?_
  refine wp_iconst q146_1 ?_
  refine wp_bipush q146_2 ?_
  refine wp_static q146_4 (by decide) (Nat.le_of_ble_eq_true rfl) (by rfl) (by rfl) ⟨(Nat.le_of_ble_eq_true rfl), (Nat.le_of_ble_eq_true rfl), (Nat.le_of_ble_eq_true rfl)⟩ (Nat.le_of_ble_eq_true rfl) ?_
  refine wp_iload_n q47_0 (by rfl) ?_
  refine wp_iload_n q47_1 (by rfl) ?_
  refine wp_icf (t := 14) q47_2 (by rfl) (by rfl) ?_
  refine wp_iload_n q47_5 (by rfl) ?_
  refine wp_iload_n q47_6 (by rfl) ?_
  refine wp_icf (t := 14) q47_7 (by rfl) (by rfl) ?_
  refine wp_iconst q47_10 ?_
  refine wp_goto (t := 15) q47_11 (by rfl) ?_
  refine wp_ireturn q47_15 (by rfl) (by rfl) ?_
  refine wK_v ?_
  refine wp_ift (t := 21) q146_7 (by rfl) (by rfl) ?_
  refine wp_return q146_21 (by rfl) ?_
  refine wK_n ?_
  refine wp_aload_n q149_5 (by rfl) ?_
  refine wp_virtual q149_6 (by decide) (Nat.le_of_ble_eq_true rfl) (by rfl) (by rfl) (by rfl) ⟨(Nat.le_of_ble_eq_true rfl), (Nat.le_of_ble_eq_true rfl), (Nat.le_of_ble_eq_true rfl)⟩ (Nat.le_of_ble_eq_true rfl) ?_
  refine wp_iconst q12_0 ?_
  refine wp_istore_n q12_1 (Nat.le_of_ble_eq_true rfl) ?_
  refine wp_iconst q12_2 ?_
  refine wp_istore_n q12_3 (Nat.le_of_ble_eq_true rfl) ?_
  refine wp_iload_n q12_4 (by rfl) ?_
  refine wp_aload_n q12_5 (by rfl) ?_
  refine wp_getfield q12_6 (by rfl) (by rfl) ?_
  refine wp_ict (t := 34) q12_9 (by rfl) (by rfl) ?_
  refine wp_iload_n q12_34 (by rfl) ?_
  refine wp_ireturn q12_35 (by rfl) (by rfl) ?_
  refine wK_v ?_
  refine wp_istore q149_9 (Nat.le_of_ble_eq_true rfl) ?_
  refine wp_iload_n q149_11 (by rfl) ?_
  refine wp_iconst q149_12 ?_
  refine wp_iload_n q149_13 (by rfl) ?_
  refine wp_iload q149_14 (by rfl) ?_
  refine wp_static q149_16 (by decide) (Nat.le_of_ble_eq_true rfl) (by rfl) (by rfl) ⟨(Nat.le_of_ble_eq_true rfl), (Nat.le_of_ble_eq_true rfl), (Nat.le_of_ble_eq_true rfl)⟩ (Nat.le_of_ble_eq_true rfl) ?_
  refine wp_iload_n q147_0 (by rfl) ?_
  refine wp_iff (t := 14) q147_1 (by rfl) (by rfl) ?_
  refine wp_iload_n q147_4 (by rfl) ?_
  refine wp_iload_n q147_5 (by rfl) ?_
  refine wp_iadd q147_6 ?_
  refine wp_iconst q147_7 ?_
  refine wp_isub q147_8 ?_
  refine wp_iload_n q147_9 (by rfl) ?_
  refine wp_idiv q147_10 (by decide) ?_
  refine wp_goto (t := 15) q147_11 (by rfl) ?_
  refine wp_ireturn q147_15 (by rfl) (by rfl) ?_
  refine wK_v ?_
  refine wp_iconst q149_19 ?_
  refine wp_isub q149_20 ?_
  refine wp_static q149_21 (by decide) (Nat.le_of_ble_eq_true rfl) (by rfl) (by rfl) ⟨(Nat.le_of_ble_eq_true rfl), (Nat.le_of_ble_eq_true rfl), (Nat.le_of_ble_eq_true rfl)⟩ (Nat.le_of_ble_eq_true rfl) ?_
  refine wp_iload_n q47_0 (by rfl) ?_
  refine wp_iload_n q47_1 (by rfl) ?_
  refine wp_ict (t := 14) q47_2 e1 (by rfl) ?_
  refine wp_iconst q47_14 ?_
  refine wp_ireturn q47_15 (by rfl) (by rfl) ?_
  refine wK_v ?_
  refine wp_ift (t := 38) q149_24 (by rfl) (by rfl) ?_
  refine wp_throw q149_38 (by decide) ⟨(Nat.le_of_ble_eq_true rfl), (Nat.le_of_ble_eq_true rfl), (Nat.le_of_ble_eq_true rfl)⟩ ?_
  refine wK_c (by rfl) (by rfl) (by decide) (by rfl) ?_
  refine wp_iconst q148_21 ?_
  refine wp_ireturn q148_22 (by rfl) (by rfl) ?_
  refine wK_v ?_
  refine wp_istore qL_2429 (Nat.le_of_ble_eq_true rfl) ?_
  refine wp_aload_n qL_2431 (by rfl) ?_
  refine wp_aload_ns qL_2432 (by rfl) ?_
  refine wp_iload qL_2433 (by rfl) ?_
  refine wp_iconst qL_2435 ?_
  refine wp_iadd qL_2436 ?_
  refine wp_sload (x := (3)) qL_2437 (by rfl) (by rfl) ?_
  refine wp_aload_ns qL_2438 (by rfl) ?_
  refine wp_iload qL_2439 (by rfl) ?_
  refine wp_iconst qL_2441 ?_
  refine wp_iadd qL_2442 ?_
  refine wp_sload (x := x2) qL_2443 (by rfl) (by rfl) ?_
  refine wp_aload_ns qL_2444 (by rfl) ?_
  refine wp_iload qL_2445 (by rfl) ?_
  refine wp_iconst qL_2447 ?_
  refine wp_iadd qL_2448 ?_
  refine wp_sload (x := x3) qL_2449 (by rfl) (by rfl) ?_
  refine wp_virtual qL_2450 (by decide) (Nat.le_of_ble_eq_true rfl) (by rfl) (by rfl) (by rfl) ⟨(Nat.le_of_ble_eq_true rfl), (Nat.le_of_ble_eq_true rfl), (Nat.le_of_ble_eq_true rfl)⟩ (Nat.le_of_ble_eq_true rfl) ?_
  refine wp_iload_n q273_0 (by rfl) ?_
  refine wp_iconst q273_1 ?_
  refine wp_iload_n q273_2 (by rfl) ?_
  refine wp_iconst q273_3 ?_
  refine wp_isub q273_4 ?_
  refine wp_static q273_5 (by decide) (Nat.le_of_ble_eq_true rfl) (by rfl) (by rfl) ⟨(Nat.le_of_ble_eq_true rfl), (Nat.le_of_ble_eq_true rfl), (Nat.le_of_ble_eq_true rfl)⟩ (Nat.le_of_ble_eq_true rfl) ?_
  refine wp_iload_n q211_0 (by rfl) ?_
  refine wp_iload_n q211_1 (by rfl) ?_
  refine wp_icf (t := 14) q211_2 e2 (by rfl) ?_
  refine wp_iload_n q211_5 (by rfl) ?_
  refine wp_iload_n q211_6 (by rfl) ?_
  refine wp_ict (t := 14) q211_7 e3 (by rfl) ?_
  refine wp_iconst q211_14 ?_
  refine wp_ireturn q211_15 (by rfl) (by rfl) ?_
  refine wK_v ?_
  refine wp_ift (t := 37) q273_8 (by rfl) (by rfl) ?_
  refine wp_iconst q273_37 ?_
  refine wp_istore q273_38 (Nat.le_of_ble_eq_true rfl) ?_
  refine wp_aload_n q273_40 (by rfl) ?_
  refine wp_iload_n q273_41 (by rfl) ?_
  refine wp_iconst q273_42 ?_
  refine wp_bipush q273_43 ?_
  refine wp_static q273_45 (by decide) (Nat.le_of_ble_eq_true rfl) (by rfl) (by rfl) ⟨(Nat.le_of_ble_eq_true rfl), (Nat.le_of_ble_eq_true rfl), (Nat.le_of_ble_eq_true rfl)⟩ (Nat.le_of_ble_eq_true rfl) ?_
  refine wp_iload_n q211_0 (by rfl) ?_
  refine wp_iload_n q211_1 (by rfl) ?_
  refine wp_icf (t := 14) q211_2 (by rfl) (by rfl) ?_
  refine wp_iload_n q211_5 (by rfl) ?_
  refine wp_iload_n q211_6 (by rfl) ?_
  refine wp_icf (t := 14) q211_7 (by rfl) (by rfl) ?_
  refine wp_iconst q211_10 ?_
  refine wp_goto (t := 15) q211_11 (by rfl) ?_
  refine wp_ireturn q211_15 (by rfl) (by rfl) ?_
  refine wK_v ?_
  refine wp_ift (t := 55) q273_48 (by rfl) (by rfl) ?_
  refine wp_iload q273_55 (by rfl) ?_
  refine wp_iff (t := 64) q273_57 (by rfl) (by rfl) ?_
  refine wp_iconst q273_60 ?_
  refine wp_goto (t := 65) q273_61 (by rfl) ?_
  refine wp_putfield q273_65 (by rfl) (Nat.le_of_ble_eq_true rfl) (by rfl) ?_
  refine wp_aload_n q273_68 (by rfl) ?_
  refine wp_getfield q273_69 (by rfl) (by rfl) ?_
  refine wp_iff (t := 77) q273_72 (by rfl) (by rfl) ?_
  refine wp_iconst q273_75 ?_
  refine wp_ireturn q273_76 (by rfl) (by rfl) ?_
  refine wK_v ?_
  refine wp_istore qL_2453 (Nat.le_of_ble_eq_true rfl) ?_
  refine wp_aload_n qL_2455 (by rfl) ?_
  refine wp_virtual qL_2456 (by decide) (Nat.le_of_ble_eq_true rfl) (by rfl) (by rfl) (by rfl) ⟨(Nat.le_of_ble_eq_true rfl), (Nat.le_of_ble_eq_true rfl), (Nat.le_of_ble_eq_true rfl)⟩ (Nat.le_of_ble_eq_true rfl) ?_
  refine wp_aload_n q209_0 (by rfl) ?_
  refine wp_getfield q209_1 (by rfl) (by rfl) ?_
  refine wp_ireturn q209_4 (by rfl) (by rfl) ?_
  refine wK_v ?_
  refine wp_iload qL_2459 (by rfl) ?_
  refine wp_ict (t := 2466) qL_2461 (by rfl) (by rfl) ?_
  refine wp_iload qL_2466 (by rfl) ?_
  refine wp_ift (t := 2483) qL_2468 (by rfl) (by rfl) ?_
  refine wp_goto (t := 3983) qL_2483 (by rfl) ?_
  refine wp_iinc qL_3983 (by rfl) (Nat.le_of_ble_eq_true rfl) ?_
  refine wp_goto (t := 28) qL_3986 (by rfl) ?_
  refine wp_iload qL_28 (by rfl) ?_
  refine wp_aload_ns qL_30 (by rfl) ?_
  refine wp_slen (n := 5) qL_31 rfl ?_
  refine wp_iconst qL_32 ?_
  refine wp_isub qL_33 ?_
  refine wp_ict (t := 3989) qL_34 (by rfl) (by rfl) ?_
  refine wp_iconst qL_3989 ?_
  refine wp_ireturn qL_3990 (by rfl) (by rfl) ?_
  rfl
theorem pt_35_23 {x0 x2 x3 x4 : Int32} (e0 : x0 &&& 63 = Int32.ofNat 35) (e1 : sC2 .lt x2 (0) = false) (e2 : sC2 .gt x2 (-1) = true) (e3 : sC2 .lt x3 (0) = true) : wLaw [x0, (3), x2, x3, x4] := by
  unfold wLaw
  refine wp_iload qL_28 (by rfl) ?_
  refine wp_aload_ns qL_30 (by rfl) ?_
  refine wp_slen (n := 5) qL_31 rfl ?_
  refine wp_iconst qL_32 ?_
  refine wp_isub qL_33 ?_
  refine wp_icf (t := 3989) qL_34 (by rfl) (by rfl) ?_
  refine wp_aload_ns qL_37 (by rfl) ?_
  refine wp_iload qL_38 (by rfl) ?_
  refine wp_sload (x := x0) qL_40 (by rfl) (by rfl) ?_
  refine wp_bipush qL_41 ?_
  refine wp_iand qL_43 ?_
  refine wp_switch (t := 2406) qL_44 e0 (by rfl) ?_
  refine wp_aload_n qL_2406 (by rfl) ?_
  refine wp_aload_ns qL_2407 (by rfl) ?_
  refine wp_iload qL_2408 (by rfl) ?_
  refine wp_iconst qL_2410 ?_
  refine wp_iadd qL_2411 ?_
  refine wp_sload (x := (3)) qL_2412 (by rfl) (by rfl) ?_
  refine wp_aload_ns qL_2413 (by rfl) ?_
  refine wp_iload qL_2414 (by rfl) ?_
  refine wp_iconst qL_2416 ?_
  refine wp_iadd qL_2417 ?_
  refine wp_sload (x := x2) qL_2418 (by rfl) (by rfl) ?_
  refine wp_aload_ns qL_2419 (by rfl) ?_
  refine wp_iload qL_2420 (by rfl) ?_
  refine wp_iconst qL_2422 ?_
  refine wp_iadd qL_2423 ?_
  refine wp_sload (x := x3) qL_2424 (by rfl) (by rfl) ?_
  refine wp_aload_n qL_2425 (by rfl) ?_
  refine wp_static qL_2426 (by decide) (Nat.le_of_ble_eq_true rfl) (by rfl) (by rfl) ⟨(Nat.le_of_ble_eq_true rfl), (Nat.le_of_ble_eq_true rfl), (Nat.le_of_ble_eq_true rfl)⟩ (Nat.le_of_ble_eq_true rfl) ?_
  refine wp_aload q148_0 (by rfl) ?_
  refine wp_iconst q148_2 ?_
  refine wp_aload_n q148_3 (by rfl) ?_
  refine wp_iload_n q148_4 (by rfl) ?_
  refine wp_iload_n q148_5 (by rfl) ?_
  refine wp_iload_n q148_6 (by rfl) ?_
  refine wp_virtual q148_7 (by decide) (Nat.le_of_ble_eq_true rfl) (by rfl) (by rfl) (by rfl) ⟨(Nat.le_of_ble_eq_true rfl), (Nat.le_of_ble_eq_true rfl), (Nat.le_of_ble_eq_true rfl)⟩ (Nat.le_of_ble_eq_true rfl) ?_
  refine wp_aload_n q149_0 (by rfl) ?_
  refine wp_iload_n q149_1 (by rfl) ?_
  refine wp_virtual q149_2 (by decide) (Nat.le_of_ble_eq_true rfl) (by rfl) (by rfl) (by rfl) ⟨(Nat.le_of_ble_eq_true rfl), (Nat.le_of_ble_eq_true rfl), (Nat.le_of_ble_eq_true rfl)⟩ (Nat.le_of_ble_eq_true rfl) ?_
  refine wp_iload_n q146_0 (by rfl) ?_
  refine wp_iconst q146_1 ?_
  refine wp_bipush q146_2 ?_
  refine wp_static q146_4 (by decide) (Nat.le_of_ble_eq_true rfl) (by rfl) (by rfl) ⟨(Nat.le_of_ble_eq_true rfl), (Nat.le_of_ble_eq_true rfl), (Nat.le_of_ble_eq_true rfl)⟩ (Nat.le_of_ble_eq_true rfl) ?_
  refine wp_iload_n q47_0 (by rfl) ?_
  refine wp_iload_n q47_1 (by rfl) ?_
  refine wp_icf (t := 14) q47_2 (by rfl) (by rfl) ?_
  refine wp_iload_n q47_5 (by rfl) ?_
  refine wp_iload_n q47_6 (by rfl) ?_
  refine wp_icf (t := 14) q47_7 (by rfl) (by rfl) ?_
  refine wp_iconst q47_10 ?_
  refine wp_goto (t := 15) q47_11 (by rfl) ?_
  refine wp_ireturn q47_15 (by rfl) (by rfl) ?_
  refine wK_v ?_
  refine wp_ift (t := 21) q146_7 (by rfl) (by rfl) ?_
  refine wp_return q146_21 (by rfl) ?_
  refine wK_n ?_
  refine wp_aload_n q149_5 (by rfl) ?_
  refine wp_virtual q149_6 (by decide) (Nat.le_of_ble_eq_true rfl) (by rfl) (by rfl) (by rfl) ⟨(Nat.le_of_ble_eq_true rfl), (Nat.le_of_ble_eq_true rfl), (Nat.le_of_ble_eq_true rfl)⟩ (Nat.le_of_ble_eq_true rfl) ?_
  refine wp_iconst q12_0 ?_
  refine wp_istore_n q12_1 (Nat.le_of_ble_eq_true rfl) ?_
  refine wp_iconst q12_2 ?_
  refine wp_istore_n q12_3 (Nat.le_of_ble_eq_true rfl) ?_
  refine wp_iload_n q12_4 (by rfl) ?_
  refine wp_aload_n q12_5 (by rfl) ?_
  refine wp_getfield q12_6 (by rfl) (by rfl) ?_
  refine wp_ict (t := 34) q12_9 (by rfl) (by rfl) ?_
  refine wp_iload_n q12_34 (by rfl) ?_
  refine wp_ireturn q12_35 (by rfl) (by rfl) ?_
  refine wK_v ?_
  refine wp_istore q149_9 (Nat.le_of_ble_eq_true rfl) ?_
  refine wp_iload_n q149_11 (by rfl) ?_
  refine wp_iconst q149_12 ?_
  refine wp_iload_n q149_13 (by rfl) ?_
  refine wp_iload q149_14 (by rfl) ?_
  refine wp_static q149_16 (by decide) (Nat.le_of_ble_eq_true rfl) (by rfl) (by rfl) ⟨(Nat.le_of_ble_eq_true rfl), (Nat.le_of_ble_eq_true rfl), (Nat.le_of_ble_eq_true rfl)⟩ (Nat.le_of_ble_eq_true rfl) ?_
  refine wp_iload_n q147_0 (by rfl) ?_
  refine wp_iff (t := 14) q147_1 (by rfl) (by rfl) ?_
  refine wp_iload_n q147_4 (by rfl) ?_
  refine wp_iload_n q147_5 (by rfl) ?_
  refine wp_iadd q147_6 ?_
  refine wp_iconst q147_7 ?_
  refine wp_isub q147_8 ?_
  refine wp_iload_n q147_9 (by rfl) ?_
  refine wp_idiv q147_10 (by decide) ?_
  refine wp_goto (t := 15) q147_11 (by rfl) ?_
  refine wp_ireturn q147_15 (by rfl) (by rfl) ?_
  refine wK_v ?_
  refine wp_iconst q149_19 ?_
  refine wp_isub q149_20 ?_
  refine wp_static q149_21 (by decide) (Nat.le_of_ble_eq_true rfl) (by rfl) (by rfl) ⟨(Nat.le_of_ble_eq_true rfl), (Nat.le_of_ble_eq_true rfl), (Nat.le_of_ble_eq_true rfl)⟩ (Nat.le_of_ble_eq_true rfl) ?_
  refine wp_iload_n q47_0 (by rfl) ?_
  refine wp_iload_n q47_1 (by rfl) ?_
  refine wp_icf (t := 14) q47_2 e1 (by rfl) ?_
  refine wp_iload_n q47_5 (by rfl) ?_
  refine wp_iload_n q47_6 (by rfl) ?_
  refine wp_ict (t := 14) q47_7 e2 (by rfl) ?_
  refine wp_iconst q47_14 ?_
  refine wp_ireturn q47_15 (by rfl) (by rfl) ?_
  refine wK_v ?_
  refine wp_ift (t := 38) q149_24 (by rfl) (by rfl) ?_
  refine wp_throw q149_38 (by decide) ⟨(Nat.le_of_ble_eq_true rfl), (Nat.le_of_ble_eq_true rfl), (Nat.le_of_ble_eq_true rfl)⟩ ?_
  refine wK_c (by rfl) (by rfl) (by decide) (by rfl) ?_
  refine wp_iconst q148_21 ?_
  refine wp_ireturn q148_22 (by rfl) (by rfl) ?_
  refine wK_v ?_
  refine wp_istore qL_2429 (Nat.le_of_ble_eq_true rfl) ?_
  refine wp_aload_n qL_2431 (by rfl) ?_
  refine wp_aload_ns qL_2432 (by rfl) ?_
  refine wp_iload qL_2433 (by rfl) ?_
  refine wp_iconst qL_2435 ?_
  refine wp_iadd qL_2436 ?_
  refine wp_sload (x := (3)) qL_2437 (by rfl) (by rfl) ?_
  refine wp_aload_ns qL_2438 (by rfl) ?_
  refine wp_iload qL_2439 (by rfl) ?_
  refine wp_iconst qL_2441 ?_
  refine wp_iadd qL_2442 ?_
  refine wp_sload (x := x2) qL_2443 (by rfl) (by rfl) ?_
  refine wp_aload_ns qL_2444 (by rfl) ?_
  refine wp_iload qL_2445 (by rfl) ?_
  refine wp_iconst qL_2447 ?_
  refine wp_iadd qL_2448 ?_
  refine wp_sload (x := x3) qL_2449 (by rfl) (by rfl) ?_
  refine wp_virtual qL_2450 (by decide) (Nat.le_of_ble_eq_true rfl) (by rfl) (by rfl) (by rfl) ⟨(Nat.le_of_ble_eq_true rfl), (Nat.le_of_ble_eq_true rfl), (Nat.le_of_ble_eq_true rfl)⟩ (Nat.le_of_ble_eq_true rfl) ?_
  refine wp_iload_n q273_0 (by rfl) ?_
  refine wp_iconst q273_1 ?_
  refine wp_iload_n q273_2 (by rfl) ?_
  refine wp_iconst q273_3 ?_
  refine wp_isub q273_4 ?_
  refine wp_static q273_5 (by decide) (Nat.le_of_ble_eq_true rfl) (by rfl) (by rfl) ⟨(Nat.le_of_ble_eq_true rfl), (Nat.le_of_ble_eq_true rfl), (Nat.le_of_ble_eq_true rfl)⟩ (Nat.le_of_ble_eq_true rfl) ?_
  refine wp_iload_n q211_0 (by rfl) ?_
  refine wp_iload_n q211_1 (by rfl) ?_
  refine wp_ict (t := 14) q211_2 e3 (by rfl) ?_
  refine wp_iconst q211_14 ?_
  refine wp_ireturn q211_15 (by rfl) (by rfl) ?_
  refine wK_v ?_
  refine wp_ift (t := 37) q273_8 (by rfl) (by rfl) ?_
  refine wp_iconst q273_37 ?_
  refine wp_istore q273_38 (Nat.le_of_ble_eq_true rfl) ?_
  refine wp_aload_n q273_40 (by rfl) ?_
  refine wp_iload_n q273_41 (by rfl) ?_
  refine wp_iconst q273_42 ?_
  refine wp_bipush q273_43 ?_
  refine wp_static q273_45 (by decide) (Nat.le_of_ble_eq_true rfl) (by rfl) (by rfl) ⟨(Nat.le_of_ble_eq_true rfl), (Nat.le_of_ble_eq_true rfl), (Nat.le_of_ble_eq_true rfl)⟩ (Nat.le_of_ble_eq_true rfl) ?_
  refine wp_iload_n q211_0 (by rfl) ?_
  refine wp_iload_n q211_1 (by rfl) ?_
  refine wp_icf (t := 14) q211_2 (by rfl) (by rfl) ?_
  refine wp_iload_n q211_5 (by rfl) ?_
  refine wp_iload_n q211_6 (by rfl) ?_
  refine wp_icf (t := 14) q211_7 (by rfl) (by rfl) ?_
  refine wp_iconst q211_10 ?_
  refine wp_goto (t := 15) q211_11 (by rfl) ?_
  refine wp_ireturn q211_15 (by rfl) (by rfl) ?_
  refine wK_v ?_
  refine wp_ift (t := 55) q273_48 (by rfl) (by rfl) ?_
  refine wp_iload q273_55 (by rfl) ?_
  refine wp_iff (t := 64) q273_57 (by rfl) (by rfl) ?_
  refine wp_iconst q273_60 ?_
  refine wp_goto (t := 65) q273_61 (by rfl) ?_
  refine wp_putfield q273_65 (by rfl) (Nat.le_of_ble_eq_true rfl) (by rfl) ?_
  refine wp_aload_n q273_68 (by rfl) ?_
  refine wp_getfield q273_69 (by rfl) (by rfl) ?_
  refine wp_iff (t := 77) q273_72 (by rfl) (by rfl) ?_
  refine wp_iconst q273_75 ?_
  refine wp_ireturn q273_76 (by rfl) (by rfl) ?_
  refine wK_v ?_
  refine wp_istore qL_2453 (Nat.le_of_ble_eq_true rfl) ?_
  refine wp_aload_n qL_2455 (by rfl) ?_
  refine wp_virtual qL_2456 (by decide) (Nat.le_of_ble_eq_true rfl) (by rfl) (by rfl) (by rfl) ⟨(Nat.le_of_ble_eq_true rfl), (Nat.le_of_ble_eq_true rfl), (Nat.le_of_ble_eq_true rfl)⟩ (Nat.le_of_ble_eq_true rfl) ?_
  refine wp_aload_n q209_0 (by rfl) ?_
  refine wp_getfield q209_1 (by rfl) (by rfl) ?_
  refine wp_ireturn q209_4 (by rfl) (by rfl) ?_
  refine wK_v ?_
  refine wp_iload qL_2459 (by rfl) ?_
  refine wp_ict (t := 2466) qL_2461 (by rfl) (by rfl) ?_
  refine wp_iload qL_2466 (by rfl) ?_
  refine wp_ift (t := 2483) qL_2468 (by rfl) (by rfl) ?_
  refine wp_goto (t := 3983) qL_2483 (by rfl) ?_
  refine wp_iinc qL_3983 (by rfl) (Nat.le_of_ble_eq_true rfl) ?_
  refine wp_goto (t := 28) qL_3986 (by rfl) ?_
  refine wp_iload qL_28 (by rfl) ?_
  refine wp_aload_ns qL_30 (by rfl) ?_
  refine wp_slen (n := 5) qL_31 rfl ?_
  refine wp_iconst qL_32 ?_
  refine wp_isub qL_33 ?_
  refine wp_ict (t := 3989) qL_34 (by rfl) (by rfl) ?_
  refine wp_iconst qL_3989 ?_
  refine wp_ireturn qL_3990 (by rfl) (by rfl) ?_
  rfl
theorem pt_35_24 {x0 x2 x3 x4 : Int32} (e0 : x0 &&& 63 = Int32.ofNat 35) (e1 : sC2 .lt x2 (0) = false) (e2 : sC2 .gt x2 (-1) = true) (e3 : sC2 .lt x3 (0) = false) (e4 : sC2 .gt x3 (2) = false) (e5 : sC2 .lt x2 (0) = false) (e6 : sC2 .gt x2 (9) = false) (e7 : sC2 .ge ((x2 * (3)) + x3) (0) = true) : wLaw [x0, (3), x2, x3, x4] := by
  unfold wLaw
  refine wp_iload qL_28 (by rfl) ?_
  refine wp_aload_ns qL_30 (by rfl) ?_
  refine wp_slen (n := 5) qL_31 rfl ?_
  refine wp_iconst qL_32 ?_
  refine wp_isub qL_33 ?_
  refine wp_icf (t := 3989) qL_34 (by rfl) (by rfl) ?_
  refine wp_aload_ns qL_37 (by rfl) ?_
  refine wp_iload qL_38 (by rfl) ?_
  refine wp_sload (x := x0) qL_40 (by rfl) (by rfl) ?_
  refine wp_bipush qL_41 ?_
  refine wp_iand qL_43 ?_
  refine wp_switch (t := 2406) qL_44 e0 (by rfl) ?_
  refine wp_aload_n qL_2406 (by rfl) ?_
  refine wp_aload_ns qL_2407 (by rfl) ?_
  refine wp_iload qL_2408 (by rfl) ?_
  refine wp_iconst qL_2410 ?_
  refine wp_iadd qL_2411 ?_
  refine wp_sload (x := (3)) qL_2412 (by rfl) (by rfl) ?_
  refine wp_aload_ns qL_2413 (by rfl) ?_
  refine wp_iload qL_2414 (by rfl) ?_
  refine wp_iconst qL_2416 ?_
  refine wp_iadd qL_2417 ?_
  refine wp_sload (x := x2) qL_2418 (by rfl) (by rfl) ?_
  refine wp_aload_ns qL_2419 (by rfl) ?_
  refine wp_iload qL_2420 (by rfl) ?_
  refine wp_iconst qL_2422 ?_
  refine wp_iadd qL_2423 ?_
  refine wp_sload (x := x3) qL_2424 (by rfl) (by rfl) ?_
  refine wp_aload_n qL_2425 (by rfl) ?_
  refine wp_static qL_2426 (by decide) (Nat.le_of_ble_eq_true rfl) (by rfl) (by rfl) ⟨(Nat.le_of_ble_eq_true rfl), (Nat.le_of_ble_eq_true rfl), (Nat.le_of_ble_eq_true rfl)⟩ (Nat.le_of_ble_eq_true rfl) ?_
  refine wp_aload q148_0 (by rfl) ?_
  refine wp_iconst q148_2 ?_
  refine wp_aload_n q148_3 (by rfl) ?_
  refine wp_iload_n q148_4 (by rfl) ?_
  refine wp_iload_n q148_5 (by rfl) ?_
  refine wp_iload_n q148_6 (by rfl) ?_
  refine wp_virtual q148_7 (by decide) (Nat.le_of_ble_eq_true rfl) (by rfl) (by rfl) (by rfl) ⟨(Nat.le_of_ble_eq_true rfl), (Nat.le_of_ble_eq_true rfl), (Nat.le_of_ble_eq_true rfl)⟩ (Nat.le_of_ble_eq_true rfl) ?_
  refine wp_aload_n q149_0 (by rfl) ?_
  refine wp_iload_n q149_1 (by rfl) ?_
  refine wp_virtual q149_2 (by decide) (Nat.le_of_ble_eq_true rfl) (by rfl) (by rfl) (by rfl) ⟨(Nat.le_of_ble_eq_true rfl), (Nat.le_of_ble_eq_true rfl), (Nat.le_of_ble_eq_true rfl)⟩ (Nat.le_of_ble_eq_true rfl) ?_
  refine wp_iload_n q146_0 (by rfl) ?_
  refine wp_iconst q146_1 ?_
  refine wp_bipush q146_2 ?_
  refine wp_static q146_4 (by decide) (Nat.le_of_ble_eq_true rfl) (by rfl) (by rfl) ⟨(Nat.le_of_ble_eq_true rfl), (Nat.le_of_ble_eq_true rfl), (Nat.le_of_ble_eq_true rfl)⟩ (Nat.le_of_ble_eq_true rfl) ?_
  refine wp_iload_n q47_0 (by rfl) ?_
  refine wp_iload_n q47_1 (by rfl) ?_
  refine wp_icf (t := 14) q47_2 (by rfl) (by rfl) ?_
  refine wp_iload_n q47_5 (by rfl) ?_
  refine wp_iload_n q47_6 (by rfl) ?_
  refine wp_icf (t := 14) q47_7 (by rfl) (by rfl) ?_
  refine wp_iconst q47_10 ?_
  refine wp_goto (t := 15) q47_11 (by rfl) ?_
  refine wp_ireturn q47_15 (by rfl) (by rfl) ?_
  refine wK_v ?_
  refine wp_ift (t := 21) q146_7 (by rfl) (by rfl) ?_
  refine wp_return q146_21 (by rfl) ?_
  refine wK_n ?_
  refine wp_aload_n q149_5 (by rfl) ?_
  refine wp_virtual q149_6 (by decide) (Nat.le_of_ble_eq_true rfl) (by rfl) (by rfl) (by rfl) ⟨(Nat.le_of_ble_eq_true rfl), (Nat.le_of_ble_eq_true rfl), (Nat.le_of_ble_eq_true rfl)⟩ (Nat.le_of_ble_eq_true rfl) ?_
  refine wp_iconst q12_0 ?_
  refine wp_istore_n q12_1 (Nat.le_of_ble_eq_true rfl) ?_
  refine wp_iconst q12_2 ?_
  refine wp_istore_n q12_3 (Nat.le_of_ble_eq_true rfl) ?_
  refine wp_iload_n q12_4 (by rfl) ?_
  refine wp_aload_n q12_5 (by rfl) ?_
  refine wp_getfield q12_6 (by rfl) (by rfl) ?_
  refine wp_ict (t := 34) q12_9 (by rfl) (by rfl) ?_
  refine wp_iload_n q12_34 (by rfl) ?_
  refine wp_ireturn q12_35 (by rfl) (by rfl) ?_
  refine wK_v ?_
  refine wp_istore q149_9 (Nat.le_of_ble_eq_true rfl) ?_
  refine wp_iload_n q149_11 (by rfl) ?_
  refine wp_iconst q149_12 ?_
  refine wp_iload_n q149_13 (by rfl) ?_
  refine wp_iload q149_14 (by rfl) ?_
  refine wp_static q149_16 (by decide) (Nat.le_of_ble_eq_true rfl) (by rfl) (by rfl) ⟨(Nat.le_of_ble_eq_true rfl), (Nat.le_of_ble_eq_true rfl), (Nat.le_of_ble_eq_true rfl)⟩ (Nat.le_of_ble_eq_true rfl) ?_
  refine wp_iload_n q147_0 (by rfl) ?_
  refine wp_iff (t := 14) q147_1 (by rfl) (by rfl) ?_
  refine wp_iload_n q147_4 (by rfl) ?_
  refine wp_iload_n q147_5 (by rfl) ?_
  refine wp_iadd q147_6 ?_
  refine wp_iconst q147_7 ?_
  refine wp_isub q147_8 ?_
  refine wp_iload_n q147_9 (by rfl) ?_
  refine wp_idiv q147_10 (by decide) ?_
  refine wp_goto (t := 15) q147_11 (by rfl) ?_
  refine wp_ireturn q147_15 (by rfl) (by rfl) ?_
  refine wK_v ?_
  refine wp_iconst q149_19 ?_
  refine wp_isub q149_20 ?_
  refine wp_static q149_21 (by decide) (Nat.le_of_ble_eq_true rfl) (by rfl) (by rfl) ⟨(Nat.le_of_ble_eq_true rfl), (Nat.le_of_ble_eq_true rfl), (Nat.le_of_ble_eq_true rfl)⟩ (Nat.le_of_ble_eq_true rfl) ?_
  refine wp_iload_n q47_0 (by rfl) ?_
  refine wp_iload_n q47_1 (by rfl) ?_
  refine wp_icf (t := 14) q47_2 e1 (by rfl) ?_
  refine wp_iload_n q47_5 (by rfl) ?_
  refine wp_iload_n q47_6 (by rfl) ?_
  refine wp_ict (t := 14) q47_7 e2 (by rfl) ?_
  refine wp_iconst q47_14 ?_
  refine wp_ireturn q47_15 (by rfl) (by rfl) ?_
  refine wK_v ?_
  refine wp_ift (t := 38) q149_24 (by rfl) (by rfl) ?_
  refine wp_throw q149_38 (by decide) ⟨(Nat.le_of_ble_eq_true rfl), (Nat.le_of_ble_eq_true rfl), (Nat.le_of_ble_eq_true rfl)⟩ ?_
  refine wK_c (by rfl) (by rfl) (by decide) (by rfl) ?_
  refine wp_iconst q148_21 ?_
  refine wp_ireturn q148_22 (by rfl) (by rfl) ?_
  refine wK_v ?_
  refine wp_istore qL_2429 (Nat.le_of_ble_eq_true rfl) ?_
  refine wp_aload_n qL_2431 (by rfl) ?_
  refine wp_aload_ns qL_2432 (by rfl) ?_
  refine wp_iload qL_2433 (by rfl) ?_
  refine wp_iconst qL_2435 ?_
  refine wp_iadd qL_2436 ?_
  refine wp_sload (x := (3)) qL_2437 (by rfl) (by rfl) ?_
  refine wp_aload_ns qL_2438 (by rfl) ?_
  refine wp_iload qL_2439 (by rfl) ?_
  refine wp_iconst qL_2441 ?_
  refine wp_iadd qL_2442 ?_
  refine wp_sload (x := x2) qL_2443 (by rfl) (by rfl) ?_
  refine wp_aload_ns qL_2444 (by rfl) ?_
  refine wp_iload qL_2445 (by rfl) ?_
  refine wp_iconst qL_2447 ?_
  refine wp_iadd qL_2448 ?_
  refine wp_sload (x := x3) qL_2449 (by rfl) (by rfl) ?_
  refine wp_virtual qL_2450 (by decide) (Nat.le_of_ble_eq_true rfl) (by rfl) (by rfl) (by rfl) ⟨(Nat.le_of_ble_eq_true rfl), (Nat.le_of_ble_eq_true rfl), (Nat.le_of_ble_eq_true rfl)⟩ (Nat.le_of_ble_eq_true rfl) ?_
  refine wp_iload_n q273_0 (by rfl) ?_
  refine wp_iconst q273_1 ?_
  refine wp_iload_n q273_2 (by rfl) ?_
  refine wp_iconst q273_3 ?_
  refine wp_isub q273_4 ?_
  refine wp_static q273_5 (by decide) (Nat.le_of_ble_eq_true rfl) (by rfl) (by rfl) ⟨(Nat.le_of_ble_eq_true rfl), (Nat.le_of_ble_eq_true rfl), (Nat.le_of_ble_eq_true rfl)⟩ (Nat.le_of_ble_eq_true rfl) ?_
  refine wp_iload_n q211_0 (by rfl) ?_
  refine wp_iload_n q211_1 (by rfl) ?_
  refine wp_icf (t := 14) q211_2 e3 (by rfl) ?_
  refine wp_iload_n q211_5 (by rfl) ?_
  refine wp_iload_n q211_6 (by rfl) ?_
  refine wp_icf (t := 14) q211_7 e4 (by rfl) ?_
  refine wp_iconst q211_10 ?_
  refine wp_goto (t := 15) q211_11 (by rfl) ?_
  refine wp_ireturn q211_15 (by rfl) (by rfl) ?_
  refine wK_v ?_
  refine wp_iff (t := 37) q273_8 (by rfl) (by rfl) ?_
  refine wp_iload_n q273_11 (by rfl) ?_
  refine wp_iconst q273_12 ?_
  refine wp_bipush q273_13 ?_
  refine wp_static q273_15 (by decide) (Nat.le_of_ble_eq_true rfl) (by rfl) (by rfl) ⟨(Nat.le_of_ble_eq_true rfl), (Nat.le_of_ble_eq_true rfl), (Nat.le_of_ble_eq_true rfl)⟩ (Nat.le_of_ble_eq_true rfl) ?_
  refine wp_iload_n q211_0 (by rfl) ?_
  refine wp_iload_n q211_1 (by rfl) ?_
  refine wp_icf (t := 14) q211_2 e5 (by rfl) ?_
  refine wp_iload_n q211_5 (by rfl) ?_
  refine wp_iload_n q211_6 (by rfl) ?_
  refine wp_icf (t := 14) q211_7 e6 (by rfl) ?_
  refine wp_iconst q211_10 ?_
  refine wp_goto (t := 15) q211_11 (by rfl) ?_
  refine wp_ireturn q211_15 (by rfl) (by rfl) ?_
  refine wK_v ?_
  refine wp_iff (t := 37) q273_18 (by rfl) (by rfl) ?_
  refine wp_iload_n q273_21 (by rfl) ?_
  refine wp_iload_n q273_22 (by rfl) ?_
  refine wp_imul q273_23 ?_
  refine wp_iload_n q273_24 (by rfl) ?_
  refine wp_iadd q273_25 ?_
  refine wp_aload_n q273_26 (by rfl) ?_
  refine wp_virtual q273_27 (by decide) (Nat.le_of_ble_eq_true rfl) (by rfl) (by rfl) (by rfl) ⟨(Nat.le_of_ble_eq_true rfl), (Nat.le_of_ble_eq_true rfl), (Nat.le_of_ble_eq_true rfl)⟩ (Nat.le_of_ble_eq_true rfl) ?_
  refine wp_iconst q247_0 ?_
  refine wp_istore_n q247_1 (Nat.le_of_ble_eq_true rfl) ?_
  refine wp_iconst q247_2 ?_
  refine wp_istore_n q247_3 (Nat.le_of_ble_eq_true rfl) ?_
  refine wp_iload_n q247_4 (by rfl) ?_
  refine wp_aload_n q247_5 (by rfl) ?_
  refine wp_getfield q247_6 (by rfl) (by rfl) ?_
  refine wp_ict (t := 34) q247_9 (by rfl) (by rfl) ?_
  refine wp_iload_n q247_34 (by rfl) ?_
  refine wp_ireturn q247_35 (by rfl) (by rfl) ?_
  refine wK_v ?_
  refine wp_ict (t := 37) q273_30 e7 (by rfl) ?_
  refine wp_iconst q273_37 ?_
  refine wp_istore q273_38 (Nat.le_of_ble_eq_true rfl) ?_
  refine wp_aload_n q273_40 (by rfl) ?_
  refine wp_iload_n q273_41 (by rfl) ?_
  refine wp_iconst q273_42 ?_
  refine wp_bipush q273_43 ?_
  refine wp_static q273_45 (by decide) (Nat.le_of_ble_eq_true rfl) (by rfl) (by rfl) ⟨(Nat.le_of_ble_eq_true rfl), (Nat.le_of_ble_eq_true rfl), (Nat.le_of_ble_eq_true rfl)⟩ (Nat.le_of_ble_eq_true rfl) ?_
  refine wp_iload_n q211_0 (by rfl) ?_
  refine wp_iload_n q211_1 (by rfl) ?_
  refine wp_icf (t := 14) q211_2 (by rfl) (by rfl) ?_
  refine wp_iload_n q211_5 (by rfl) ?_
  refine wp_iload_n q211_6 (by rfl) ?_
  refine wp_icf (t := 14) q211_7 (by rfl) (by rfl) ?_
  refine wp_iconst q211_10 ?_
  refine wp_goto (t := 15) q211_11 (by rfl) ?_
  refine wp_ireturn q211_15 (by rfl) (by rfl) ?_
  refine wK_v ?_
  refine wp_ift (t := 55) q273_48 (by rfl) (by rfl) ?_
  refine wp_iload q273_55 (by rfl) ?_
  refine wp_iff (t := 64) q273_57 (by rfl) (by rfl) ?_
  refine wp_iconst q273_60 ?_
  refine wp_goto (t := 65) q273_61 (by rfl) ?_
  refine wp_putfield q273_65 (by rfl) (Nat.le_of_ble_eq_true rfl) (by rfl) ?_
  refine wp_aload_n q273_68 (by rfl) ?_
  refine wp_getfield q273_69 (by rfl) (by rfl) ?_
  refine wp_iff (t := 77) q273_72 (by rfl) (by rfl) ?_
  refine wp_iconst q273_75 ?_
  refine wp_ireturn q273_76 (by rfl) (by rfl) ?_
  refine wK_v ?_
  refine wp_istore qL_2453 (Nat.le_of_ble_eq_true rfl) ?_
  refine wp_aload_n qL_2455 (by rfl) ?_
  refine wp_virtual qL_2456 (by decide) (Nat.le_of_ble_eq_true rfl) (by rfl) (by rfl) (by rfl) ⟨(Nat.le_of_ble_eq_true rfl), (Nat.le_of_ble_eq_true rfl), (Nat.le_of_ble_eq_true rfl)⟩ (Nat.le_of_ble_eq_true rfl) ?_
  refine wp_aload_n q209_0 (by rfl) ?_
  refine wp_getfield q209_1 (by rfl) (by rfl) ?_
  refine wp_ireturn q209_4 (by rfl) (by rfl) ?_
  refine wK_v ?_
  refine wp_iload qL_2459 (by rfl) ?_
  refine wp_ict (t := 2466) qL_2461 (by rfl) (by rfl) ?_
  refine wp_iload qL_2466 (by rfl) ?_
  refine wp_ift (t := 2483) qL_2468 (by rfl) (by rfl) ?_
  refine wp_goto (t := 3983) qL_2483 (by rfl) ?_
  refine wp_iinc qL_3983 (by rfl) (Nat.le_of_ble_eq_true rfl) ?_
  refine wp_goto (t := 28) qL_3986 (by rfl) ?_
  refine wp_iload qL_28 (by rfl) ?_
  refine wp_aload_ns qL_30 (by rfl) ?_
  refine wp_slen (n := 5) qL_31 rfl ?_
  refine wp_iconst qL_32 ?_
  refine wp_isub qL_33 ?_
  refine wp_ict (t := 3989) qL_34 (by rfl) (by rfl) ?_
  refine wp_iconst qL_3989 ?_
  refine wp_ireturn qL_3990 (by rfl) (by rfl) ?_
  rfl
theorem pt_35_25 {x0 x2 x3 x4 : Int32} (e0 : x0 &&& 63 = Int32.ofNat 35) (e1 : sC2 .lt x2 (0) = false) (e2 : sC2 .gt x2 (-1) = true) (e3 : sC2 .lt x3 (0) = false) (e4 : sC2 .gt x3 (2) = true) : wLaw [x0, (3), x2, x3, x4] := by
  unfold wLaw
  refine wp_iload qL_28 (by rfl) ?_
  refine wp_aload_ns qL_30 (by rfl) ?_
  refine wp_slen (n := 5) qL_31 rfl ?_
  refine wp_iconst qL_32 ?_
  refine wp_isub qL_33 ?_
  refine wp_icf (t := 3989) qL_34 (by rfl) (by rfl) ?_
  refine wp_aload_ns qL_37 (by rfl) ?_
  refine wp_iload qL_38 (by rfl) ?_
  refine wp_sload (x := x0) qL_40 (by rfl) (by rfl) ?_
  refine wp_bipush qL_41 ?_
  refine wp_iand qL_43 ?_
  refine wp_switch (t := 2406) qL_44 e0 (by rfl) ?_
  refine wp_aload_n qL_2406 (by rfl) ?_
  refine wp_aload_ns qL_2407 (by rfl) ?_
  refine wp_iload qL_2408 (by rfl) ?_
  refine wp_iconst qL_2410 ?_
  refine wp_iadd qL_2411 ?_
  refine wp_sload (x := (3)) qL_2412 (by rfl) (by rfl) ?_
  refine wp_aload_ns qL_2413 (by rfl) ?_
  refine wp_iload qL_2414 (by rfl) ?_
  refine wp_iconst qL_2416 ?_
  refine wp_iadd qL_2417 ?_
  refine wp_sload (x := x2) qL_2418 (by rfl) (by rfl) ?_
  refine wp_aload_ns qL_2419 (by rfl) ?_
  refine wp_iload qL_2420 (by rfl) ?_
  refine wp_iconst qL_2422 ?_
  refine wp_iadd qL_2423 ?_
  refine wp_sload (x := x3) qL_2424 (by rfl) (by rfl) ?_
  refine wp_aload_n qL_2425 (by rfl) ?_
  refine wp_static qL_2426 (by decide) (Nat.le_of_ble_eq_true rfl) (by rfl) (by rfl) ⟨(Nat.le_of_ble_eq_true rfl), (Nat.le_of_ble_eq_true rfl), (Nat.le_of_ble_eq_true rfl)⟩ (Nat.le_of_ble_eq_true rfl) ?_
  refine wp_aload q148_0 (by rfl) ?_
  refine wp_iconst q148_2 ?_
  refine wp_aload_n q148_3 (by rfl) ?_
  refine wp_iload_n q148_4 (by rfl) ?_
  refine wp_iload_n q148_5 (by rfl) ?_
  refine wp_iload_n q148_6 (by rfl) ?_
  refine wp_virtual q148_7 (by decide) (Nat.le_of_ble_eq_true rfl) (by rfl) (by rfl) (by rfl) ⟨(Nat.le_of_ble_eq_true rfl), (Nat.le_of_ble_eq_true rfl), (Nat.le_of_ble_eq_true rfl)⟩ (Nat.le_of_ble_eq_true rfl) ?_
  refine wp_aload_n q149_0 (by rfl) ?_
  refine wp_iload_n q149_1 (by rfl) ?_
  refine wp_virtual q149_2 (by decide) (Nat.le_of_ble_eq_true rfl) (by rfl) (by rfl) (by rfl) ⟨(Nat.le_of_ble_eq_true rfl), (Nat.le_of_ble_eq_true rfl), (Nat.le_of_ble_eq_true rfl)⟩ (Nat.le_of_ble_eq_true rfl) ?_
  refine wp_iload_n q146_0 (by rfl) ?_
  refine wp_iconst q146_1 ?_
  refine wp_bipush q146_2 ?_
  refine wp_static q146_4 (by decide) (Nat.le_of_ble_eq_true rfl) (by rfl) (by rfl) ⟨(Nat.le_of_ble_eq_true rfl), (Nat.le_of_ble_eq_true rfl), (Nat.le_of_ble_eq_true rfl)⟩ (Nat.le_of_ble_eq_true rfl) ?_
  refine wp_iload_n q47_0 (by rfl) ?_
  refine wp_iload_n q47_1 (by rfl) ?_
  refine wp_icf (t := 14) q47_2 (by rfl) (by rfl) ?_
  refine wp_iload_n q47_5 (by rfl) ?_
  refine wp_iload_n q47_6 (by rfl) ?_
  refine wp_icf (t := 14) q47_7 (by rfl) (by rfl) ?_
  refine wp_iconst q47_10 ?_
  refine wp_goto (t := 15) q47_11 (by rfl) ?_
  refine wp_ireturn q47_15 (by rfl) (by rfl) ?_
  refine wK_v ?_
  refine wp_ift (t := 21) q146_7 (by rfl) (by rfl) ?_
  refine wp_return q146_21 (by rfl) ?_
  refine wK_n ?_
  refine wp_aload_n q149_5 (by rfl) ?_
  refine wp_virtual q149_6 (by decide) (Nat.le_of_ble_eq_true rfl) (by rfl) (by rfl) (by rfl) ⟨(Nat.le_of_ble_eq_true rfl), (Nat.le_of_ble_eq_true rfl), (Nat.le_of_ble_eq_true rfl)⟩ (Nat.le_of_ble_eq_true rfl) ?_
  refine wp_iconst q12_0 ?_
  refine wp_istore_n q12_1 (Nat.le_of_ble_eq_true rfl) ?_
  refine wp_iconst q12_2 ?_
  refine wp_istore_n q12_3 (Nat.le_of_ble_eq_true rfl) ?_
  refine wp_iload_n q12_4 (by rfl) ?_
  refine wp_aload_n q12_5 (by rfl) ?_
  refine wp_getfield q12_6 (by rfl) (by rfl) ?_
  refine wp_ict (t := 34) q12_9 (by rfl) (by rfl) ?_
  refine wp_iload_n q12_34 (by rfl) ?_
  refine wp_ireturn q12_35 (by rfl) (by rfl) ?_
  refine wK_v ?_
  refine wp_istore q149_9 (Nat.le_of_ble_eq_true rfl) ?_
  refine wp_iload_n q149_11 (by rfl) ?_
  refine wp_iconst q149_12 ?_
  refine wp_iload_n q149_13 (by rfl) ?_
  refine wp_iload q149_14 (by rfl) ?_
  refine wp_static q149_16 (by decide) (Nat.le_of_ble_eq_true rfl) (by rfl) (by rfl) ⟨(Nat.le_of_ble_eq_true rfl), (Nat.le_of_ble_eq_true rfl), (Nat.le_of_ble_eq_true rfl)⟩ (Nat.le_of_ble_eq_true rfl) ?_
  refine wp_iload_n q147_0 (by rfl) ?_
  refine wp_iff (t := 14) q147_1 (by rfl) (by rfl) ?_
  refine wp_iload_n q147_4 (by rfl) ?_
  refine wp_iload_n q147_5 (by rfl) ?_
  refine wp_iadd q147_6 ?_
  refine wp_iconst q147_7 ?_
  refine wp_isub q147_8 ?_
  refine wp_iload_n q147_9 (by rfl) ?_
  refine wp_idiv q147_10 (by decide) ?_
  refine wp_goto (t := 15) q147_11 (by rfl) ?_
  refine wp_ireturn q147_15 (by rfl) (by rfl) ?_
  refine wK_v ?_
  refine wp_iconst q149_19 ?_
  refine wp_isub q149_20 ?_
  refine wp_static q149_21 (by decide) (Nat.le_of_ble_eq_true rfl) (by rfl) (by rfl) ⟨(Nat.le_of_ble_eq_true rfl), (Nat.le_of_ble_eq_true rfl), (Nat.le_of_ble_eq_true rfl)⟩ (Nat.le_of_ble_eq_true rfl) ?_
  refine wp_iload_n q47_0 (by rfl) ?_
  refine wp_iload_n q47_1 (by rfl) ?_
  refine wp_icf (t := 14) q47_2 e1 (by rfl) ?_
  refine wp_iload_n q47_5 (by rfl) ?_
  refine wp_iload_n q47_6 (by rfl) ?_
  refine wp_ict (t := 14) q47_7 e2 (by rfl) ?_
  refine wp_iconst q47_14 ?_
  refine wp_ireturn q47_15 (by rfl) (by rfl) ?_
  refine wK_v ?_
  refine wp_ift (t := 38) q149_24 (by rfl) (by rfl) ?_
  refine wp_throw q149_38 (by decide) ⟨(Nat.le_of_ble_eq_true rfl), (Nat.le_of_ble_eq_true rfl), (Nat.le_of_ble_eq_true rfl)⟩ ?_
  refine wK_c (by rfl) (by rfl) (by decide) (by rfl) ?_
  refine wp_iconst q148_21 ?_
  refine wp_ireturn q148_22 (by rfl) (by rfl) ?_
  refine wK_v ?_
  refine wp_istore qL_2429 (Nat.le_of_ble_eq_true rfl) ?_
  refine wp_aload_n qL_2431 (by rfl) ?_
  refine wp_aload_ns qL_2432 (by rfl) ?_
  refine wp_iload qL_2433 (by rfl) ?_
  refine wp_iconst qL_2435 ?_
  refine wp_iadd qL_2436 ?_
  refine wp_sload (x := (3)) qL_2437 (by rfl) (by rfl) ?_
  refine wp_aload_ns qL_2438 (by rfl) ?_
  refine wp_iload qL_2439 (by rfl) ?_
  refine wp_iconst qL_2441 ?_
  refine wp_iadd qL_2442 ?_
  refine wp_sload (x := x2) qL_2443 (by rfl) (by rfl) ?_
  refine wp_aload_ns qL_2444 (by rfl) ?_
  refine wp_iload qL_2445 (by rfl) ?_
  refine wp_iconst qL_2447 ?_
  refine wp_iadd qL_2448 ?_
  refine wp_sload (x := x3) qL_2449 (by rfl) (by rfl) ?_
  refine wp_virtual qL_2450 (by decide) (Nat.le_of_ble_eq_true rfl) (by rfl) (by rfl) (by rfl) ⟨(Nat.le_of_ble_eq_true rfl), (Nat.le_of_ble_eq_true rfl), (Nat.le_of_ble_eq_true rfl)⟩ (Nat.le_of_ble_eq_true rfl) ?_
  refine wp_iload_n q273_0 (by rfl) ?_
  refine wp_iconst q273_1 ?_
  refine wp_iload_n q273_2 (by rfl) ?_
  refine wp_iconst q273_3 ?_
  refine wp_isub q273_4 ?_
  refine wp_static q273_5 (by decide) (Nat.le_of_ble_eq_true rfl) (by rfl) (by rfl) ⟨(Nat.le_of_ble_eq_true rfl), (Nat.le_of_ble_eq_true rfl), (Nat.le_of_ble_eq_true rfl)⟩ (Nat.le_of_ble_eq_true rfl) ?_
  refine wp_iload_n q211_0 (by rfl) ?_
  refine wp_iload_n q211_1 (by rfl) ?_
  refine wp_icf (t := 14) q211_2 e3 (by rfl) ?_
  refine wp_iload_n q211_5 (by rfl) ?_
  refine wp_iload_n q211_6 (by rfl) ?_
  refine wp_ict (t := 14) q211_7 e4 (by rfl) ?_
  refine wp_iconst q211_14 ?_
  refine wp_ireturn q211_15 (by rfl) (by rfl) ?_
  refine wK_v ?_
  refine wp_ift (t := 37) q273_8 (by rfl) (by rfl) ?_
  refine wp_iconst q273_37 ?_
  refine wp_istore q273_38 (Nat.le_of_ble_eq_true rfl) ?_
  refine wp_aload_n q273_40 (by rfl) ?_
  refine wp_iload_n q273_41 (by rfl) ?_
  refine wp_iconst q273_42 ?_
  refine wp_bipush q273_43 ?_
  refine wp_static q273_45 (by decide) (Nat.le_of_ble_eq_true rfl) (by rfl) (by rfl) ⟨(Nat.le_of_ble_eq_true rfl), (Nat.le_of_ble_eq_true rfl), (Nat.le_of_ble_eq_true rfl)⟩ (Nat.le_of_ble_eq_true rfl) ?_
  refine wp_iload_n q211_0 (by rfl) ?_
  refine wp_iload_n q211_1 (by rfl) ?_
  refine wp_icf (t := 14) q211_2 (by rfl) (by rfl) ?_
  refine wp_iload_n q211_5 (by rfl) ?_
  refine wp_iload_n q211_6 (by rfl) ?_
  refine wp_icf (t := 14) q211_7 (by rfl) (by rfl) ?_
  refine wp_iconst q211_10 ?_
  refine wp_goto (t := 15) q211_11 (by rfl) ?_
  refine wp_ireturn q211_15 (by rfl) (by rfl) ?_
  refine wK_v ?_
  refine wp_ift (t := 55) q273_48 (by rfl) (by rfl) ?_
  refine wp_iload q273_55 (by rfl) ?_
  refine wp_iff (t := 64) q273_57 (by rfl) (by rfl) ?_
  refine wp_iconst q273_60 ?_
  refine wp_goto (t := 65) q273_61 (by rfl) ?_
  refine wp_putfield q273_65 (by rfl) (Nat.le_of_ble_eq_true rfl) (by rfl) ?_
  refine wp_aload_n q273_68 (by rfl) ?_
  refine wp_getfield q273_69 (by rfl) (by rfl) ?_
  refine wp_iff (t := 77) q273_72 (by rfl) (by rfl) ?_
  refine wp_iconst q273_75 ?_
  refine wp_ireturn q273_76 (by rfl) (by rfl) ?_
  refine wK_v ?_
  refine wp_istore qL_2453 (Nat.le_of_ble_eq_true rfl) ?_
  refine wp_aload_n qL_2455 (by rfl) ?_
  refine wp_virtual qL_2456 (by decide) (Nat.le_of_ble_eq_true rfl) (by rfl) (by rfl) (by rfl) ⟨(Nat.le_of_ble_eq_true rfl), (Nat.le_of_ble_eq_true rfl), (Nat.le_of_ble_eq_true rfl)⟩ (Nat.le_of_ble_eq_true rfl) ?_
  refine wp_aload_n q209_0 (by rfl) ?_
  refine wp_getfield q209_1 (by rfl) (by rfl) ?_
  refine wp_ireturn q209_4 (by rfl) (by rfl) ?_
  refine wK_v ?_
  refine wp_iload qL_2459 (by rfl) ?_
  refine wp_ict (t := 2466) qL_2461 (by rfl) (by rfl) ?_
  refine wp_iload qL_2466 (by rfl) ?_
  refine wp_ift (t := 2483) qL_2468 (by rfl) (by rfl) ?_
  refine wp_goto (t := 3983) qL_2483 (by rfl) ?_
  refine wp_iinc qL_3983 (by rfl) (Nat.le_of_ble_eq_true rfl) ?_
  refine wp_goto (t := 28) qL_3986 (by rfl) ?_
  refine wp_iload qL_28 (by rfl) ?_
  refine wp_aload_ns qL_30 (by rfl) ?_
  refine wp_slen (n := 5) qL_31 rfl ?_
  refine wp_iconst qL_32 ?_
  refine wp_isub qL_33 ?_
  refine wp_ict (t := 3989) qL_34 (by rfl) (by rfl) ?_
  refine wp_iconst qL_3989 ?_
  refine wp_ireturn qL_3990 (by rfl) (by rfl) ?_
  rfl
theorem pt_35_26 {x0 x2 x3 x4 : Int32} (e0 : x0 &&& 63 = Int32.ofNat 35) (e1 : sC2 .lt x2 (0) = false) (e2 : sC2 .gt x2 (-1) = true) (e3 : sC2 .lt x3 (0) = false) (e4 : sC2 .gt x3 (2) = false) (e5 : sC2 .lt x2 (0) = false) (e6 : sC2 .gt x2 (9) = true) : wLaw [x0, (3), x2, x3, x4] := by
  unfold wLaw
  refine wp_iload qL_28 (by rfl) ?_
  refine wp_aload_ns qL_30 (by rfl) ?_
  refine wp_slen (n := 5) qL_31 rfl ?_
  refine wp_iconst qL_32 ?_
  refine wp_isub qL_33 ?_
  refine wp_icf (t := 3989) qL_34 (by rfl) (by rfl) ?_
  refine wp_aload_ns qL_37 (by rfl) ?_
  refine wp_iload qL_38 (by rfl) ?_
  refine wp_sload (x := x0) qL_40 (by rfl) (by rfl) ?_
  refine wp_bipush qL_41 ?_
  refine wp_iand qL_43 ?_
  refine wp_switch (t := 2406) qL_44 e0 (by rfl) ?_
  refine wp_aload_n qL_2406 (by rfl) ?_
  refine wp_aload_ns qL_2407 (by rfl) ?_
  refine wp_iload qL_2408 (by rfl) ?_
  refine wp_iconst qL_2410 ?_
  refine wp_iadd qL_2411 ?_
  refine wp_sload (x := (3)) qL_2412 (by rfl) (by rfl) ?_
  refine wp_aload_ns qL_2413 (by rfl) ?_
  refine wp_iload qL_2414 (by rfl) ?_
  refine wp_iconst qL_2416 ?_
  refine wp_iadd qL_2417 ?_
  refine wp_sload (x := x2) qL_2418 (by rfl) (by rfl) ?_
  refine wp_aload_ns qL_2419 (by rfl) ?_
  refine wp_iload qL_2420 (by rfl) ?_
  refine wp_iconst qL_2422 ?_
  refine wp_iadd qL_2423 ?_
  refine wp_sload (x := x3) qL_2424 (by rfl) (by rfl) ?_
  refine wp_aload_n qL_2425 (by rfl) ?_
  refine wp_static qL_2426 (by decide) (Nat.le_of_ble_eq_true rfl) (by rfl) (by rfl) ⟨(Nat.le_of_ble_eq_true rfl), (Nat.le_of_ble_eq_true rfl), (Nat.le_of_ble_eq_true rfl)⟩ (Nat.le_of_ble_eq_true rfl) ?_
  refine wp_aload q148_0 (by rfl) ?_
  refine wp_iconst q148_2 ?_
  refine wp_aload_n q148_3 (by rfl) ?_
  refine wp_iload_n q148_4 (by rfl) ?_
  refine wp_iload_n q148_5 (by rfl) ?_
  refine wp_iload_n q148_6 (by rfl) ?_
  refine wp_virtual q148_7 (by decide) (Nat.le_of_ble_eq_true rfl) (by rfl) (by rfl) (by rfl) ⟨(Nat.le_of_ble_eq_true rfl), (Nat.le_of_ble_eq_true rfl), (Nat.le_of_ble_eq_true rfl)⟩ (Nat.le_of_ble_eq_true rfl) ?_
  refine wp_aload_n q149_0 (by rfl) ?_
  refine wp_iload_n q149_1 (by rfl) ?_
  refine wp_virtual q149_2 (by decide) (Nat.le_of_ble_eq_true rfl) (by rfl) (by rfl) (by rfl) ⟨(Nat.le_of_ble_eq_true rfl), (Nat.le_of_ble_eq_true rfl), (Nat.le_of_ble_eq_true rfl)⟩ (Nat.le_of_ble_eq_true rfl) ?_
  refine wp_iload_n q146_0 (by rfl) ?_
  refine wp_iconst q146_1 ?_
  refine wp_bipush q146_2 ?_
  refine wp_static q146_4 (by decide) (Nat.le_of_ble_eq_true rfl) (by rfl) (by rfl) ⟨(Nat.le_of_ble_eq_true rfl), (Nat.le_of_ble_eq_true rfl), (Nat.le_of_ble_eq_true rfl)⟩ (Nat.le_of_ble_eq_true rfl) ?_
  refine wp_iload_n q47_0 (by rfl) ?_
  refine wp_iload_n q47_1 (by rfl) ?_
  refine wp_icf (t := 14) q47_2 (by rfl) (by rfl) ?_
  refine wp_iload_n q47_5 (by rfl) ?_
  refine wp_iload_n q47_6 (by rfl) ?_
  refine wp_icf (t := 14) q47_7 (by rfl) (by rfl) ?_
  refine wp_iconst q47_10 ?_
  refine wp_goto (t := 15) q47_11 (by rfl) ?_
  refine wp_ireturn q47_15 (by rfl) (by rfl) ?_
  refine wK_v ?_
  refine wp_ift (t := 21) q146_7 (by rfl) (by rfl) ?_
  refine wp_return q146_21 (by rfl) ?_
  refine wK_n ?_
  refine wp_aload_n q149_5 (by rfl) ?_
  refine wp_virtual q149_6 (by decide) (Nat.le_of_ble_eq_true rfl) (by rfl) (by rfl) (by rfl) ⟨(Nat.le_of_ble_eq_true rfl), (Nat.le_of_ble_eq_true rfl), (Nat.le_of_ble_eq_true rfl)⟩ (Nat.le_of_ble_eq_true rfl) ?_
  refine wp_iconst q12_0 ?_
  refine wp_istore_n q12_1 (Nat.le_of_ble_eq_true rfl) ?_
  refine wp_iconst q12_2 ?_
  refine wp_istore_n q12_3 (Nat.le_of_ble_eq_true rfl) ?_
  refine wp_iload_n q12_4 (by rfl) ?_
  refine wp_aload_n q12_5 (by rfl) ?_
  refine wp_getfield q12_6 (by rfl) (by rfl) ?_
  refine wp_ict (t := 34) q12_9 (by rfl) (by rfl) ?_
  refine wp_iload_n q12_34 (by rfl) ?_
  refine wp_ireturn q12_35 (by rfl) (by rfl) ?_
  refine wK_v ?_
  refine wp_istore q149_9 (Nat.le_of_ble_eq_true rfl) ?_
  refine wp_iload_n q149_11 (by rfl) ?_
  refine wp_iconst q149_12 ?_
  refine wp_iload_n q149_13 (by rfl) ?_
  refine wp_iload q149_14 (by rfl) ?_
  refine wp_static q149_16 (by decide) (Nat.le_of_ble_eq_true rfl) (by rfl) (by rfl) ⟨(Nat.le_of_ble_eq_true rfl), (Nat.le_of_ble_eq_true rfl), (Nat.le_of_ble_eq_true rfl)⟩ (Nat.le_of_ble_eq_true rfl) ?_
  refine wp_iload_n q147_0 (by rfl) ?_
  refine wp_iff (t := 14) q147_1 (by rfl) (by rfl) ?_
  refine wp_iload_n q147_4 (by rfl) ?_
  refine wp_iload_n q147_5 (by rfl) ?_
  refine wp_iadd q147_6 ?_
  refine wp_iconst q147_7 ?_
  refine wp_isub q147_8 ?_
  refine wp_iload_n q147_9 (by rfl) ?_
  refine wp_idiv q147_10 (by decide) ?_
  refine wp_goto (t := 15) q147_11 (by rfl) ?_
  refine wp_ireturn q147_15 (by rfl) (by rfl) ?_
  refine wK_v ?_
  refine wp_iconst q149_19 ?_
  refine wp_isub q149_20 ?_
  refine wp_static q149_21 (by decide) (Nat.le_of_ble_eq_true rfl) (by rfl) (by rfl) ⟨(Nat.le_of_ble_eq_true rfl), (Nat.le_of_ble_eq_true rfl), (Nat.le_of_ble_eq_true rfl)⟩ (Nat.le_of_ble_eq_true rfl) ?_
  refine wp_iload_n q47_0 (by rfl) ?_
  refine wp_iload_n q47_1 (by rfl) ?_
  refine wp_icf (t := 14) q47_2 e1 (by rfl) ?_
  refine wp_iload_n q47_5 (by rfl) ?_
  refine wp_iload_n q47_6 (by rfl) ?_
  refine wp_ict (t := 14) q47_7 e2 (by rfl) ?_
  refine wp_iconst q47_14 ?_
  refine wp_ireturn q47_15 (by rfl) (by rfl) ?_
  refine wK_v ?_
  refine wp_ift (t := 38) q149_24 (by rfl) (by rfl) ?_
  refine wp_throw q149_38 (by decide) ⟨(Nat.le_of_ble_eq_true rfl), (Nat.le_of_ble_eq_true rfl), (Nat.le_of_ble_eq_true rfl)⟩ ?_
  refine wK_c (by rfl) (by rfl) (by decide) (by rfl) ?_
  refine wp_iconst q148_21 ?_
  refine wp_ireturn q148_22 (by rfl) (by rfl) ?_
  refine wK_v ?_
  refine wp_istore qL_2429 (Nat.le_of_ble_eq_true rfl) ?_
  refine wp_aload_n qL_2431 (by rfl) ?_
  refine wp_aload_ns qL_2432 (by rfl) ?_
  refine wp_iload qL_2433 (by rfl) ?_
  refine wp_iconst qL_2435 ?_
  refine wp_iadd qL_2436 ?_
  refine wp_sload (x := (3)) qL_2437 (by rfl) (by rfl) ?_
  refine wp_aload_ns qL_2438 (by rfl) ?_
  refine wp_iload qL_2439 (by rfl) ?_
  refine wp_iconst qL_2441 ?_
  refine wp_iadd qL_2442 ?_
  refine wp_sload (x := x2) qL_2443 (by rfl) (by rfl) ?_
  refine wp_aload_ns qL_2444 (by rfl) ?_
  refine wp_iload qL_2445 (by rfl) ?_
  refine wp_iconst qL_2447 ?_
  refine wp_iadd qL_2448 ?_
  refine wp_sload (x := x3) qL_2449 (by rfl) (by rfl) ?_
  refine wp_virtual qL_2450 (by decide) (Nat.le_of_ble_eq_true rfl) (by rfl) (by rfl) (by rfl) ⟨(Nat.le_of_ble_eq_true rfl), (Nat.le_of_ble_eq_true rfl), (Nat.le_of_ble_eq_true rfl)⟩ (Nat.le_of_ble_eq_true rfl) ?_
  refine wp_iload_n q273_0 (by rfl) ?_
  refine wp_iconst q273_1 ?_
  refine wp_iload_n q273_2 (by rfl) ?_
  refine wp_iconst q273_3 ?_
  refine wp_isub q273_4 ?_
  refine wp_static q273_5 (by decide) (Nat.le_of_ble_eq_true rfl) (by rfl) (by rfl) ⟨(Nat.le_of_ble_eq_true rfl), (Nat.le_of_ble_eq_true rfl), (Nat.le_of_ble_eq_true rfl)⟩ (Nat.le_of_ble_eq_true rfl) ?_
  refine wp_iload_n q211_0 (by rfl) ?_
  refine wp_iload_n q211_1 (by rfl) ?_
  refine wp_icf (t := 14) q211_2 e3 (by rfl) ?_
  refine wp_iload_n q211_5 (by rfl) ?_
  refine wp_iload_n q211_6 (by rfl) ?_
  refine wp_icf (t := 14) q211_7 e4 (by rfl) ?_
  refine wp_iconst q211_10 ?_
  refine wp_goto (t := 15) q211_11 (by rfl) ?_
  refine wp_ireturn q211_15 (by rfl) (by rfl) ?_
  refine wK_v ?_
  refine wp_iff (t := 37) q273_8 (by rfl) (by rfl) ?_
  refine wp_iload_n q273_11 (by rfl) ?_
  refine wp_iconst q273_12 ?_
  refine wp_bipush q273_13 ?_
  refine wp_static q273_15 (by decide) (Nat.le_of_ble_eq_true rfl) (by rfl) (by rfl) ⟨(Nat.le_of_ble_eq_true rfl), (Nat.le_of_ble_eq_true rfl), (Nat.le_of_ble_eq_true rfl)⟩ (Nat.le_of_ble_eq_true rfl) ?_
  refine wp_iload_n q211_0 (by rfl) ?_
  refine wp_iload_n q211_1 (by rfl) ?_
  refine wp_icf (t := 14) q211_2 e5 (by rfl) ?_
  refine wp_iload_n q211_5 (by rfl) ?_
  refine wp_iload_n q211_6 (by rfl) ?_
  refine wp_ict (t := 14) q211_7 e6 (by rfl) ?_
  refine wp_iconst q211_14 ?_
  refine wp_ireturn q211_15 (by rfl) (by rfl) ?_
  refine wK_v ?_
  refine wp_ift (t := 37) q273_18 (by rfl) (by rfl) ?_
  refine wp_iconst q273_37 ?_
  refine wp_istore q273_38 (Nat.le_of_ble_eq_true rfl) ?_
  refine wp_aload_n q273_40 (by rfl) ?_
  refine wp_iload_n q273_41 (by rfl) ?_
  refine wp_iconst q273_42 ?_
  refine wp_bipush q273_43 ?_
  refine wp_static q273_45 (by decide) (Nat.le_of_ble_eq_true rfl) (by rfl) (by rfl) ⟨(Nat.le_of_ble_eq_true rfl), (Nat.le_of_ble_eq_true rfl), (Nat.le_of_ble_eq_true rfl)⟩ (Nat.le_of_ble_eq_true rfl) ?_
  refine wp_iload_n q211_0 (by rfl) ?_
  refine wp_iload_n q211_1 (by rfl) ?_
  refine wp_icf (t := 14) q211_2 (by rfl) (by rfl) ?_
  refine wp_iload_n q211_5 (by rfl) ?_
  refine wp_iload_n q211_6 (by rfl) ?_
  refine wp_icf (t := 14) q211_7 (by rfl) (by rfl) ?_
  refine wp_iconst q211_10 ?_
  refine wp_goto (t := 15) q211_11 (by rfl) ?_
  refine wp_ireturn q211_15 (by rfl) (by rfl) ?_
  refine wK_v ?_
  refine wp_ift (t := 55) q273_48 (by rfl) (by rfl) ?_
  refine wp_iload q273_55 (by rfl) ?_
  refine wp_iff (t := 64) q273_57 (by rfl) (by rfl) ?_
  refine wp_iconst q273_60 ?_
  refine wp_goto (t := 65) q273_61 (by rfl) ?_
  refine wp_putfield q273_65 (by rfl) (Nat.le_of_ble_eq_true rfl) (by rfl) ?_
  refine wp_aload_n q273_68 (by rfl) ?_
  refine wp_getfield q273_69 (by rfl) (by rfl) ?_
  refine wp_iff (t := 77) q273_72 (by rfl) (by rfl) ?_
  refine wp_iconst q273_75 ?_
  refine wp_ireturn q273_76 (by rfl) (by rfl) ?_
  refine wK_v ?_
  refine wp_istore qL_2453 (Nat.le_of_ble_eq_true rfl) ?_
  refine wp_aload_n qL_2455 (by rfl) ?_
  refine wp_virtual qL_2456 (by decide) (Nat.le_of_ble_eq_true rfl) (by rfl) (by rfl) (by rfl) ⟨(Nat.le_of_ble_eq_true rfl), (Nat.le_of_ble_eq_true rfl), (Nat.le_of_ble_eq_true rfl)⟩ (Nat.le_of_ble_eq_true rfl) ?_
  refine wp_aload_n q209_0 (by rfl) ?_
  refine wp_getfield q209_1 (by rfl) (by rfl) ?_
  refine wp_ireturn q209_4 (by rfl) (by rfl) ?_
  refine wK_v ?_
  refine wp_iload qL_2459 (by rfl) ?_
  refine wp_ict (t := 2466) qL_2461 (by rfl) (by rfl) ?_
  refine wp_iload qL_2466 (by rfl) ?_
  refine wp_ift (t := 2483) qL_2468 (by rfl) (by rfl) ?_
  refine wp_goto (t := 3983) qL_2483 (by rfl) ?_
  refine wp_iinc qL_3983 (by rfl) (Nat.le_of_ble_eq_true rfl) ?_
  refine wp_goto (t := 28) qL_3986 (by rfl) ?_
  refine wp_iload qL_28 (by rfl) ?_
  refine wp_aload_ns qL_30 (by rfl) ?_
  refine wp_slen (n := 5) qL_31 rfl ?_
  refine wp_iconst qL_32 ?_
  refine wp_isub qL_33 ?_
  refine wp_ict (t := 3989) qL_34 (by rfl) (by rfl) ?_
  refine wp_iconst qL_3989 ?_
  refine wp_ireturn qL_3990 (by rfl) (by rfl) ?_
  rfl
