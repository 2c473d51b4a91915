section LC1
variable {p : Program} {lau : Launch} {e : Env} {s : State} {m : MethodId} {below : List Frame} {meth : Method} {c : Code} {Q : State → Prop} {z : Nat} {D : va_G} {ad : Nat → Nat} {cy : Nat → ClassId}
variable {H : Heap} {locs : List Loc} {ls : Array Slot} {S : mS} {b L i n : Nat} {xs : Nat → Int32}
set_option maxRecDepth 20000 in
theorem gm_who : gOK RL 235 Mx233 (RX10, TX10, 23) 0 [1748, 1749, 1750, 116, 1751] = true := by decide +kernel
set_option maxRecDepth 20000 in
theorem gx_who : gOK RL 232 Mx116 (RX9, TX9, 14) 0 [404, 405, 406, 106, 407] = true := by decide +kernel
set_option maxRecDepth 20000 in
set_option maxHeartbeats 4000000 in
theorem lc_who (C : LwC p lau s m meth c b L xs z D ad cy) (hn : n < 512) (hi : i + 6 ≤ L) (hI : Inv S) (hP : va_P D vwCl (mW ad cy S) H) (hD : va_D (mAz z) (mW ad cy S)) (hS : va_S (mAz z) s.heap H locs) (hl : lv_has ls 7 (lvs b ad i)) (kk : LK p lau e s m below meth c Q b z D ad cy n i) :
    W p lau e room_1 s m #[Value.ref b] below meth c H locs (100 + 64 * n) (60000 + 384 * n) Q (F0 m 1808 ls []) := by
  obtain ⟨⟨hx, hb, hml, hown, hts⟩, hXs, hbl, hz, hK, hX0, hst, hL⟩ := id C
  obtain ⟨r1, S1, hf, hg⟩ := ag_who (F := 6000)  (Nat.le_refl _) hI
  refine lv_aload_n hx hb (by decide +kernel : decode code 1808 = .ok (.aload_n 1, 1)) rfl (lv_at hl 1 rfl) ?_
  obtain ⟨b2, T2, hf2, hI2, hres⟩ := hg S1 (fun _ _ => rfl)
  refine gCall (own := RL) (as := []) (i := 0) (r := (r1, S1)) (M' := Mx116) (d := 60) (rest := []) ⟨hx, hb, hml, hown, hts⟩ gx_who (mX_m z ad) (Nat.le_of_eq hz) hX0.1 hK (con_of hst (j := 116) rfl (Nat.le_of_ble_eq_true rfl) (fun w hw => by simp only [List.mem_cons, List.not_mem_nil, or_false] at hw; rcases hw with rfl <;> rfl) (f_X9_who_ok (d := 53) hf)) hP hD hS hl.1 (ci := 8) rfl rfl (Nat.le_of_ble_eq_true rfl) (by decide +kernel : decode code 1809 = .ok (.invokevirtual 232, 3)) ⟨by decide, by decide⟩ ⟨by show 100 + 64 * n + 16 ≤ 601024; omega, by show 60000 + 384 * n + 96 ≤ 7293034; omega⟩ (fun v hv H1 locs1 hP hD hS => ?_) (fun k9 hk9 _ _ _ _ _ _ _ _ _ _ => (Res_no hres hk9).elim)
  obtain rfl := Res_in hres hv
  refine W.eq (g2 := F0 m 1812 ls [.int b2]) rfl ?_
  refine lv_aload_n hx hb (by decide +kernel : decode code 1812 = .ok (.aload_n 2, 1)) rfl (lv_at hl 2 rfl) ?_
  refine gCall (own := RL) (as := []) (i := 63) (r := (.inl (some (.int b2)), T2)) (M' := Mx233) (d := 60) (rest := [.int b2]) ⟨hx, hb, hml, hown, hts⟩ gm_who (mX_m z ad) (Nat.le_of_eq hz) hX0.1 hK (con_of hst (j := 233) rfl (Nat.le_of_ble_eq_true rfl) (fun w hw => by simp only [List.mem_cons, List.not_mem_nil, or_false] at hw; rcases hw with rfl <;> rfl) (f_X10_who_ok (d := 49) hf2)) hP hD hS hl.1 (ci := 9) rfl rfl (Nat.le_of_ble_eq_true rfl) (by decide +kernel : decode code 1813 = .ok (.invokevirtual 235, 3)) ⟨by decide, by decide⟩ ⟨by show 100 + 64 * n + 16 + 16 ≤ 601024; omega, by show 60000 + 384 * n + 96 + 96 ≤ 7293034; omega⟩ (fun v hv H1 locs1 hP hD hS => ?_) (fun k9 hk9 _ _ _ _ _ _ _ _ _ _ => by cases hk9)
  cases hv
  refine W.eq (g2 := F0 m 1816 ls [.int b2, .int b2]) rfl ?_
  refine lv_icmp_eq (tgt := 3077) hx hb (by decide +kernel : decode code 1816 = .ok (.if_icmp .eq 1261, 3)) (by decide) (fun _ => ?_) (fun q => absurd rfl q)
  exact W.widen (by omega) (by omega) (kk T2 _ _ _ hI2 hP hD hS (lv_sub hl [0, 1, 2, 3, 4] rfl))
set_option maxRecDepth 20000 in
theorem gm_farthest : gOK RL 238 Mx218 (RX10, TX10, 23) 3 [1675, 1676, 1677, 116, 1678] = true := by decide +kernel
set_option maxRecDepth 20000 in
theorem gx_farthest : hOK 236 yL_farthest cL_farthest 6 [(0, 12, 15, 24), (0, 12, 19, 13)] 5 [1228, 1229, 105, 1230] = true := by decide +kernel
set_option maxRecDepth 20000 in
set_option maxHeartbeats 4000000 in
theorem lc_farthest (C : LwC p lau s m meth c b L xs z D ad cy) (hn : n < 512) (hi : i + 6 ≤ L) (hI : Inv S) (hP : va_P D vwCl (mW ad cy S) H) (hD : va_D (mAz z) (mW ad cy S)) (hS : va_S (mAz z) s.heap H locs) (hl : lv_has ls 7 (lvs b ad i)) (kk : LK p lau e s m below meth c Q b z D ad cy n i) :
    W p lau e room_1 s m #[Value.ref b] below meth c H locs (100 + 64 * n) (60000 + 384 * n) Q (F0 m 1821 ls []) := by
  obtain ⟨⟨hx, hb, hml, hown, hts⟩, hXs, hbl, hz, hK, hX0, hst, hL⟩ := id C
  obtain ⟨r1, S1, hf, hg⟩ := ag_farthest (F := 6000) (p1 := (sx xs i 1)) (p2 := (sx xs i 2)) (p3 := (sx xs i 3)) (Nat.le_refl _) hI
  refine lv_aload_n hx hb (by decide +kernel : decode code 1821 = .ok (.aload_n 1, 1)) rfl (lv_at hl 1 rfl) ?_
  refine lw_ld C hS hl (x0 := 0) (x4 := 4) rfl rfl 1 (by decide) hi (by decide +kernel : decode code 1822 = .ok (.aload_n 0, 1)) (by decide +kernel : decode code 1823 = .ok (.iload 4, 2)) (by decide +kernel : decode code 1825 = .ok (.iconst 1, 1)) rfl (by decide +kernel : decode code 1826 = .ok (.iadd, 1)) (by decide +kernel : decode code 1827 = .ok (.iaload, 1)) ?_
  refine lw_ld C hS hl (x0 := 0) (x4 := 4) rfl rfl 2 (by decide) hi (by decide +kernel : decode code 1828 = .ok (.aload_n 0, 1)) (by decide +kernel : decode code 1829 = .ok (.iload 4, 2)) (by decide +kernel : decode code 1831 = .ok (.iconst 2, 1)) rfl (by decide +kernel : decode code 1832 = .ok (.iadd, 1)) (by decide +kernel : decode code 1833 = .ok (.iaload, 1)) ?_
  refine lw_ld C hS hl (x0 := 0) (x4 := 4) rfl rfl 3 (by decide) hi (by decide +kernel : decode code 1834 = .ok (.aload_n 0, 1)) (by decide +kernel : decode code 1835 = .ok (.iload 4, 2)) (by decide +kernel : decode code 1837 = .ok (.iconst 3, 1)) rfl (by decide +kernel : decode code 1838 = .ok (.iadd, 1)) (by decide +kernel : decode code 1839 = .ok (.iaload, 1)) ?_
  obtain ⟨k0, S2, b2, T2, hHR, hf2, hI2, ht, ho⟩ := hr_of hg
  have h75 : T2 75 = S2 75 := ev75 (f_X10_farthest_ok (d := 52) hf2)
  refine lv_aload_n hx hb (by decide +kernel : decode code 1840 = .ok (.aload_n 3, 1)) rfl (lv_at hl 3 rfl) ?_
  refine gHelp (as := [.ref 0, .int (sx xs i 1), .int (sx xs i 2), .int (sx xs i 3), .ref 75]) (k := k0) (S2 := S2) (rest := []) ⟨hx, hb, hml, hown, hts⟩ gx_farthest (Nat.le_of_eq hz) hX0 hK (hc_farthest (F := 6000) hst hf hHR) hP hD hS hl.1 (Nat.le_of_ble_eq_true rfl) (by decide +kernel : decode code 1841 = .ok (.invokestatic 236, 3)) ⟨by decide, by decide⟩ ⟨by show 100 + 64 * n + 16 ≤ 601024; omega, by show 60000 + 384 * n + 96 ≤ 7293034; omega⟩ (fun H1 locs1 hP hD hS => ?_)
  refine lv_istore (lv' := (5, .int k0) :: lvs b ad i) hx hb (by decide +kernel : decode code 1844 = .ok (.istore 5, 2)) hl (by decide) rfl (fun ls hl => ?_)
  refine lv_aload_n hx hb (by decide +kernel : decode code 1846 = .ok (.aload_n 2, 1)) rfl (lv_at hl 3 rfl) ?_
  refine lw_ld C hS hl (x0 := 1) (x4 := 5) rfl rfl 1 (by decide) hi (by decide +kernel : decode code 1847 = .ok (.aload_n 0, 1)) (by decide +kernel : decode code 1848 = .ok (.iload 4, 2)) (by decide +kernel : decode code 1850 = .ok (.iconst 1, 1)) rfl (by decide +kernel : decode code 1851 = .ok (.iadd, 1)) (by decide +kernel : decode code 1852 = .ok (.iaload, 1)) ?_
  refine lw_ld C hS hl (x0 := 1) (x4 := 5) rfl rfl 2 (by decide) hi (by decide +kernel : decode code 1853 = .ok (.aload_n 0, 1)) (by decide +kernel : decode code 1854 = .ok (.iload 4, 2)) (by decide +kernel : decode code 1856 = .ok (.iconst 2, 1)) rfl (by decide +kernel : decode code 1857 = .ok (.iadd, 1)) (by decide +kernel : decode code 1858 = .ok (.iaload, 1)) ?_
  refine lw_ld C hS hl (x0 := 1) (x4 := 5) rfl rfl 3 (by decide) hi (by decide +kernel : decode code 1859 = .ok (.aload_n 0, 1)) (by decide +kernel : decode code 1860 = .ok (.iload 4, 2)) (by decide +kernel : decode code 1862 = .ok (.iconst 3, 1)) rfl (by decide +kernel : decode code 1863 = .ok (.iadd, 1)) (by decide +kernel : decode code 1864 = .ok (.iaload, 1)) ?_
  refine gCall (own := RL) (as := [.int (sx xs i 1), .int (sx xs i 2), .int (sx xs i 3)]) (i := 63) (r := (.inl (some (.int b2)), T2)) (M' := Mx218) (d := 60) (rest := []) ⟨hx, hb, hml, hown, hts⟩ gm_farthest (mX_m z ad) (Nat.le_of_eq hz) hX0.1 hK (con_of hst (j := 218) rfl (Nat.le_of_ble_eq_true rfl) (fun w hw => by simp only [List.mem_cons, List.not_mem_nil, or_false] at hw; rcases hw with rfl | rfl | rfl | rfl <;> rfl) (f_X10_farthest_ok (d := 52) hf2)) hP hD hS hl.1 (ci := 9) rfl rfl (Nat.le_of_ble_eq_true rfl) (by decide +kernel : decode code 1865 = .ok (.invokevirtual 238, 3)) ⟨by decide, by decide⟩ ⟨by show 100 + 64 * n + 16 + 16 ≤ 601024; omega, by show 60000 + 384 * n + 96 + 96 ≤ 7293034; omega⟩ (fun v hv H1 locs1 hP hD hS => ?_) (fun k9 hk9 _ _ _ _ _ _ _ _ _ _ => by cases hk9)
  cases hv
  refine W.eq (g2 := F0 m 1868 ls [.int b2]) rfl ?_
  refine lv_istore (lv' := (6, .int b2) :: (5, .int k0) :: lvs b ad i) hx hb (by decide +kernel : decode code 1868 = .ok (.istore 6, 2)) hl (by decide) rfl (fun ls hl => ?_)
  refine lv_aload_n hx hb (by decide +kernel : decode code 1870 = .ok (.aload_n 2, 1)) rfl (lv_at hl 4 rfl) ?_
  refine gCall (own := RL) (as := []) (i := 63) (r := (.inl (some (.int (T2 63 0))), T2)) (M' := Mx154) (d := 60) (rest := []) ⟨hx, hb, hml, hown, hts⟩ gt_thrown (mX_m z ad) (Nat.le_of_eq hz) hX0.1 hK (con_of hst (j := 154) rfl (Nat.le_of_ble_eq_true rfl) (fun w hw => by simp only [List.mem_cons, List.not_mem_nil, or_false] at hw; rcases hw with rfl <;> rfl) (f_X10_thrown_ok (d := 60) thr_ok)) hP hD hS hl.1 (ci := 9) rfl rfl (Nat.le_of_ble_eq_true rfl) (by decide +kernel : decode code 1871 = .ok (.invokevirtual 152, 3)) ⟨by decide, by decide⟩ ⟨by show 100 + 64 * n + 16 + 16 + 16 ≤ 601024; omega, by show 60000 + 384 * n + 96 + 96 + 96 ≤ 7293034; omega⟩ (fun v hv H1 locs1 hP hD hS => ?_) (fun k9 hk9 _ _ _ _ _ _ _ _ _ _ => by cases hk9)
  cases hv
  replace hP : va_P D vwCl (mW ad cy T2) H1 := hP
  refine W.eq (g2 := F0 m 1874 ls [.int (T2 63 0)]) rfl ?_
  refine lv_iload hx hb (by decide +kernel : decode code 1874 = .ok (.iload 5, 2)) (lv_at hl 1 rfl) ?_
  refine lv_icmp_eq (tgt := 1881) hx hb (by decide +kernel : decode code 1876 = .ok (.if_icmp .eq 5, 3)) (by decide) (fun _ => ?_) (fun q => absurd ht q)
  refine lv_iload hx hb (by decide +kernel : decode code 1881 = .ok (.iload 5, 2)) (lv_at hl 1 rfl) ?_
  have KE : W p lau e room_1 s m #[Value.ref b] below meth c H1 locs1 (100 + 64 * n + 16 + 16 + 16) (60000 + 384 * n + 96 + 96 + 96) Q (F0 m 1898 ls []) := by
    refine lv_goto (tgt := 3077) hx hb (by decide +kernel : decode code 1898 = .ok (.goto 1179, 3)) (by decide) ?_
    exact W.widen (by omega) (by omega) (kk T2 _ _ _ hI2 hP hD hS (lv_sub hl [2, 3, 4, 5, 6] rfl))
  refine lv_if_ne (tgt := 1898) hx hb (by decide +kernel : decode code 1883 = .ok (.ifCond .ne 15, 3)) (by decide) (fun _ => KE) (fun q0 => ?_)
  refine lv_aload_n hx hb (by decide +kernel : decode code 1886 = .ok (.aload_n 3, 1)) rfl (lv_at hl 5 rfl) ?_
  refine lv_iconst (v := 0) hx hb (by decide +kernel : decode code 1887 = .ok (.iconst 0, 1)) (by decide) ?_
  refine va_lald hx hb hK hP 75 3 (mW_get (i := 75) rfl) rfl vin0 (by decide +kernel : decode code 1888 = .ok (.laload, 1)) ?_
  rw [show (T2 75 ((0 : Int32).toNatClampNeg)) = b2 from (congrFun h75 0).trans (ho q0)]
  refine lv_iload hx hb (by decide +kernel : decode code 1889 = .ok (.iload 6, 2)) (lv_at hl 0 rfl) ?_
  refine lv_i2l hx hb (by decide +kernel : decode code 1891 = .ok (.i2l, 1)) rfl ?_
  refine W.lcmp hx hb (by decide +kernel : decode code 1892 = .ok (.lcmp, 1)) ?_
  refine lv_if_eq (tgt := 1898) hx hb (by decide +kernel : decode code 1893 = .ok (.ifCond .eq 5, 3)) (by decide) (fun _ => KE) (fun q => absurd (lg_cmp_self _) q)
set_option maxRecDepth 20000 in
theorem gm_calm : gOK RL 241 Mx219 (RX10, TX10, 23) 1 [1679, 1680, 1681, 116, 1682] = true := by decide +kernel
set_option maxRecDepth 20000 in
theorem gx_calm : hOK 239 yL_calm cL_calm 4 [(0, 9, 12, 24)] 3 [1235, 1236, 105, 1237] = true := by decide +kernel
set_option maxRecDepth 20000 in
set_option maxHeartbeats 4000000 in
theorem lc_calm (C : LwC p lau s m meth c b L xs z D ad cy) (hn : n < 512) (hi : i + 6 ≤ L) (hI : Inv S) (hP : va_P D vwCl (mW ad cy S) H) (hD : va_D (mAz z) (mW ad cy S)) (hS : va_S (mAz z) s.heap H locs) (hl : lv_has ls 7 (lvs b ad i)) (kk : LK p lau e s m below meth c Q b z D ad cy n i) :
    W p lau e room_1 s m #[Value.ref b] below meth c H locs (100 + 64 * n) (60000 + 384 * n) Q (F0 m 1901 ls []) := by
  obtain ⟨⟨hx, hb, hml, hown, hts⟩, hXs, hbl, hz, hK, hX0, hst, hL⟩ := id C
  obtain ⟨r1, S1, hf, hg⟩ := ag_calm (F := 6000) (p1 := (sx xs i 1)) (Nat.le_refl _) hI
  refine lv_aload_n hx hb (by decide +kernel : decode code 1901 = .ok (.aload_n 1, 1)) rfl (lv_at hl 1 rfl) ?_
  refine lw_ld C hS hl (x0 := 0) (x4 := 4) rfl rfl 1 (by decide) hi (by decide +kernel : decode code 1902 = .ok (.aload_n 0, 1)) (by decide +kernel : decode code 1903 = .ok (.iload 4, 2)) (by decide +kernel : decode code 1905 = .ok (.iconst 1, 1)) rfl (by decide +kernel : decode code 1906 = .ok (.iadd, 1)) (by decide +kernel : decode code 1907 = .ok (.iaload, 1)) ?_
  obtain ⟨k0, S2, b2, T2, hHR, hf2, hI2, ht, ho⟩ := hr_of hg
  have h75 : T2 75 = S2 75 := ev75 (f_X10_calm_ok (d := 51) hf2)
  refine lv_aload_n hx hb (by decide +kernel : decode code 1908 = .ok (.aload_n 3, 1)) rfl (lv_at hl 3 rfl) ?_
  refine gHelp (as := [.ref 0, .int (sx xs i 1), .ref 75]) (k := k0) (S2 := S2) (rest := []) ⟨hx, hb, hml, hown, hts⟩ gx_calm (Nat.le_of_eq hz) hX0 hK (hc_calm (F := 6000) hst hf hHR) hP hD hS hl.1 (Nat.le_of_ble_eq_true rfl) (by decide +kernel : decode code 1909 = .ok (.invokestatic 239, 3)) ⟨by decide, by decide⟩ ⟨by show 100 + 64 * n + 16 ≤ 601024; omega, by show 60000 + 384 * n + 96 ≤ 7293034; omega⟩ (fun H1 locs1 hP hD hS => ?_)
  refine lv_istore (lv' := (5, .int k0) :: lvs b ad i) hx hb (by decide +kernel : decode code 1912 = .ok (.istore 5, 2)) hl (by decide) rfl (fun ls hl => ?_)
  refine lv_aload_n hx hb (by decide +kernel : decode code 1914 = .ok (.aload_n 2, 1)) rfl (lv_at hl 3 rfl) ?_
  refine lw_ld C hS hl (x0 := 1) (x4 := 5) rfl rfl 1 (by decide) hi (by decide +kernel : decode code 1915 = .ok (.aload_n 0, 1)) (by decide +kernel : decode code 1916 = .ok (.iload 4, 2)) (by decide +kernel : decode code 1918 = .ok (.iconst 1, 1)) rfl (by decide +kernel : decode code 1919 = .ok (.iadd, 1)) (by decide +kernel : decode code 1920 = .ok (.iaload, 1)) ?_
  refine gCall (own := RL) (as := [.int (sx xs i 1)]) (i := 63) (r := (.inl (some (.int b2)), T2)) (M' := Mx219) (d := 60) (rest := []) ⟨hx, hb, hml, hown, hts⟩ gm_calm (mX_m z ad) (Nat.le_of_eq hz) hX0.1 hK (con_of hst (j := 219) rfl (Nat.le_of_ble_eq_true rfl) (fun w hw => by simp only [List.mem_cons, List.not_mem_nil, or_false] at hw; rcases hw with rfl | rfl <;> rfl) (f_X10_calm_ok (d := 51) hf2)) hP hD hS hl.1 (ci := 9) rfl rfl (Nat.le_of_ble_eq_true rfl) (by decide +kernel : decode code 1921 = .ok (.invokevirtual 241, 3)) ⟨by decide, by decide⟩ ⟨by show 100 + 64 * n + 16 + 16 ≤ 601024; omega, by show 60000 + 384 * n + 96 + 96 ≤ 7293034; omega⟩ (fun v hv H1 locs1 hP hD hS => ?_) (fun k9 hk9 _ _ _ _ _ _ _ _ _ _ => by cases hk9)
  cases hv
  refine W.eq (g2 := F0 m 1924 ls [.int b2]) rfl ?_
  refine lv_istore (lv' := (6, .int b2) :: (5, .int k0) :: lvs b ad i) hx hb (by decide +kernel : decode code 1924 = .ok (.istore 6, 2)) hl (by decide) rfl (fun ls hl => ?_)
  refine lv_aload_n hx hb (by decide +kernel : decode code 1926 = .ok (.aload_n 2, 1)) rfl (lv_at hl 4 rfl) ?_
  refine gCall (own := RL) (as := []) (i := 63) (r := (.inl (some (.int (T2 63 0))), T2)) (M' := Mx154) (d := 60) (rest := []) ⟨hx, hb, hml, hown, hts⟩ gt_thrown (mX_m z ad) (Nat.le_of_eq hz) hX0.1 hK (con_of hst (j := 154) rfl (Nat.le_of_ble_eq_true rfl) (fun w hw => by simp only [List.mem_cons, List.not_mem_nil, or_false] at hw; rcases hw with rfl <;> rfl) (f_X10_thrown_ok (d := 60) thr_ok)) hP hD hS hl.1 (ci := 9) rfl rfl (Nat.le_of_ble_eq_true rfl) (by decide +kernel : decode code 1927 = .ok (.invokevirtual 152, 3)) ⟨by decide, by decide⟩ ⟨by show 100 + 64 * n + 16 + 16 + 16 ≤ 601024; omega, by show 60000 + 384 * n + 96 + 96 + 96 ≤ 7293034; omega⟩ (fun v hv H1 locs1 hP hD hS => ?_) (fun k9 hk9 _ _ _ _ _ _ _ _ _ _ => by cases hk9)
  cases hv
  replace hP : va_P D vwCl (mW ad cy T2) H1 := hP
  refine W.eq (g2 := F0 m 1930 ls [.int (T2 63 0)]) rfl ?_
  refine lv_iload hx hb (by decide +kernel : decode code 1930 = .ok (.iload 5, 2)) (lv_at hl 1 rfl) ?_
  refine lv_icmp_eq (tgt := 1937) hx hb (by decide +kernel : decode code 1932 = .ok (.if_icmp .eq 5, 3)) (by decide) (fun _ => ?_) (fun q => absurd ht q)
  refine lv_iload hx hb (by decide +kernel : decode code 1937 = .ok (.iload 5, 2)) (lv_at hl 1 rfl) ?_
  have KE : W p lau e room_1 s m #[Value.ref b] below meth c H1 locs1 (100 + 64 * n + 16 + 16 + 16) (60000 + 384 * n + 96 + 96 + 96) Q (F0 m 1954 ls []) := by
    refine lv_goto (tgt := 3077) hx hb (by decide +kernel : decode code 1954 = .ok (.goto 1123, 3)) (by decide) ?_
    exact W.widen (by omega) (by omega) (kk T2 _ _ _ hI2 hP hD hS (lv_sub hl [2, 3, 4, 5, 6] rfl))
  refine lv_if_ne (tgt := 1954) hx hb (by decide +kernel : decode code 1939 = .ok (.ifCond .ne 15, 3)) (by decide) (fun _ => KE) (fun q0 => ?_)
  refine lv_aload_n hx hb (by decide +kernel : decode code 1942 = .ok (.aload_n 3, 1)) rfl (lv_at hl 5 rfl) ?_
  refine lv_iconst (v := 0) hx hb (by decide +kernel : decode code 1943 = .ok (.iconst 0, 1)) (by decide) ?_
  refine va_lald hx hb hK hP 75 3 (mW_get (i := 75) rfl) rfl vin0 (by decide +kernel : decode code 1944 = .ok (.laload, 1)) ?_
  rw [show (T2 75 ((0 : Int32).toNatClampNeg)) = b2 from (congrFun h75 0).trans (ho q0)]
  refine lv_iload hx hb (by decide +kernel : decode code 1945 = .ok (.iload 6, 2)) (lv_at hl 0 rfl) ?_
  refine lv_i2l hx hb (by decide +kernel : decode code 1947 = .ok (.i2l, 1)) rfl ?_
  refine W.lcmp hx hb (by decide +kernel : decode code 1948 = .ok (.lcmp, 1)) ?_
  refine lv_if_eq (tgt := 1954) hx hb (by decide +kernel : decode code 1949 = .ok (.ifCond .eq 5, 3)) (by decide) (fun _ => KE) (fun q => absurd (lg_cmp_self _) q)
set_option maxRecDepth 20000 in
theorem gm_trips : gOK RL 244 Mx240 (RX10, TX10, 23) 2 [1789, 1790, 1791, 116, 1792] = true := by decide +kernel
set_option maxRecDepth 20000 in
theorem gx_trips : hOK 242 yL_trips cL_trips 5 [(0, 10, 13, 24)] 4 [1242, 1243, 105, 1244] = true := by decide +kernel
set_option maxRecDepth 20000 in
set_option maxHeartbeats 4000000 in
theorem lc_trips (C : LwC p lau s m meth c b L xs z D ad cy) (hn : n < 512) (hi : i + 6 ≤ L) (hI : Inv S) (hP : va_P D vwCl (mW ad cy S) H) (hD : va_D (mAz z) (mW ad cy S)) (hS : va_S (mAz z) s.heap H locs) (hl : lv_has ls 7 (lvs b ad i)) (kk : LK p lau e s m below meth c Q b z D ad cy n i) :
    W p lau e room_1 s m #[Value.ref b] below meth c H locs (100 + 64 * n) (60000 + 384 * n) Q (F0 m 1957 ls []) := by
  obtain ⟨⟨hx, hb, hml, hown, hts⟩, hXs, hbl, hz, hK, hX0, hst, hL⟩ := id C
  obtain ⟨r1, S1, hf, hg⟩ := ag_trips (F := 6000) (p1 := (sx xs i 1)) (p2 := (sx xs i 2)) (Nat.le_refl _) hI
  refine lv_aload_n hx hb (by decide +kernel : decode code 1957 = .ok (.aload_n 1, 1)) rfl (lv_at hl 1 rfl) ?_
  refine lw_ld C hS hl (x0 := 0) (x4 := 4) rfl rfl 1 (by decide) hi (by decide +kernel : decode code 1958 = .ok (.aload_n 0, 1)) (by decide +kernel : decode code 1959 = .ok (.iload 4, 2)) (by decide +kernel : decode code 1961 = .ok (.iconst 1, 1)) rfl (by decide +kernel : decode code 1962 = .ok (.iadd, 1)) (by decide +kernel : decode code 1963 = .ok (.iaload, 1)) ?_
  refine lw_ld C hS hl (x0 := 0) (x4 := 4) rfl rfl 2 (by decide) hi (by decide +kernel : decode code 1964 = .ok (.aload_n 0, 1)) (by decide +kernel : decode code 1965 = .ok (.iload 4, 2)) (by decide +kernel : decode code 1967 = .ok (.iconst 2, 1)) rfl (by decide +kernel : decode code 1968 = .ok (.iadd, 1)) (by decide +kernel : decode code 1969 = .ok (.iaload, 1)) ?_
  obtain ⟨k0, S2, b2, T2, hHR, hf2, hI2, ht, ho⟩ := hr_of hg
  have h75 : T2 75 = S2 75 := ev75 (f_X10_trips_ok (d := 50) hf2)
  refine lv_aload_n hx hb (by decide +kernel : decode code 1970 = .ok (.aload_n 3, 1)) rfl (lv_at hl 3 rfl) ?_
  refine gHelp (as := [.ref 0, .int (sx xs i 1), .int (sx xs i 2), .ref 75]) (k := k0) (S2 := S2) (rest := []) ⟨hx, hb, hml, hown, hts⟩ gx_trips (Nat.le_of_eq hz) hX0 hK (hc_trips (F := 6000) hst hf hHR) hP hD hS hl.1 (Nat.le_of_ble_eq_true rfl) (by decide +kernel : decode code 1971 = .ok (.invokestatic 242, 3)) ⟨by decide, by decide⟩ ⟨by show 100 + 64 * n + 16 ≤ 601024; omega, by show 60000 + 384 * n + 96 ≤ 7293034; omega⟩ (fun H1 locs1 hP hD hS => ?_)
  refine lv_istore (lv' := (5, .int k0) :: lvs b ad i) hx hb (by decide +kernel : decode code 1974 = .ok (.istore 5, 2)) hl (by decide) rfl (fun ls hl => ?_)
  refine lv_aload_n hx hb (by decide +kernel : decode code 1976 = .ok (.aload_n 2, 1)) rfl (lv_at hl 3 rfl) ?_
  refine lw_ld C hS hl (x0 := 1) (x4 := 5) rfl rfl 1 (by decide) hi (by decide +kernel : decode code 1977 = .ok (.aload_n 0, 1)) (by decide +kernel : decode code 1978 = .ok (.iload 4, 2)) (by decide +kernel : decode code 1980 = .ok (.iconst 1, 1)) rfl (by decide +kernel : decode code 1981 = .ok (.iadd, 1)) (by decide +kernel : decode code 1982 = .ok (.iaload, 1)) ?_
  refine lw_ld C hS hl (x0 := 1) (x4 := 5) rfl rfl 2 (by decide) hi (by decide +kernel : decode code 1983 = .ok (.aload_n 0, 1)) (by decide +kernel : decode code 1984 = .ok (.iload 4, 2)) (by decide +kernel : decode code 1986 = .ok (.iconst 2, 1)) rfl (by decide +kernel : decode code 1987 = .ok (.iadd, 1)) (by decide +kernel : decode code 1988 = .ok (.iaload, 1)) ?_
  refine gCall (own := RL) (as := [.int (sx xs i 1), .int (sx xs i 2)]) (i := 63) (r := (.inl (some (.int b2)), T2)) (M' := Mx240) (d := 60) (rest := []) ⟨hx, hb, hml, hown, hts⟩ gm_trips (mX_m z ad) (Nat.le_of_eq hz) hX0.1 hK (con_of hst (j := 240) rfl (Nat.le_of_ble_eq_true rfl) (fun w hw => by simp only [List.mem_cons, List.not_mem_nil, or_false] at hw; rcases hw with rfl | rfl | rfl <;> rfl) (f_X10_trips_ok (d := 50) hf2)) hP hD hS hl.1 (ci := 9) rfl rfl (Nat.le_of_ble_eq_true rfl) (by decide +kernel : decode code 1989 = .ok (.invokevirtual 244, 3)) ⟨by decide, by decide⟩ ⟨by show 100 + 64 * n + 16 + 16 ≤ 601024; omega, by show 60000 + 384 * n + 96 + 96 ≤ 7293034; omega⟩ (fun v hv H1 locs1 hP hD hS => ?_) (fun k9 hk9 _ _ _ _ _ _ _ _ _ _ => by cases hk9)
  cases hv
  refine W.eq (g2 := F0 m 1992 ls [.int b2]) rfl ?_
  refine lv_istore (lv' := (6, .int b2) :: (5, .int k0) :: lvs b ad i) hx hb (by decide +kernel : decode code 1992 = .ok (.istore 6, 2)) hl (by decide) rfl (fun ls hl => ?_)
  refine lv_aload_n hx hb (by decide +kernel : decode code 1994 = .ok (.aload_n 2, 1)) rfl (lv_at hl 4 rfl) ?_
  refine gCall (own := RL) (as := []) (i := 63) (r := (.inl (some (.int (T2 63 0))), T2)) (M' := Mx154) (d := 60) (rest := []) ⟨hx, hb, hml, hown, hts⟩ gt_thrown (mX_m z ad) (Nat.le_of_eq hz) hX0.1 hK (con_of hst (j := 154) rfl (Nat.le_of_ble_eq_true rfl) (fun w hw => by simp only [List.mem_cons, List.not_mem_nil, or_false] at hw; rcases hw with rfl <;> rfl) (f_X10_thrown_ok (d := 60) thr_ok)) hP hD hS hl.1 (ci := 9) rfl rfl (Nat.le_of_ble_eq_true rfl) (by decide +kernel : decode code 1995 = .ok (.invokevirtual 152, 3)) ⟨by decide, by decide⟩ ⟨by show 100 + 64 * n + 16 + 16 + 16 ≤ 601024; omega, by show 60000 + 384 * n + 96 + 96 + 96 ≤ 7293034; omega⟩ (fun v hv H1 locs1 hP hD hS => ?_) (fun k9 hk9 _ _ _ _ _ _ _ _ _ _ => by cases hk9)
  cases hv
  replace hP : va_P D vwCl (mW ad cy T2) H1 := hP
  refine W.eq (g2 := F0 m 1998 ls [.int (T2 63 0)]) rfl ?_
  refine lv_iload hx hb (by decide +kernel : decode code 1998 = .ok (.iload 5, 2)) (lv_at hl 1 rfl) ?_
  refine lv_icmp_eq (tgt := 2005) hx hb (by decide +kernel : decode code 2000 = .ok (.if_icmp .eq 5, 3)) (by decide) (fun _ => ?_) (fun q => absurd ht q)
  refine lv_iload hx hb (by decide +kernel : decode code 2005 = .ok (.iload 5, 2)) (lv_at hl 1 rfl) ?_
  have KE : W p lau e room_1 s m #[Value.ref b] below meth c H1 locs1 (100 + 64 * n + 16 + 16 + 16) (60000 + 384 * n + 96 + 96 + 96) Q (F0 m 2022 ls []) := by
    refine lv_goto (tgt := 3077) hx hb (by decide +kernel : decode code 2022 = .ok (.goto 1055, 3)) (by decide) ?_
    exact W.widen (by omega) (by omega) (kk T2 _ _ _ hI2 hP hD hS (lv_sub hl [2, 3, 4, 5, 6] rfl))
  refine lv_if_ne (tgt := 2022) hx hb (by decide +kernel : decode code 2007 = .ok (.ifCond .ne 15, 3)) (by decide) (fun _ => KE) (fun q0 => ?_)
  refine lv_aload_n hx hb (by decide +kernel : decode code 2010 = .ok (.aload_n 3, 1)) rfl (lv_at hl 5 rfl) ?_
  refine lv_iconst (v := 0) hx hb (by decide +kernel : decode code 2011 = .ok (.iconst 0, 1)) (by decide) ?_
  refine va_lald hx hb hK hP 75 3 (mW_get (i := 75) rfl) rfl vin0 (by decide +kernel : decode code 2012 = .ok (.laload, 1)) ?_
  rw [show (T2 75 ((0 : Int32).toNatClampNeg)) = b2 from (congrFun h75 0).trans (ho q0)]
  refine lv_iload hx hb (by decide +kernel : decode code 2013 = .ok (.iload 6, 2)) (lv_at hl 0 rfl) ?_
  refine lv_i2l hx hb (by decide +kernel : decode code 2015 = .ok (.i2l, 1)) rfl ?_
  refine W.lcmp hx hb (by decide +kernel : decode code 2016 = .ok (.lcmp, 1)) ?_
  refine lv_if_eq (tgt := 2022) hx hb (by decide +kernel : decode code 2017 = .ok (.ifCond .eq 5, 3)) (by decide) (fun _ => KE) (fun q => absurd (lg_cmp_self _) q)
set_option maxRecDepth 20000 in
theorem gm_recovers : gOK RL 247 Mx229 (RX10, TX10, 23) 2 [1732, 1733, 1734, 116, 1735] = true := by decide +kernel
set_option maxRecDepth 20000 in
theorem gx_recovers : hOK 245 yL_recovers cL_recovers 5 [(0, 10, 13, 24)] 4 [1249, 1250, 105, 1251] = true := by decide +kernel
set_option maxRecDepth 20000 in
set_option maxHeartbeats 4000000 in
theorem lc_recovers (C : LwC p lau s m meth c b L xs z D ad cy) (hn : n < 512) (hi : i + 6 ≤ L) (hI : Inv S) (hP : va_P D vwCl (mW ad cy S) H) (hD : va_D (mAz z) (mW ad cy S)) (hS : va_S (mAz z) s.heap H locs) (hl : lv_has ls 7 (lvs b ad i)) (kk : LK p lau e s m below meth c Q b z D ad cy n i) :
    W p lau e room_1 s m #[Value.ref b] below meth c H locs (100 + 64 * n) (60000 + 384 * n) Q (F0 m 2025 ls []) := by
  obtain ⟨⟨hx, hb, hml, hown, hts⟩, hXs, hbl, hz, hK, hX0, hst, hL⟩ := id C
  obtain ⟨r1, S1, hf, hg⟩ := ag_recovers (F := 6000) (p1 := (sx xs i 1)) (p2 := (sx xs i 2)) (Nat.le_refl _) hI
  refine lv_aload_n hx hb (by decide +kernel : decode code 2025 = .ok (.aload_n 1, 1)) rfl (lv_at hl 1 rfl) ?_
  refine lw_ld C hS hl (x0 := 0) (x4 := 4) rfl rfl 1 (by decide) hi (by decide +kernel : decode code 2026 = .ok (.aload_n 0, 1)) (by decide +kernel : decode code 2027 = .ok (.iload 4, 2)) (by decide +kernel : decode code 2029 = .ok (.iconst 1, 1)) rfl (by decide +kernel : decode code 2030 = .ok (.iadd, 1)) (by decide +kernel : decode code 2031 = .ok (.iaload, 1)) ?_
  refine lw_ld C hS hl (x0 := 0) (x4 := 4) rfl rfl 2 (by decide) hi (by decide +kernel : decode code 2032 = .ok (.aload_n 0, 1)) (by decide +kernel : decode code 2033 = .ok (.iload 4, 2)) (by decide +kernel : decode code 2035 = .ok (.iconst 2, 1)) rfl (by decide +kernel : decode code 2036 = .ok (.iadd, 1)) (by decide +kernel : decode code 2037 = .ok (.iaload, 1)) ?_
  obtain ⟨k0, S2, b2, T2, hHR, hf2, hI2, ht, ho⟩ := hr_of hg
  have h75 : T2 75 = S2 75 := ev75 (f_X10_recovers_ok (d := 57) hf2)
  refine lv_aload_n hx hb (by decide +kernel : decode code 2038 = .ok (.aload_n 3, 1)) rfl (lv_at hl 3 rfl) ?_
  refine gHelp (as := [.ref 0, .int (sx xs i 1), .int (sx xs i 2), .ref 75]) (k := k0) (S2 := S2) (rest := []) ⟨hx, hb, hml, hown, hts⟩ gx_recovers (Nat.le_of_eq hz) hX0 hK (hc_recovers (F := 6000) hst hf hHR) hP hD hS hl.1 (Nat.le_of_ble_eq_true rfl) (by decide +kernel : decode code 2039 = .ok (.invokestatic 245, 3)) ⟨by decide, by decide⟩ ⟨by show 100 + 64 * n + 16 ≤ 601024; omega, by show 60000 + 384 * n + 96 ≤ 7293034; omega⟩ (fun H1 locs1 hP hD hS => ?_)
  refine lv_istore (lv' := (5, .int k0) :: lvs b ad i) hx hb (by decide +kernel : decode code 2042 = .ok (.istore 5, 2)) hl (by decide) rfl (fun ls hl => ?_)
  refine lv_aload_n hx hb (by decide +kernel : decode code 2044 = .ok (.aload_n 2, 1)) rfl (lv_at hl 3 rfl) ?_
  refine lw_ld C hS hl (x0 := 1) (x4 := 5) rfl rfl 1 (by decide) hi (by decide +kernel : decode code 2045 = .ok (.aload_n 0, 1)) (by decide +kernel : decode code 2046 = .ok (.iload 4, 2)) (by decide +kernel : decode code 2048 = .ok (.iconst 1, 1)) rfl (by decide +kernel : decode code 2049 = .ok (.iadd, 1)) (by decide +kernel : decode code 2050 = .ok (.iaload, 1)) ?_
  refine lw_ld C hS hl (x0 := 1) (x4 := 5) rfl rfl 2 (by decide) hi (by decide +kernel : decode code 2051 = .ok (.aload_n 0, 1)) (by decide +kernel : decode code 2052 = .ok (.iload 4, 2)) (by decide +kernel : decode code 2054 = .ok (.iconst 2, 1)) rfl (by decide +kernel : decode code 2055 = .ok (.iadd, 1)) (by decide +kernel : decode code 2056 = .ok (.iaload, 1)) ?_
  refine gCall (own := RL) (as := [.int (sx xs i 1), .int (sx xs i 2)]) (i := 63) (r := (.inl (some (.int b2)), T2)) (M' := Mx229) (d := 60) (rest := []) ⟨hx, hb, hml, hown, hts⟩ gm_recovers (mX_m z ad) (Nat.le_of_eq hz) hX0.1 hK (con_of hst (j := 229) rfl (Nat.le_of_ble_eq_true rfl) (fun w hw => by simp only [List.mem_cons, List.not_mem_nil, or_false] at hw; rcases hw with rfl | rfl | rfl <;> rfl) (f_X10_recovers_ok (d := 57) hf2)) hP hD hS hl.1 (ci := 9) rfl rfl (Nat.le_of_ble_eq_true rfl) (by decide +kernel : decode code 2057 = .ok (.invokevirtual 247, 3)) ⟨by decide, by decide⟩ ⟨by show 100 + 64 * n + 16 + 16 ≤ 601024; omega, by show 60000 + 384 * n + 96 + 96 ≤ 7293034; omega⟩ (fun v hv H1 locs1 hP hD hS => ?_) (fun k9 hk9 _ _ _ _ _ _ _ _ _ _ => by cases hk9)
  cases hv
  refine W.eq (g2 := F0 m 2060 ls [.int b2]) rfl ?_
  refine lv_istore (lv' := (6, .int b2) :: (5, .int k0) :: lvs b ad i) hx hb (by decide +kernel : decode code 2060 = .ok (.istore 6, 2)) hl (by decide) rfl (fun ls hl => ?_)
  refine lv_aload_n hx hb (by decide +kernel : decode code 2062 = .ok (.aload_n 2, 1)) rfl (lv_at hl 4 rfl) ?_
  refine gCall (own := RL) (as := []) (i := 63) (r := (.inl (some (.int (T2 63 0))), T2)) (M' := Mx154) (d := 60) (rest := []) ⟨hx, hb, hml, hown, hts⟩ gt_thrown (mX_m z ad) (Nat.le_of_eq hz) hX0.1 hK (con_of hst (j := 154) rfl (Nat.le_of_ble_eq_true rfl) (fun w hw => by simp only [List.mem_cons, List.not_mem_nil, or_false] at hw; rcases hw with rfl <;> rfl) (f_X10_thrown_ok (d := 60) thr_ok)) hP hD hS hl.1 (ci := 9) rfl rfl (Nat.le_of_ble_eq_true rfl) (by decide +kernel : decode code 2063 = .ok (.invokevirtual 152, 3)) ⟨by decide, by decide⟩ ⟨by show 100 + 64 * n + 16 + 16 + 16 ≤ 601024; omega, by show 60000 + 384 * n + 96 + 96 + 96 ≤ 7293034; omega⟩ (fun v hv H1 locs1 hP hD hS => ?_) (fun k9 hk9 _ _ _ _ _ _ _ _ _ _ => by cases hk9)
  cases hv
  replace hP : va_P D vwCl (mW ad cy T2) H1 := hP
  refine W.eq (g2 := F0 m 2066 ls [.int (T2 63 0)]) rfl ?_
  refine lv_iload hx hb (by decide +kernel : decode code 2066 = .ok (.iload 5, 2)) (lv_at hl 1 rfl) ?_
  refine lv_icmp_eq (tgt := 2073) hx hb (by decide +kernel : decode code 2068 = .ok (.if_icmp .eq 5, 3)) (by decide) (fun _ => ?_) (fun q => absurd ht q)
  refine lv_iload hx hb (by decide +kernel : decode code 2073 = .ok (.iload 5, 2)) (lv_at hl 1 rfl) ?_
  have KE : W p lau e room_1 s m #[Value.ref b] below meth c H1 locs1 (100 + 64 * n + 16 + 16 + 16) (60000 + 384 * n + 96 + 96 + 96) Q (F0 m 2090 ls []) := by
    refine lv_goto (tgt := 3077) hx hb (by decide +kernel : decode code 2090 = .ok (.goto 987, 3)) (by decide) ?_
    exact W.widen (by omega) (by omega) (kk T2 _ _ _ hI2 hP hD hS (lv_sub hl [2, 3, 4, 5, 6] rfl))
  refine lv_if_ne (tgt := 2090) hx hb (by decide +kernel : decode code 2075 = .ok (.ifCond .ne 15, 3)) (by decide) (fun _ => KE) (fun q0 => ?_)
  refine lv_aload_n hx hb (by decide +kernel : decode code 2078 = .ok (.aload_n 3, 1)) rfl (lv_at hl 5 rfl) ?_
  refine lv_iconst (v := 0) hx hb (by decide +kernel : decode code 2079 = .ok (.iconst 0, 1)) (by decide) ?_
  refine va_lald hx hb hK hP 75 3 (mW_get (i := 75) rfl) rfl vin0 (by decide +kernel : decode code 2080 = .ok (.laload, 1)) ?_
  rw [show (T2 75 ((0 : Int32).toNatClampNeg)) = b2 from (congrFun h75 0).trans (ho q0)]
  refine lv_iload hx hb (by decide +kernel : decode code 2081 = .ok (.iload 6, 2)) (lv_at hl 0 rfl) ?_
  refine lv_i2l hx hb (by decide +kernel : decode code 2083 = .ok (.i2l, 1)) rfl ?_
  refine W.lcmp hx hb (by decide +kernel : decode code 2084 = .ok (.lcmp, 1)) ?_
  refine lv_if_eq (tgt := 2090) hx hb (by decide +kernel : decode code 2085 = .ok (.ifCond .eq 5, 3)) (by decide) (fun _ => KE) (fun q => absurd (lg_cmp_self _) q)
set_option maxRecDepth 20000 in
theorem gm_loss : gOK RL 250 Mx259 (RX10, TX10, 23) 1 [1864, 1865, 1866, 116, 1867] = true := by decide +kernel
set_option maxRecDepth 20000 in
theorem gx_loss : hOK 248 yL_loss cL_loss 4 [(0, 9, 12, 13)] 3 [1258, 1259, 105, 1260] = true := by decide +kernel
set_option maxRecDepth 20000 in
set_option maxHeartbeats 4000000 in
theorem lc_loss (C : LwC p lau s m meth c b L xs z D ad cy) (hn : n < 512) (hi : i + 6 ≤ L) (hI : Inv S) (hP : va_P D vwCl (mW ad cy S) H) (hD : va_D (mAz z) (mW ad cy S)) (hS : va_S (mAz z) s.heap H locs) (hl : lv_has ls 7 (lvs b ad i)) (kk : LK p lau e s m below meth c Q b z D ad cy n i) :
    W p lau e room_1 s m #[Value.ref b] below meth c H locs (100 + 64 * n) (60000 + 384 * n) Q (F0 m 2093 ls []) := by
  obtain ⟨⟨hx, hb, hml, hown, hts⟩, hXs, hbl, hz, hK, hX0, hst, hL⟩ := id C
  obtain ⟨r1, S1, hf, hg⟩ := ag_loss (F := 6000) (p1 := (sx xs i 1)) (Nat.le_refl _) hI
  refine lv_aload_n hx hb (by decide +kernel : decode code 2093 = .ok (.aload_n 1, 1)) rfl (lv_at hl 1 rfl) ?_
  refine lw_ld C hS hl (x0 := 0) (x4 := 4) rfl rfl 1 (by decide) hi (by decide +kernel : decode code 2094 = .ok (.aload_n 0, 1)) (by decide +kernel : decode code 2095 = .ok (.iload 4, 2)) (by decide +kernel : decode code 2097 = .ok (.iconst 1, 1)) rfl (by decide +kernel : decode code 2098 = .ok (.iadd, 1)) (by decide +kernel : decode code 2099 = .ok (.iaload, 1)) ?_
  obtain ⟨k0, S2, b2, T2, hHR, hf2, hI2, ht, ho⟩ := hr_of hg
  have h75 : T2 75 = S2 75 := ev75 (f_X10_loss_ok (d := 49) hf2)
  refine lv_aload_n hx hb (by decide +kernel : decode code 2100 = .ok (.aload_n 3, 1)) rfl (lv_at hl 3 rfl) ?_
  refine gHelp (as := [.ref 0, .int (sx xs i 1), .ref 75]) (k := k0) (S2 := S2) (rest := []) ⟨hx, hb, hml, hown, hts⟩ gx_loss (Nat.le_of_eq hz) hX0 hK (hc_loss (F := 6000) hst hf hHR) hP hD hS hl.1 (Nat.le_of_ble_eq_true rfl) (by decide +kernel : decode code 2101 = .ok (.invokestatic 248, 3)) ⟨by decide, by decide⟩ ⟨by show 100 + 64 * n + 16 ≤ 601024; omega, by show 60000 + 384 * n + 96 ≤ 7293034; omega⟩ (fun H1 locs1 hP hD hS => ?_)
  refine lv_istore (lv' := (5, .int k0) :: lvs b ad i) hx hb (by decide +kernel : decode code 2104 = .ok (.istore 5, 2)) hl (by decide) rfl (fun ls hl => ?_)
  refine lv_aload_n hx hb (by decide +kernel : decode code 2106 = .ok (.aload_n 2, 1)) rfl (lv_at hl 3 rfl) ?_
  refine lw_ld C hS hl (x0 := 1) (x4 := 5) rfl rfl 1 (by decide) hi (by decide +kernel : decode code 2107 = .ok (.aload_n 0, 1)) (by decide +kernel : decode code 2108 = .ok (.iload 4, 2)) (by decide +kernel : decode code 2110 = .ok (.iconst 1, 1)) rfl (by decide +kernel : decode code 2111 = .ok (.iadd, 1)) (by decide +kernel : decode code 2112 = .ok (.iaload, 1)) ?_
  refine gCall (own := RL) (as := [.int (sx xs i 1)]) (i := 63) (r := (.inl (some (.int b2)), T2)) (M' := Mx259) (d := 60) (rest := []) ⟨hx, hb, hml, hown, hts⟩ gm_loss (mX_m z ad) (Nat.le_of_eq hz) hX0.1 hK (con_of hst (j := 259) rfl (Nat.le_of_ble_eq_true rfl) (fun w hw => by simp only [List.mem_cons, List.not_mem_nil, or_false] at hw; rcases hw with rfl | rfl <;> rfl) (f_X10_loss_ok (d := 49) hf2)) hP hD hS hl.1 (ci := 9) rfl rfl (Nat.le_of_ble_eq_true rfl) (by decide +kernel : decode code 2113 = .ok (.invokevirtual 250, 3)) ⟨by decide, by decide⟩ ⟨by show 100 + 64 * n + 16 + 16 ≤ 601024; omega, by show 60000 + 384 * n + 96 + 96 ≤ 7293034; omega⟩ (fun v hv H1 locs1 hP hD hS => ?_) (fun k9 hk9 _ _ _ _ _ _ _ _ _ _ => by cases hk9)
  cases hv
  refine W.eq (g2 := F0 m 2116 ls [.int b2]) rfl ?_
  refine lv_istore (lv' := (6, .int b2) :: (5, .int k0) :: lvs b ad i) hx hb (by decide +kernel : decode code 2116 = .ok (.istore 6, 2)) hl (by decide) rfl (fun ls hl => ?_)
  refine lv_aload_n hx hb (by decide +kernel : decode code 2118 = .ok (.aload_n 2, 1)) rfl (lv_at hl 4 rfl) ?_
  refine gCall (own := RL) (as := []) (i := 63) (r := (.inl (some (.int (T2 63 0))), T2)) (M' := Mx154) (d := 60) (rest := []) ⟨hx, hb, hml, hown, hts⟩ gt_thrown (mX_m z ad) (Nat.le_of_eq hz) hX0.1 hK (con_of hst (j := 154) rfl (Nat.le_of_ble_eq_true rfl) (fun w hw => by simp only [List.mem_cons, List.not_mem_nil, or_false] at hw; rcases hw with rfl <;> rfl) (f_X10_thrown_ok (d := 60) thr_ok)) hP hD hS hl.1 (ci := 9) rfl rfl (Nat.le_of_ble_eq_true rfl) (by decide +kernel : decode code 2119 = .ok (.invokevirtual 152, 3)) ⟨by decide, by decide⟩ ⟨by show 100 + 64 * n + 16 + 16 + 16 ≤ 601024; omega, by show 60000 + 384 * n + 96 + 96 + 96 ≤ 7293034; omega⟩ (fun v hv H1 locs1 hP hD hS => ?_) (fun k9 hk9 _ _ _ _ _ _ _ _ _ _ => by cases hk9)
  cases hv
  replace hP : va_P D vwCl (mW ad cy T2) H1 := hP
  refine W.eq (g2 := F0 m 2122 ls [.int (T2 63 0)]) rfl ?_
  refine lv_iload hx hb (by decide +kernel : decode code 2122 = .ok (.iload 5, 2)) (lv_at hl 1 rfl) ?_
  refine lv_icmp_eq (tgt := 2129) hx hb (by decide +kernel : decode code 2124 = .ok (.if_icmp .eq 5, 3)) (by decide) (fun _ => ?_) (fun q => absurd ht q)
  refine lv_iload hx hb (by decide +kernel : decode code 2129 = .ok (.iload 5, 2)) (lv_at hl 1 rfl) ?_
  have KE : W p lau e room_1 s m #[Value.ref b] below meth c H1 locs1 (100 + 64 * n + 16 + 16 + 16) (60000 + 384 * n + 96 + 96 + 96) Q (F0 m 2146 ls []) := by
    refine lv_goto (tgt := 3077) hx hb (by decide +kernel : decode code 2146 = .ok (.goto 931, 3)) (by decide) ?_
    exact W.widen (by omega) (by omega) (kk T2 _ _ _ hI2 hP hD hS (lv_sub hl [2, 3, 4, 5, 6] rfl))
  refine lv_if_ne (tgt := 2146) hx hb (by decide +kernel : decode code 2131 = .ok (.ifCond .ne 15, 3)) (by decide) (fun _ => KE) (fun q0 => ?_)
  refine lv_aload_n hx hb (by decide +kernel : decode code 2134 = .ok (.aload_n 3, 1)) rfl (lv_at hl 5 rfl) ?_
  refine lv_iconst (v := 0) hx hb (by decide +kernel : decode code 2135 = .ok (.iconst 0, 1)) (by decide) ?_
  refine va_lald hx hb hK hP 75 3 (mW_get (i := 75) rfl) rfl vin0 (by decide +kernel : decode code 2136 = .ok (.laload, 1)) ?_
  rw [show (T2 75 ((0 : Int32).toNatClampNeg)) = b2 from (congrFun h75 0).trans (ho q0)]
  refine lv_iload hx hb (by decide +kernel : decode code 2137 = .ok (.iload 6, 2)) (lv_at hl 0 rfl) ?_
  refine lv_i2l hx hb (by decide +kernel : decode code 2139 = .ok (.i2l, 1)) rfl ?_
  refine W.lcmp hx hb (by decide +kernel : decode code 2140 = .ok (.lcmp, 1)) ?_
  refine lv_if_eq (tgt := 2146) hx hb (by decide +kernel : decode code 2141 = .ok (.ifCond .eq 5, 3)) (by decide) (fun _ => KE) (fun q => absurd (lg_cmp_self _) q)
set_option maxRecDepth 20000 in
theorem gm_pairs : gOK RL 253 Mx263 (RX10, TX10, 23) 1 [1880, 1881, 1882, 116, 1883] = true := by decide +kernel
set_option maxRecDepth 20000 in
theorem gx_pairs : hOK 251 yL_pairs cL_pairs 4 [(0, 9, 12, 13)] 3 [1269, 1270, 105, 1271] = true := by decide +kernel
set_option maxRecDepth 20000 in
set_option maxHeartbeats 4000000 in
theorem lc_pairs (C : LwC p lau s m meth c b L xs z D ad cy) (hn : n < 512) (hi : i + 6 ≤ L) (hI : Inv S) (hP : va_P D vwCl (mW ad cy S) H) (hD : va_D (mAz z) (mW ad cy S)) (hS : va_S (mAz z) s.heap H locs) (hl : lv_has ls 7 (lvs b ad i)) (kk : LK p lau e s m below meth c Q b z D ad cy n i) :
    W p lau e room_1 s m #[Value.ref b] below meth c H locs (100 + 64 * n) (60000 + 384 * n) Q (F0 m 2149 ls []) := by
  obtain ⟨⟨hx, hb, hml, hown, hts⟩, hXs, hbl, hz, hK, hX0, hst, hL⟩ := id C
  obtain ⟨r1, S1, hf, hg⟩ := ag_pairs (F := 6000) (p1 := (sx xs i 1)) (Nat.le_refl _) hI
  refine lv_aload_n hx hb (by decide +kernel : decode code 2149 = .ok (.aload_n 1, 1)) rfl (lv_at hl 1 rfl) ?_
  refine lw_ld C hS hl (x0 := 0) (x4 := 4) rfl rfl 1 (by decide) hi (by decide +kernel : decode code 2150 = .ok (.aload_n 0, 1)) (by decide +kernel : decode code 2151 = .ok (.iload 4, 2)) (by decide +kernel : decode code 2153 = .ok (.iconst 1, 1)) rfl (by decide +kernel : decode code 2154 = .ok (.iadd, 1)) (by decide +kernel : decode code 2155 = .ok (.iaload, 1)) ?_
  obtain ⟨k0, S2, b2, T2, hHR, hf2, hI2, ht, ho⟩ := hr_of hg
  have h75 : T2 75 = S2 75 := ev75 (f_X10_pairs_ok (d := 58) hf2)
  refine lv_aload_n hx hb (by decide +kernel : decode code 2156 = .ok (.aload_n 3, 1)) rfl (lv_at hl 3 rfl) ?_
  refine gHelp (as := [.ref 0, .int (sx xs i 1), .ref 75]) (k := k0) (S2 := S2) (rest := []) ⟨hx, hb, hml, hown, hts⟩ gx_pairs (Nat.le_of_eq hz) hX0 hK (hc_pairs (F := 6000) hst hf hHR) hP hD hS hl.1 (Nat.le_of_ble_eq_true rfl) (by decide +kernel : decode code 2157 = .ok (.invokestatic 251, 3)) ⟨by decide, by decide⟩ ⟨by show 100 + 64 * n + 16 ≤ 601024; omega, by show 60000 + 384 * n + 96 ≤ 7293034; omega⟩ (fun H1 locs1 hP hD hS => ?_)
  refine lv_istore (lv' := (5, .int k0) :: lvs b ad i) hx hb (by decide +kernel : decode code 2160 = .ok (.istore 5, 2)) hl (by decide) rfl (fun ls hl => ?_)
  refine lv_aload_n hx hb (by decide +kernel : decode code 2162 = .ok (.aload_n 2, 1)) rfl (lv_at hl 3 rfl) ?_
  refine lw_ld C hS hl (x0 := 1) (x4 := 5) rfl rfl 1 (by decide) hi (by decide +kernel : decode code 2163 = .ok (.aload_n 0, 1)) (by decide +kernel : decode code 2164 = .ok (.iload 4, 2)) (by decide +kernel : decode code 2166 = .ok (.iconst 1, 1)) rfl (by decide +kernel : decode code 2167 = .ok (.iadd, 1)) (by decide +kernel : decode code 2168 = .ok (.iaload, 1)) ?_
  refine gCall (own := RL) (as := [.int (sx xs i 1)]) (i := 63) (r := (.inl (some (.int b2)), T2)) (M' := Mx263) (d := 60) (rest := []) ⟨hx, hb, hml, hown, hts⟩ gm_pairs (mX_m z ad) (Nat.le_of_eq hz) hX0.1 hK (con_of hst (j := 263) rfl (Nat.le_of_ble_eq_true rfl) (fun w hw => by simp only [List.mem_cons, List.not_mem_nil, or_false] at hw; rcases hw with rfl | rfl <;> rfl) (f_X10_pairs_ok (d := 58) hf2)) hP hD hS hl.1 (ci := 9) rfl rfl (Nat.le_of_ble_eq_true rfl) (by decide +kernel : decode code 2169 = .ok (.invokevirtual 253, 3)) ⟨by decide, by decide⟩ ⟨by show 100 + 64 * n + 16 + 16 ≤ 601024; omega, by show 60000 + 384 * n + 96 + 96 ≤ 7293034; omega⟩ (fun v hv H1 locs1 hP hD hS => ?_) (fun k9 hk9 _ _ _ _ _ _ _ _ _ _ => by cases hk9)
  cases hv
  refine W.eq (g2 := F0 m 2172 ls [.int b2]) rfl ?_
  refine lv_istore (lv' := (6, .int b2) :: (5, .int k0) :: lvs b ad i) hx hb (by decide +kernel : decode code 2172 = .ok (.istore 6, 2)) hl (by decide) rfl (fun ls hl => ?_)
  refine lv_aload_n hx hb (by decide +kernel : decode code 2174 = .ok (.aload_n 2, 1)) rfl (lv_at hl 4 rfl) ?_
  refine gCall (own := RL) (as := []) (i := 63) (r := (.inl (some (.int (T2 63 0))), T2)) (M' := Mx154) (d := 60) (rest := []) ⟨hx, hb, hml, hown, hts⟩ gt_thrown (mX_m z ad) (Nat.le_of_eq hz) hX0.1 hK (con_of hst (j := 154) rfl (Nat.le_of_ble_eq_true rfl) (fun w hw => by simp only [List.mem_cons, List.not_mem_nil, or_false] at hw; rcases hw with rfl <;> rfl) (f_X10_thrown_ok (d := 60) thr_ok)) hP hD hS hl.1 (ci := 9) rfl rfl (Nat.le_of_ble_eq_true rfl) (by decide +kernel : decode code 2175 = .ok (.invokevirtual 152, 3)) ⟨by decide, by decide⟩ ⟨by show 100 + 64 * n + 16 + 16 + 16 ≤ 601024; omega, by show 60000 + 384 * n + 96 + 96 + 96 ≤ 7293034; omega⟩ (fun v hv H1 locs1 hP hD hS => ?_) (fun k9 hk9 _ _ _ _ _ _ _ _ _ _ => by cases hk9)
  cases hv
  replace hP : va_P D vwCl (mW ad cy T2) H1 := hP
  refine W.eq (g2 := F0 m 2178 ls [.int (T2 63 0)]) rfl ?_
  refine lv_iload hx hb (by decide +kernel : decode code 2178 = .ok (.iload 5, 2)) (lv_at hl 1 rfl) ?_
  refine lv_icmp_eq (tgt := 2185) hx hb (by decide +kernel : decode code 2180 = .ok (.if_icmp .eq 5, 3)) (by decide) (fun _ => ?_) (fun q => absurd ht q)
  refine lv_iload hx hb (by decide +kernel : decode code 2185 = .ok (.iload 5, 2)) (lv_at hl 1 rfl) ?_
  have KE : W p lau e room_1 s m #[Value.ref b] below meth c H1 locs1 (100 + 64 * n + 16 + 16 + 16) (60000 + 384 * n + 96 + 96 + 96) Q (F0 m 2202 ls []) := by
    refine lv_goto (tgt := 3077) hx hb (by decide +kernel : decode code 2202 = .ok (.goto 875, 3)) (by decide) ?_
    exact W.widen (by omega) (by omega) (kk T2 _ _ _ hI2 hP hD hS (lv_sub hl [2, 3, 4, 5, 6] rfl))
  refine lv_if_ne (tgt := 2202) hx hb (by decide +kernel : decode code 2187 = .ok (.ifCond .ne 15, 3)) (by decide) (fun _ => KE) (fun q0 => ?_)
  refine lv_aload_n hx hb (by decide +kernel : decode code 2190 = .ok (.aload_n 3, 1)) rfl (lv_at hl 5 rfl) ?_
  refine lv_iconst (v := 0) hx hb (by decide +kernel : decode code 2191 = .ok (.iconst 0, 1)) (by decide) ?_
  refine va_lald hx hb hK hP 75 3 (mW_get (i := 75) rfl) rfl vin0 (by decide +kernel : decode code 2192 = .ok (.laload, 1)) ?_
  rw [show (T2 75 ((0 : Int32).toNatClampNeg)) = b2 from (congrFun h75 0).trans (ho q0)]
  refine lv_iload hx hb (by decide +kernel : decode code 2193 = .ok (.iload 6, 2)) (lv_at hl 0 rfl) ?_
  refine lv_i2l hx hb (by decide +kernel : decode code 2195 = .ok (.i2l, 1)) rfl ?_
  refine W.lcmp hx hb (by decide +kernel : decode code 2196 = .ok (.lcmp, 1)) ?_
  refine lv_if_eq (tgt := 2202) hx hb (by decide +kernel : decode code 2197 = .ok (.ifCond .eq 5, 3)) (by decide) (fun _ => KE) (fun q => absurd (lg_cmp_self _) q)
set_option maxRecDepth 20000 in
theorem gm_jerks : gOK RL 256 Mx265 (RX10, TX10, 23) 2 [1884, 1885, 1886, 116, 1887] = true := by decide +kernel
set_option maxRecDepth 20000 in
theorem gx_jerks : hOK 254 yL_jerks cL_jerks 5 [(0, 10, 13, 13)] 4 [1276, 1277, 105, 1278] = true := by decide +kernel
set_option maxRecDepth 20000 in
set_option maxHeartbeats 4000000 in
theorem lc_jerks (C : LwC p lau s m meth c b L xs z D ad cy) (hn : n < 512) (hi : i + 6 ≤ L) (hI : Inv S) (hP : va_P D vwCl (mW ad cy S) H) (hD : va_D (mAz z) (mW ad cy S)) (hS : va_S (mAz z) s.heap H locs) (hl : lv_has ls 7 (lvs b ad i)) (kk : LK p lau e s m below meth c Q b z D ad cy n i) :
    W p lau e room_1 s m #[Value.ref b] below meth c H locs (100 + 64 * n) (60000 + 384 * n) Q (F0 m 2205 ls []) := by
  obtain ⟨⟨hx, hb, hml, hown, hts⟩, hXs, hbl, hz, hK, hX0, hst, hL⟩ := id C
  obtain ⟨r1, S1, hf, hg⟩ := ag_jerks (F := 6000) (p1 := (sx xs i 1)) (p2 := (sx xs i 2)) (Nat.le_refl _) hI
  refine lv_aload_n hx hb (by decide +kernel : decode code 2205 = .ok (.aload_n 1, 1)) rfl (lv_at hl 1 rfl) ?_
  refine lw_ld C hS hl (x0 := 0) (x4 := 4) rfl rfl 1 (by decide) hi (by decide +kernel : decode code 2206 = .ok (.aload_n 0, 1)) (by decide +kernel : decode code 2207 = .ok (.iload 4, 2)) (by decide +kernel : decode code 2209 = .ok (.iconst 1, 1)) rfl (by decide +kernel : decode code 2210 = .ok (.iadd, 1)) (by decide +kernel : decode code 2211 = .ok (.iaload, 1)) ?_
  refine lw_ld C hS hl (x0 := 0) (x4 := 4) rfl rfl 2 (by decide) hi (by decide +kernel : decode code 2212 = .ok (.aload_n 0, 1)) (by decide +kernel : decode code 2213 = .ok (.iload 4, 2)) (by decide +kernel : decode code 2215 = .ok (.iconst 2, 1)) rfl (by decide +kernel : decode code 2216 = .ok (.iadd, 1)) (by decide +kernel : decode code 2217 = .ok (.iaload, 1)) ?_
  obtain ⟨k0, S2, b2, T2, hHR, hf2, hI2, ht, ho⟩ := hr_of hg
  have h75 : T2 75 = S2 75 := ev75 (f_X10_jerks_ok (d := 58) hf2)
  refine lv_aload_n hx hb (by decide +kernel : decode code 2218 = .ok (.aload_n 3, 1)) rfl (lv_at hl 3 rfl) ?_
  refine gHelp (as := [.ref 0, .int (sx xs i 1), .int (sx xs i 2), .ref 75]) (k := k0) (S2 := S2) (rest := []) ⟨hx, hb, hml, hown, hts⟩ gx_jerks (Nat.le_of_eq hz) hX0 hK (hc_jerks (F := 6000) hst hf hHR) hP hD hS hl.1 (Nat.le_of_ble_eq_true rfl) (by decide +kernel : decode code 2219 = .ok (.invokestatic 254, 3)) ⟨by decide, by decide⟩ ⟨by show 100 + 64 * n + 16 ≤ 601024; omega, by show 60000 + 384 * n + 96 ≤ 7293034; omega⟩ (fun H1 locs1 hP hD hS => ?_)
  refine lv_istore (lv' := (5, .int k0) :: lvs b ad i) hx hb (by decide +kernel : decode code 2222 = .ok (.istore 5, 2)) hl (by decide) rfl (fun ls hl => ?_)
  refine lv_aload_n hx hb (by decide +kernel : decode code 2224 = .ok (.aload_n 2, 1)) rfl (lv_at hl 3 rfl) ?_
  refine lw_ld C hS hl (x0 := 1) (x4 := 5) rfl rfl 1 (by decide) hi (by decide +kernel : decode code 2225 = .ok (.aload_n 0, 1)) (by decide +kernel : decode code 2226 = .ok (.iload 4, 2)) (by decide +kernel : decode code 2228 = .ok (.iconst 1, 1)) rfl (by decide +kernel : decode code 2229 = .ok (.iadd, 1)) (by decide +kernel : decode code 2230 = .ok (.iaload, 1)) ?_
  refine lw_ld C hS hl (x0 := 1) (x4 := 5) rfl rfl 2 (by decide) hi (by decide +kernel : decode code 2231 = .ok (.aload_n 0, 1)) (by decide +kernel : decode code 2232 = .ok (.iload 4, 2)) (by decide +kernel : decode code 2234 = .ok (.iconst 2, 1)) rfl (by decide +kernel : decode code 2235 = .ok (.iadd, 1)) (by decide +kernel : decode code 2236 = .ok (.iaload, 1)) ?_
  refine gCall (own := RL) (as := [.int (sx xs i 1), .int (sx xs i 2)]) (i := 63) (r := (.inl (some (.int b2)), T2)) (M' := Mx265) (d := 60) (rest := []) ⟨hx, hb, hml, hown, hts⟩ gm_jerks (mX_m z ad) (Nat.le_of_eq hz) hX0.1 hK (con_of hst (j := 265) rfl (Nat.le_of_ble_eq_true rfl) (fun w hw => by simp only [List.mem_cons, List.not_mem_nil, or_false] at hw; rcases hw with rfl | rfl | rfl <;> rfl) (f_X10_jerks_ok (d := 58) hf2)) hP hD hS hl.1 (ci := 9) rfl rfl (Nat.le_of_ble_eq_true rfl) (by decide +kernel : decode code 2237 = .ok (.invokevirtual 256, 3)) ⟨by decide, by decide⟩ ⟨by show 100 + 64 * n + 16 + 16 ≤ 601024; omega, by show 60000 + 384 * n + 96 + 96 ≤ 7293034; omega⟩ (fun v hv H1 locs1 hP hD hS => ?_) (fun k9 hk9 _ _ _ _ _ _ _ _ _ _ => by cases hk9)
  cases hv
  refine W.eq (g2 := F0 m 2240 ls [.int b2]) rfl ?_
  refine lv_istore (lv' := (6, .int b2) :: (5, .int k0) :: lvs b ad i) hx hb (by decide +kernel : decode code 2240 = .ok (.istore 6, 2)) hl (by decide) rfl (fun ls hl => ?_)
  refine lv_aload_n hx hb (by decide +kernel : decode code 2242 = .ok (.aload_n 2, 1)) rfl (lv_at hl 4 rfl) ?_
  refine gCall (own := RL) (as := []) (i := 63) (r := (.inl (some (.int (T2 63 0))), T2)) (M' := Mx154) (d := 60) (rest := []) ⟨hx, hb, hml, hown, hts⟩ gt_thrown (mX_m z ad) (Nat.le_of_eq hz) hX0.1 hK (con_of hst (j := 154) rfl (Nat.le_of_ble_eq_true rfl) (fun w hw => by simp only [List.mem_cons, List.not_mem_nil, or_false] at hw; rcases hw with rfl <;> rfl) (f_X10_thrown_ok (d := 60) thr_ok)) hP hD hS hl.1 (ci := 9) rfl rfl (Nat.le_of_ble_eq_true rfl) (by decide +kernel : decode code 2243 = .ok (.invokevirtual 152, 3)) ⟨by decide, by decide⟩ ⟨by show 100 + 64 * n + 16 + 16 + 16 ≤ 601024; omega, by show 60000 + 384 * n + 96 + 96 + 96 ≤ 7293034; omega⟩ (fun v hv H1 locs1 hP hD hS => ?_) (fun k9 hk9 _ _ _ _ _ _ _ _ _ _ => by cases hk9)
  cases hv
  replace hP : va_P D vwCl (mW ad cy T2) H1 := hP
  refine W.eq (g2 := F0 m 2246 ls [.int (T2 63 0)]) rfl ?_
  refine lv_iload hx hb (by decide +kernel : decode code 2246 = .ok (.iload 5, 2)) (lv_at hl 1 rfl) ?_
  refine lv_icmp_eq (tgt := 2253) hx hb (by decide +kernel : decode code 2248 = .ok (.if_icmp .eq 5, 3)) (by decide) (fun _ => ?_) (fun q => absurd ht q)
  refine lv_iload hx hb (by decide +kernel : decode code 2253 = .ok (.iload 5, 2)) (lv_at hl 1 rfl) ?_
  have KE : W p lau e room_1 s m #[Value.ref b] below meth c H1 locs1 (100 + 64 * n + 16 + 16 + 16) (60000 + 384 * n + 96 + 96 + 96) Q (F0 m 2270 ls []) := by
    refine lv_goto (tgt := 3077) hx hb (by decide +kernel : decode code 2270 = .ok (.goto 807, 3)) (by decide) ?_
    exact W.widen (by omega) (by omega) (kk T2 _ _ _ hI2 hP hD hS (lv_sub hl [2, 3, 4, 5, 6] rfl))
  refine lv_if_ne (tgt := 2270) hx hb (by decide +kernel : decode code 2255 = .ok (.ifCond .ne 15, 3)) (by decide) (fun _ => KE) (fun q0 => ?_)
  refine lv_aload_n hx hb (by decide +kernel : decode code 2258 = .ok (.aload_n 3, 1)) rfl (lv_at hl 5 rfl) ?_
  refine lv_iconst (v := 0) hx hb (by decide +kernel : decode code 2259 = .ok (.iconst 0, 1)) (by decide) ?_
  refine va_lald hx hb hK hP 75 3 (mW_get (i := 75) rfl) rfl vin0 (by decide +kernel : decode code 2260 = .ok (.laload, 1)) ?_
  rw [show (T2 75 ((0 : Int32).toNatClampNeg)) = b2 from (congrFun h75 0).trans (ho q0)]
  refine lv_iload hx hb (by decide +kernel : decode code 2261 = .ok (.iload 6, 2)) (lv_at hl 0 rfl) ?_
  refine lv_i2l hx hb (by decide +kernel : decode code 2263 = .ok (.i2l, 1)) rfl ?_
  refine W.lcmp hx hb (by decide +kernel : decode code 2264 = .ok (.lcmp, 1)) ?_
  refine lv_if_eq (tgt := 2270) hx hb (by decide +kernel : decode code 2265 = .ok (.ifCond .eq 5, 3)) (by decide) (fun _ => KE) (fun q => absurd (lg_cmp_self _) q)
set_option maxRecDepth 20000 in
theorem gm_safe : gOK RL 259 Mx266 (RX10, TX10, 23) 2 [1891, 1892, 1893, 116, 1894] = true := by decide +kernel
set_option maxRecDepth 20000 in
theorem gx_safe : hOK 257 yL_safe cL_safe 5 [(0, 17, 20, 13)] 4 [1283, 1284, 105, 1285] = true := by decide +kernel
set_option maxRecDepth 20000 in
set_option maxHeartbeats 4000000 in
theorem lc_safe (C : LwC p lau s m meth c b L xs z D ad cy) (hn : n < 512) (hi : i + 6 ≤ L) (hI : Inv S) (hP : va_P D vwCl (mW ad cy S) H) (hD : va_D (mAz z) (mW ad cy S)) (hS : va_S (mAz z) s.heap H locs) (hl : lv_has ls 7 (lvs b ad i)) (kk : LK p lau e s m below meth c Q b z D ad cy n i) :
    W p lau e room_1 s m #[Value.ref b] below meth c H locs (100 + 64 * n) (60000 + 384 * n) Q (F0 m 2273 ls []) := by
  obtain ⟨⟨hx, hb, hml, hown, hts⟩, hXs, hbl, hz, hK, hX0, hst, hL⟩ := id C
  obtain ⟨r1, S1, hf, hg⟩ := ag_safe (F := 6000) (p1 := (sx xs i 1)) (p2 := (sx xs i 2)) (Nat.le_refl _) hI
  refine lv_aload_n hx hb (by decide +kernel : decode code 2273 = .ok (.aload_n 1, 1)) rfl (lv_at hl 1 rfl) ?_
  refine lw_ld C hS hl (x0 := 0) (x4 := 4) rfl rfl 1 (by decide) hi (by decide +kernel : decode code 2274 = .ok (.aload_n 0, 1)) (by decide +kernel : decode code 2275 = .ok (.iload 4, 2)) (by decide +kernel : decode code 2277 = .ok (.iconst 1, 1)) rfl (by decide +kernel : decode code 2278 = .ok (.iadd, 1)) (by decide +kernel : decode code 2279 = .ok (.iaload, 1)) ?_
  refine lw_ld C hS hl (x0 := 0) (x4 := 4) rfl rfl 2 (by decide) hi (by decide +kernel : decode code 2280 = .ok (.aload_n 0, 1)) (by decide +kernel : decode code 2281 = .ok (.iload 4, 2)) (by decide +kernel : decode code 2283 = .ok (.iconst 2, 1)) rfl (by decide +kernel : decode code 2284 = .ok (.iadd, 1)) (by decide +kernel : decode code 2285 = .ok (.iaload, 1)) ?_
  obtain ⟨k0, S2, b2, T2, hHR, hf2, hI2, ht, ho⟩ := hrb_of hg
  have h75 : T2 75 = S2 75 := ev75 (f_X10_safe_ok (d := 58) hf2)
  refine lv_aload_n hx hb (by decide +kernel : decode code 2286 = .ok (.aload_n 3, 1)) rfl (lv_at hl 3 rfl) ?_
  refine gHelp (as := [.ref 0, .int (sx xs i 1), .int (sx xs i 2), .ref 75]) (k := k0) (S2 := S2) (rest := []) ⟨hx, hb, hml, hown, hts⟩ gx_safe (Nat.le_of_eq hz) hX0 hK (hc_safe (F := 6000) hst hf hHR) hP hD hS hl.1 (Nat.le_of_ble_eq_true rfl) (by decide +kernel : decode code 2287 = .ok (.invokestatic 257, 3)) ⟨by decide, by decide⟩ ⟨by show 100 + 64 * n + 16 ≤ 601024; omega, by show 60000 + 384 * n + 96 ≤ 7293034; omega⟩ (fun H1 locs1 hP hD hS => ?_)
  refine lv_istore (lv' := (5, .int k0) :: lvs b ad i) hx hb (by decide +kernel : decode code 2290 = .ok (.istore 5, 2)) hl (by decide) rfl (fun ls hl => ?_)
  refine lv_aload_n hx hb (by decide +kernel : decode code 2292 = .ok (.aload_n 2, 1)) rfl (lv_at hl 3 rfl) ?_
  refine lw_ld C hS hl (x0 := 1) (x4 := 5) rfl rfl 1 (by decide) hi (by decide +kernel : decode code 2293 = .ok (.aload_n 0, 1)) (by decide +kernel : decode code 2294 = .ok (.iload 4, 2)) (by decide +kernel : decode code 2296 = .ok (.iconst 1, 1)) rfl (by decide +kernel : decode code 2297 = .ok (.iadd, 1)) (by decide +kernel : decode code 2298 = .ok (.iaload, 1)) ?_
  refine lw_ld C hS hl (x0 := 1) (x4 := 5) rfl rfl 2 (by decide) hi (by decide +kernel : decode code 2299 = .ok (.aload_n 0, 1)) (by decide +kernel : decode code 2300 = .ok (.iload 4, 2)) (by decide +kernel : decode code 2302 = .ok (.iconst 2, 1)) rfl (by decide +kernel : decode code 2303 = .ok (.iadd, 1)) (by decide +kernel : decode code 2304 = .ok (.iaload, 1)) ?_
  refine gCall (own := RL) (as := [.int (sx xs i 1), .int (sx xs i 2)]) (i := 63) (r := (.inl (some (.int b2)), T2)) (M' := Mx266) (d := 60) (rest := []) ⟨hx, hb, hml, hown, hts⟩ gm_safe (mX_m z ad) (Nat.le_of_eq hz) hX0.1 hK (con_of hst (j := 266) rfl (Nat.le_of_ble_eq_true rfl) (fun w hw => by simp only [List.mem_cons, List.not_mem_nil, or_false] at hw; rcases hw with rfl | rfl | rfl <;> rfl) (f_X10_safe_ok (d := 58) hf2)) hP hD hS hl.1 (ci := 9) rfl rfl (Nat.le_of_ble_eq_true rfl) (by decide +kernel : decode code 2305 = .ok (.invokevirtual 259, 3)) ⟨by decide, by decide⟩ ⟨by show 100 + 64 * n + 16 + 16 ≤ 601024; omega, by show 60000 + 384 * n + 96 + 96 ≤ 7293034; omega⟩ (fun v hv H1 locs1 hP hD hS => ?_) (fun k9 hk9 _ _ _ _ _ _ _ _ _ _ => by cases hk9)
  cases hv
  refine W.eq (g2 := F0 m 2308 ls [.int b2]) rfl ?_
  refine lv_istore (lv' := (6, .int b2) :: (5, .int k0) :: lvs b ad i) hx hb (by decide +kernel : decode code 2308 = .ok (.istore 6, 2)) hl (by decide) rfl (fun ls hl => ?_)
  refine lv_aload_n hx hb (by decide +kernel : decode code 2310 = .ok (.aload_n 2, 1)) rfl (lv_at hl 4 rfl) ?_
  refine gCall (own := RL) (as := []) (i := 63) (r := (.inl (some (.int (T2 63 0))), T2)) (M' := Mx154) (d := 60) (rest := []) ⟨hx, hb, hml, hown, hts⟩ gt_thrown (mX_m z ad) (Nat.le_of_eq hz) hX0.1 hK (con_of hst (j := 154) rfl (Nat.le_of_ble_eq_true rfl) (fun w hw => by simp only [List.mem_cons, List.not_mem_nil, or_false] at hw; rcases hw with rfl <;> rfl) (f_X10_thrown_ok (d := 60) thr_ok)) hP hD hS hl.1 (ci := 9) rfl rfl (Nat.le_of_ble_eq_true rfl) (by decide +kernel : decode code 2311 = .ok (.invokevirtual 152, 3)) ⟨by decide, by decide⟩ ⟨by show 100 + 64 * n + 16 + 16 + 16 ≤ 601024; omega, by show 60000 + 384 * n + 96 + 96 + 96 ≤ 7293034; omega⟩ (fun v hv H1 locs1 hP hD hS => ?_) (fun k9 hk9 _ _ _ _ _ _ _ _ _ _ => by cases hk9)
  cases hv
  replace hP : va_P D vwCl (mW ad cy T2) H1 := hP
  refine W.eq (g2 := F0 m 2314 ls [.int (T2 63 0)]) rfl ?_
  refine lv_iload hx hb (by decide +kernel : decode code 2314 = .ok (.iload 5, 2)) (lv_at hl 1 rfl) ?_
  refine lv_icmp_eq (tgt := 2321) hx hb (by decide +kernel : decode code 2316 = .ok (.if_icmp .eq 5, 3)) (by decide) (fun _ => ?_) (fun q => absurd ht q)
  refine lv_iload hx hb (by decide +kernel : decode code 2321 = .ok (.iload 5, 2)) (lv_at hl 1 rfl) ?_
  have KE : W p lau e room_1 s m #[Value.ref b] below meth c H1 locs1 (100 + 64 * n + 16 + 16 + 16) (60000 + 384 * n + 96 + 96 + 96) Q (F0 m 2345 ls []) := by
    refine lv_goto (tgt := 3077) hx hb (by decide +kernel : decode code 2345 = .ok (.goto 732, 3)) (by decide) ?_
    exact W.widen (by omega) (by omega) (kk T2 _ _ _ hI2 hP hD hS (lv_sub hl [2, 3, 4, 5, 6] rfl))
  refine lv_if_ne (tgt := 2345) hx hb (by decide +kernel : decode code 2323 = .ok (.ifCond .ne 22, 3)) (by decide) (fun _ => KE) (fun q0 => ?_)
  refine lv_aload_n hx hb (by decide +kernel : decode code 2326 = .ok (.aload_n 3, 1)) rfl (lv_at hl 5 rfl) ?_
  refine lv_iconst (v := 0) hx hb (by decide +kernel : decode code 2327 = .ok (.iconst 0, 1)) (by decide) ?_
  refine va_lald hx hb hK hP 75 3 (mW_get (i := 75) rfl) rfl vin0 (by decide +kernel : decode code 2328 = .ok (.laload, 1)) ?_
  rw [show (T2 75 ((0 : Int32).toNatClampNeg)) = if b2 = 0 then 0 else 1 from (congrFun h75 0).trans (ho q0)]
  refine lv_iload hx hb (by decide +kernel : decode code 2329 = .ok (.iload 6, 2)) (lv_at hl 0 rfl) ?_
  refine lv_if_eq (tgt := 2338) hx hb (by decide +kernel : decode code 2331 = .ok (.ifCond .eq 7, 3)) (by decide) (fun q1 => ?_) (fun q1 => ?_)
  · rw [if_pos q1]
    refine lv_lconst (v := 0) hx hb (by decide +kernel : decode code 2338 = .ok (.lconst 0, 1)) (by decide) ?_
    refine W.lcmp hx hb (by decide +kernel : decode code 2339 = .ok (.lcmp, 1)) ?_
    refine lv_if_eq (tgt := 2345) hx hb (by decide +kernel : decode code 2340 = .ok (.ifCond .eq 5, 3)) (by decide) (fun _ => KE) (fun q => absurd (by decide) q)
  · rw [if_neg q1]
    refine lv_lconst (v := 1) hx hb (by decide +kernel : decode code 2334 = .ok (.lconst 1, 1)) (by decide) ?_
    refine lv_goto (tgt := 2339) hx hb (by decide +kernel : decode code 2335 = .ok (.goto 4, 3)) (by decide) ?_
    refine W.lcmp hx hb (by decide +kernel : decode code 2339 = .ok (.lcmp, 1)) ?_
    refine lv_if_eq (tgt := 2345) hx hb (by decide +kernel : decode code 2340 = .ok (.ifCond .eq 5, 3)) (by decide) (fun _ => KE) (fun q => absurd (by decide) q)
set_option maxRecDepth 20000 in
theorem gm_heard : gOK RL 262 Mx267 (RX10, TX10, 23) 3 [1895, 1896, 1897, 116, 1898] = true := by decide +kernel
set_option maxRecDepth 20000 in
theorem gx_heard : hOK 260 yL_heard cL_heard 6 [(0, 12, 15, 13)] 5 [1290, 1291, 105, 1292] = true := by decide +kernel
set_option maxRecDepth 20000 in
set_option maxHeartbeats 4000000 in
theorem lc_heard (C : LwC p lau s m meth c b L xs z D ad cy) (hn : n < 512) (hi : i + 6 ≤ L) (hI : Inv S) (hP : va_P D vwCl (mW ad cy S) H) (hD : va_D (mAz z) (mW ad cy S)) (hS : va_S (mAz z) s.heap H locs) (hl : lv_has ls 7 (lvs b ad i)) (kk : LK p lau e s m below meth c Q b z D ad cy n i) :
    W p lau e room_1 s m #[Value.ref b] below meth c H locs (100 + 64 * n) (60000 + 384 * n) Q (F0 m 2348 ls []) := by
  obtain ⟨⟨hx, hb, hml, hown, hts⟩, hXs, hbl, hz, hK, hX0, hst, hL⟩ := id C
  obtain ⟨r1, S1, hf, hg⟩ := ag_heard (F := 6000) (p1 := (sx xs i 1)) (p2 := (sx xs i 2)) (p3 := (sx xs i 3)) (Nat.le_refl _) hI
  refine lv_aload_n hx hb (by decide +kernel : decode code 2348 = .ok (.aload_n 1, 1)) rfl (lv_at hl 1 rfl) ?_
  refine lw_ld C hS hl (x0 := 0) (x4 := 4) rfl rfl 1 (by decide) hi (by decide +kernel : decode code 2349 = .ok (.aload_n 0, 1)) (by decide +kernel : decode code 2350 = .ok (.iload 4, 2)) (by decide +kernel : decode code 2352 = .ok (.iconst 1, 1)) rfl (by decide +kernel : decode code 2353 = .ok (.iadd, 1)) (by decide +kernel : decode code 2354 = .ok (.iaload, 1)) ?_
  refine lw_ld C hS hl (x0 := 0) (x4 := 4) rfl rfl 2 (by decide) hi (by decide +kernel : decode code 2355 = .ok (.aload_n 0, 1)) (by decide +kernel : decode code 2356 = .ok (.iload 4, 2)) (by decide +kernel : decode code 2358 = .ok (.iconst 2, 1)) rfl (by decide +kernel : decode code 2359 = .ok (.iadd, 1)) (by decide +kernel : decode code 2360 = .ok (.iaload, 1)) ?_
  refine lw_ld C hS hl (x0 := 0) (x4 := 4) rfl rfl 3 (by decide) hi (by decide +kernel : decode code 2361 = .ok (.aload_n 0, 1)) (by decide +kernel : decode code 2362 = .ok (.iload 4, 2)) (by decide +kernel : decode code 2364 = .ok (.iconst 3, 1)) rfl (by decide +kernel : decode code 2365 = .ok (.iadd, 1)) (by decide +kernel : decode code 2366 = .ok (.iaload, 1)) ?_
  obtain ⟨k0, S2, b2, T2, hHR, hf2, hI2, ht, ho⟩ := hr_of hg
  have h75 : T2 75 = S2 75 := ev75 (f_X10_heard_ok (d := 58) hf2)
  refine lv_aload_n hx hb (by decide +kernel : decode code 2367 = .ok (.aload_n 3, 1)) rfl (lv_at hl 3 rfl) ?_
  refine gHelp (as := [.ref 0, .int (sx xs i 1), .int (sx xs i 2), .int (sx xs i 3), .ref 75]) (k := k0) (S2 := S2) (rest := []) ⟨hx, hb, hml, hown, hts⟩ gx_heard (Nat.le_of_eq hz) hX0 hK (hc_heard (F := 6000) hst hf hHR) hP hD hS hl.1 (Nat.le_of_ble_eq_true rfl) (by decide +kernel : decode code 2368 = .ok (.invokestatic 260, 3)) ⟨by decide, by decide⟩ ⟨by show 100 + 64 * n + 16 ≤ 601024; omega, by show 60000 + 384 * n + 96 ≤ 7293034; omega⟩ (fun H1 locs1 hP hD hS => ?_)
  refine lv_istore (lv' := (5, .int k0) :: lvs b ad i) hx hb (by decide +kernel : decode code 2371 = .ok (.istore 5, 2)) hl (by decide) rfl (fun ls hl => ?_)
  refine lv_aload_n hx hb (by decide +kernel : decode code 2373 = .ok (.aload_n 2, 1)) rfl (lv_at hl 3 rfl) ?_
  refine lw_ld C hS hl (x0 := 1) (x4 := 5) rfl rfl 1 (by decide) hi (by decide +kernel : decode code 2374 = .ok (.aload_n 0, 1)) (by decide +kernel : decode code 2375 = .ok (.iload 4, 2)) (by decide +kernel : decode code 2377 = .ok (.iconst 1, 1)) rfl (by decide +kernel : decode code 2378 = .ok (.iadd, 1)) (by decide +kernel : decode code 2379 = .ok (.iaload, 1)) ?_
  refine lw_ld C hS hl (x0 := 1) (x4 := 5) rfl rfl 2 (by decide) hi (by decide +kernel : decode code 2380 = .ok (.aload_n 0, 1)) (by decide +kernel : decode code 2381 = .ok (.iload 4, 2)) (by decide +kernel : decode code 2383 = .ok (.iconst 2, 1)) rfl (by decide +kernel : decode code 2384 = .ok (.iadd, 1)) (by decide +kernel : decode code 2385 = .ok (.iaload, 1)) ?_
  refine lw_ld C hS hl (x0 := 1) (x4 := 5) rfl rfl 3 (by decide) hi (by decide +kernel : decode code 2386 = .ok (.aload_n 0, 1)) (by decide +kernel : decode code 2387 = .ok (.iload 4, 2)) (by decide +kernel : decode code 2389 = .ok (.iconst 3, 1)) rfl (by decide +kernel : decode code 2390 = .ok (.iadd, 1)) (by decide +kernel : decode code 2391 = .ok (.iaload, 1)) ?_
  refine gCall (own := RL) (as := [.int (sx xs i 1), .int (sx xs i 2), .int (sx xs i 3)]) (i := 63) (r := (.inl (some (.int b2)), T2)) (M' := Mx267) (d := 60) (rest := []) ⟨hx, hb, hml, hown, hts⟩ gm_heard (mX_m z ad) (Nat.le_of_eq hz) hX0.1 hK (con_of hst (j := 267) rfl (Nat.le_of_ble_eq_true rfl) (fun w hw => by simp only [List.mem_cons, List.not_mem_nil, or_false] at hw; rcases hw with rfl | rfl | rfl | rfl <;> rfl) (f_X10_heard_ok (d := 58) hf2)) hP hD hS hl.1 (ci := 9) rfl rfl (Nat.le_of_ble_eq_true rfl) (by decide +kernel : decode code 2392 = .ok (.invokevirtual 262, 3)) ⟨by decide, by decide⟩ ⟨by show 100 + 64 * n + 16 + 16 ≤ 601024; omega, by show 60000 + 384 * n + 96 + 96 ≤ 7293034; omega⟩ (fun v hv H1 locs1 hP hD hS => ?_) (fun k9 hk9 _ _ _ _ _ _ _ _ _ _ => by cases hk9)
  cases hv
  refine W.eq (g2 := F0 m 2395 ls [.int b2]) rfl ?_
  refine lv_istore (lv' := (6, .int b2) :: (5, .int k0) :: lvs b ad i) hx hb (by decide +kernel : decode code 2395 = .ok (.istore 6, 2)) hl (by decide) rfl (fun ls hl => ?_)
  refine lv_aload_n hx hb (by decide +kernel : decode code 2397 = .ok (.aload_n 2, 1)) rfl (lv_at hl 4 rfl) ?_
  refine gCall (own := RL) (as := []) (i := 63) (r := (.inl (some (.int (T2 63 0))), T2)) (M' := Mx154) (d := 60) (rest := []) ⟨hx, hb, hml, hown, hts⟩ gt_thrown (mX_m z ad) (Nat.le_of_eq hz) hX0.1 hK (con_of hst (j := 154) rfl (Nat.le_of_ble_eq_true rfl) (fun w hw => by simp only [List.mem_cons, List.not_mem_nil, or_false] at hw; rcases hw with rfl <;> rfl) (f_X10_thrown_ok (d := 60) thr_ok)) hP hD hS hl.1 (ci := 9) rfl rfl (Nat.le_of_ble_eq_true rfl) (by decide +kernel : decode code 2398 = .ok (.invokevirtual 152, 3)) ⟨by decide, by decide⟩ ⟨by show 100 + 64 * n + 16 + 16 + 16 ≤ 601024; omega, by show 60000 + 384 * n + 96 + 96 + 96 ≤ 7293034; omega⟩ (fun v hv H1 locs1 hP hD hS => ?_) (fun k9 hk9 _ _ _ _ _ _ _ _ _ _ => by cases hk9)
  cases hv
  replace hP : va_P D vwCl (mW ad cy T2) H1 := hP
  refine W.eq (g2 := F0 m 2401 ls [.int (T2 63 0)]) rfl ?_
  refine lv_iload hx hb (by decide +kernel : decode code 2401 = .ok (.iload 5, 2)) (lv_at hl 1 rfl) ?_
  refine lv_icmp_eq (tgt := 2408) hx hb (by decide +kernel : decode code 2403 = .ok (.if_icmp .eq 5, 3)) (by decide) (fun _ => ?_) (fun q => absurd ht q)
  refine lv_iload hx hb (by decide +kernel : decode code 2408 = .ok (.iload 5, 2)) (lv_at hl 1 rfl) ?_
  have KE : W p lau e room_1 s m #[Value.ref b] below meth c H1 locs1 (100 + 64 * n + 16 + 16 + 16) (60000 + 384 * n + 96 + 96 + 96) Q (F0 m 2425 ls []) := by
    refine lv_goto (tgt := 3077) hx hb (by decide +kernel : decode code 2425 = .ok (.goto 652, 3)) (by decide) ?_
    exact W.widen (by omega) (by omega) (kk T2 _ _ _ hI2 hP hD hS (lv_sub hl [2, 3, 4, 5, 6] rfl))
  refine lv_if_ne (tgt := 2425) hx hb (by decide +kernel : decode code 2410 = .ok (.ifCond .ne 15, 3)) (by decide) (fun _ => KE) (fun q0 => ?_)
  refine lv_aload_n hx hb (by decide +kernel : decode code 2413 = .ok (.aload_n 3, 1)) rfl (lv_at hl 5 rfl) ?_
  refine lv_iconst (v := 0) hx hb (by decide +kernel : decode code 2414 = .ok (.iconst 0, 1)) (by decide) ?_
  refine va_lald hx hb hK hP 75 3 (mW_get (i := 75) rfl) rfl vin0 (by decide +kernel : decode code 2415 = .ok (.laload, 1)) ?_
  rw [show (T2 75 ((0 : Int32).toNatClampNeg)) = b2 from (congrFun h75 0).trans (ho q0)]
  refine lv_iload hx hb (by decide +kernel : decode code 2416 = .ok (.iload 6, 2)) (lv_at hl 0 rfl) ?_
  refine lv_i2l hx hb (by decide +kernel : decode code 2418 = .ok (.i2l, 1)) rfl ?_
  refine W.lcmp hx hb (by decide +kernel : decode code 2419 = .ok (.lcmp, 1)) ?_
  refine lv_if_eq (tgt := 2425) hx hb (by decide +kernel : decode code 2420 = .ok (.ifCond .eq 5, 3)) (by decide) (fun _ => KE) (fun q => absurd (lg_cmp_self _) q)
set_option maxRecDepth 20000 in
theorem gm_round : gOK RL 266 Mx268 (RX10, TX10, 23) 1 [1899, 1900, 1901, 116, 1902] = true := by decide +kernel
set_option maxRecDepth 20000 in
theorem gx_round : gOK RL 263 Mx126 (RX9, TX9, 14) 1 [485, 486, 487, 106, 488] = true := by decide +kernel
set_option maxRecDepth 20000 in
set_option maxHeartbeats 4000000 in
theorem lc_round (C : LwC p lau s m meth c b L xs z D ad cy) (hn : n < 512) (hi : i + 6 ≤ L) (hI : Inv S) (hP : va_P D vwCl (mW ad cy S) H) (hD : va_D (mAz z) (mW ad cy S)) (hS : va_S (mAz z) s.heap H locs) (hl : lv_has ls 7 (lvs b ad i)) (kk : LK p lau e s m below meth c Q b z D ad cy n i) :
    W p lau e room_1 s m #[Value.ref b] below meth c H locs (100 + 64 * n) (60000 + 384 * n) Q (F0 m 2428 ls []) := by
  obtain ⟨⟨hx, hb, hml, hown, hts⟩, hXs, hbl, hz, hK, hX0, hst, hL⟩ := id C
  obtain ⟨r1, S1, hf, hg⟩ := ag_round (F := 6000) (p1 := (sx xs i 1)) (Nat.le_refl _) hI
  refine lv_aload_n hx hb (by decide +kernel : decode code 2428 = .ok (.aload_n 1, 1)) rfl (lv_at hl 1 rfl) ?_
  refine lw_ld C hS hl (x0 := 0) (x4 := 4) rfl rfl 1 (by decide) hi (by decide +kernel : decode code 2429 = .ok (.aload_n 0, 1)) (by decide +kernel : decode code 2430 = .ok (.iload 4, 2)) (by decide +kernel : decode code 2432 = .ok (.iconst 1, 1)) rfl (by decide +kernel : decode code 2433 = .ok (.iadd, 1)) (by decide +kernel : decode code 2434 = .ok (.iaload, 1)) ?_
  obtain ⟨b2, T2, hf2, hI2, hres⟩ := hg S1 (fun _ _ => rfl)
  refine gCall (own := RL) (as := [.int (sx xs i 1)]) (i := 0) (r := (r1, S1)) (M' := Mx126) (d := 60) (rest := []) ⟨hx, hb, hml, hown, hts⟩ gx_round (mX_m z ad) (Nat.le_of_eq hz) hX0.1 hK (con_of hst (j := 126) rfl (Nat.le_of_ble_eq_true rfl) (fun w hw => by simp only [List.mem_cons, List.not_mem_nil, or_false] at hw; rcases hw with rfl | rfl <;> rfl) (f_X9_round_ok (d := 58) hf)) hP hD hS hl.1 (ci := 8) rfl rfl (Nat.le_of_ble_eq_true rfl) (by decide +kernel : decode code 2435 = .ok (.invokevirtual 263, 3)) ⟨by decide, by decide⟩ ⟨by show 100 + 64 * n + 16 ≤ 601024; omega, by show 60000 + 384 * n + 96 ≤ 7293034; omega⟩ (fun v hv H1 locs1 hP hD hS => ?_) (fun k9 hk9 _ _ _ _ _ _ _ _ _ _ => (Res_no hres hk9).elim)
  obtain rfl := Res_in hres hv
  refine W.eq (g2 := F0 m 2438 ls [.int b2]) rfl ?_
  refine lv_aload_n hx hb (by decide +kernel : decode code 2438 = .ok (.aload_n 2, 1)) rfl (lv_at hl 2 rfl) ?_
  refine lw_ld C hS hl (x0 := 0) (x4 := 4) rfl rfl 1 (by decide) hi (by decide +kernel : decode code 2439 = .ok (.aload_n 0, 1)) (by decide +kernel : decode code 2440 = .ok (.iload 4, 2)) (by decide +kernel : decode code 2442 = .ok (.iconst 1, 1)) rfl (by decide +kernel : decode code 2443 = .ok (.iadd, 1)) (by decide +kernel : decode code 2444 = .ok (.iaload, 1)) ?_
  refine gCall (own := RL) (as := [.int (sx xs i 1)]) (i := 63) (r := (.inl (some (.int b2)), T2)) (M' := Mx268) (d := 60) (rest := [.int b2]) ⟨hx, hb, hml, hown, hts⟩ gm_round (mX_m z ad) (Nat.le_of_eq hz) hX0.1 hK (con_of hst (j := 268) rfl (Nat.le_of_ble_eq_true rfl) (fun w hw => by simp only [List.mem_cons, List.not_mem_nil, or_false] at hw; rcases hw with rfl | rfl <;> rfl) (f_X10_round_ok (d := 58) hf2)) hP hD hS hl.1 (ci := 9) rfl rfl (Nat.le_of_ble_eq_true rfl) (by decide +kernel : decode code 2445 = .ok (.invokevirtual 266, 3)) ⟨by decide, by decide⟩ ⟨by show 100 + 64 * n + 16 + 16 ≤ 601024; omega, by show 60000 + 384 * n + 96 + 96 ≤ 7293034; omega⟩ (fun v hv H1 locs1 hP hD hS => ?_) (fun k9 hk9 _ _ _ _ _ _ _ _ _ _ => by cases hk9)
  cases hv
  refine W.eq (g2 := F0 m 2448 ls [.int b2, .int b2]) rfl ?_
  refine lv_icmp_eq (tgt := 3077) hx hb (by decide +kernel : decode code 2448 = .ok (.if_icmp .eq 629, 3)) (by decide) (fun _ => ?_) (fun q => absurd rfl q)
  exact W.widen (by omega) (by omega) (kk T2 _ _ _ hI2 hP hD hS (lv_sub hl [0, 1, 2, 3, 4] rfl))
set_option maxRecDepth 20000 in
theorem gm_split : gOK RL 271 Mx269 (RX10, TX10, 23) 1 [1903, 1904, 1905, 116, 1906] = true := by decide +kernel
set_option maxRecDepth 20000 in
theorem gx_split : gOK RL 267 Mx127 (RX9, TX9, 14) 1 [492, 493, 494, 106, 495] = true := by decide +kernel
set_option maxRecDepth 20000 in
set_option maxHeartbeats 4000000 in
theorem lc_split (C : LwC p lau s m meth c b L xs z D ad cy) (hn : n < 512) (hi : i + 6 ≤ L) (hI : Inv S) (hP : va_P D vwCl (mW ad cy S) H) (hD : va_D (mAz z) (mW ad cy S)) (hS : va_S (mAz z) s.heap H locs) (hl : lv_has ls 7 (lvs b ad i)) (kk : LK p lau e s m below meth c Q b z D ad cy n i) :
    W p lau e room_1 s m #[Value.ref b] below meth c H locs (100 + 64 * n) (60000 + 384 * n) Q (F0 m 2453 ls []) := by
  obtain ⟨⟨hx, hb, hml, hown, hts⟩, hXs, hbl, hz, hK, hX0, hst, hL⟩ := id C
  obtain ⟨r1, S1, hf, hg⟩ := ag_split (F := 6000) (p1 := (bx xs i 1)) (Nat.le_refl _) hI
  refine lv_aload_n hx hb (by decide +kernel : decode code 2453 = .ok (.aload_n 1, 1)) rfl (lv_at hl 1 rfl) ?_
  refine lw_ldb C hS hl (x0 := 0) (x4 := 4) rfl rfl 1 (by decide) hi (by decide +kernel : decode code 2454 = .ok (.aload_n 0, 1)) (by decide +kernel : decode code 2455 = .ok (.iload 4, 2)) (by decide +kernel : decode code 2457 = .ok (.iconst 1, 1)) rfl (by decide +kernel : decode code 2458 = .ok (.iadd, 1)) (by decide +kernel : decode code 2459 = .ok (.iaload, 1)) (by decide +kernel : decode code 2460 = .ok (.ifCond .eq 7, 3)) (by decide +kernel : decode code 2463 = .ok (.iconst 1, 1)) (by decide +kernel : decode code 2464 = .ok (.goto 4, 3)) (by decide +kernel : decode code 2467 = .ok (.iconst 0, 1)) ?_
  obtain ⟨b2, T2, hf2, hI2, hres⟩ := hg S1 (fun _ _ => rfl)
  refine gCall (own := RL) (as := [.int (bx xs i 1)]) (i := 0) (r := (r1, S1)) (M' := Mx127) (d := 60) (rest := []) ⟨hx, hb, hml, hown, hts⟩ gx_split (mX_m z ad) (Nat.le_of_eq hz) hX0.1 hK (con_of hst (j := 127) rfl (Nat.le_of_ble_eq_true rfl) (fun w hw => by simp only [List.mem_cons, List.not_mem_nil, or_false] at hw; rcases hw with rfl | rfl <;> rfl) (f_X9_split_ok (d := 57) hf)) hP hD hS hl.1 (ci := 8) rfl rfl (Nat.le_of_ble_eq_true rfl) (by decide +kernel : decode code 2468 = .ok (.invokevirtual 267, 3)) ⟨by decide, by decide⟩ ⟨by show 100 + 64 * n + 16 ≤ 601024; omega, by show 60000 + 384 * n + 96 ≤ 7293034; omega⟩ (fun v hv H1 locs1 hP hD hS => ?_) (fun k9 hk9 _ _ _ _ _ _ _ _ _ _ => (Res_no hres hk9).elim)
  obtain rfl := Res_in hres hv
  refine W.eq (g2 := F0 m 2471 ls [.int b2]) rfl ?_
  refine lv_aload_n hx hb (by decide +kernel : decode code 2471 = .ok (.aload_n 2, 1)) rfl (lv_at hl 2 rfl) ?_
  refine lw_ldb C hS hl (x0 := 0) (x4 := 4) rfl rfl 1 (by decide) hi (by decide +kernel : decode code 2472 = .ok (.aload_n 0, 1)) (by decide +kernel : decode code 2473 = .ok (.iload 4, 2)) (by decide +kernel : decode code 2475 = .ok (.iconst 1, 1)) rfl (by decide +kernel : decode code 2476 = .ok (.iadd, 1)) (by decide +kernel : decode code 2477 = .ok (.iaload, 1)) (by decide +kernel : decode code 2478 = .ok (.ifCond .eq 7, 3)) (by decide +kernel : decode code 2481 = .ok (.iconst 1, 1)) (by decide +kernel : decode code 2482 = .ok (.goto 4, 3)) (by decide +kernel : decode code 2485 = .ok (.iconst 0, 1)) ?_
  refine gCall (own := RL) (as := [.int (bx xs i 1)]) (i := 63) (r := (.inl (some (.int b2)), T2)) (M' := Mx269) (d := 60) (rest := [.int b2]) ⟨hx, hb, hml, hown, hts⟩ gm_split (mX_m z ad) (Nat.le_of_eq hz) hX0.1 hK (con_of hst (j := 269) rfl (Nat.le_of_ble_eq_true rfl) (fun w hw => by simp only [List.mem_cons, List.not_mem_nil, or_false] at hw; rcases hw with rfl | rfl <;> rfl) (f_X10_split_ok (d := 57) hf2)) hP hD hS hl.1 (ci := 9) rfl rfl (Nat.le_of_ble_eq_true rfl) (by decide +kernel : decode code 2486 = .ok (.invokevirtual 271, 3)) ⟨by decide, by decide⟩ ⟨by show 100 + 64 * n + 16 + 16 ≤ 601024; omega, by show 60000 + 384 * n + 96 + 96 ≤ 7293034; omega⟩ (fun v hv H1 locs1 hP hD hS => ?_) (fun k9 hk9 _ _ _ _ _ _ _ _ _ _ => by cases hk9)
  cases hv
  refine W.eq (g2 := F0 m 2489 ls [.int b2, .int b2]) rfl ?_
  refine lv_icmp_eq (tgt := 3077) hx hb (by decide +kernel : decode code 2489 = .ok (.if_icmp .eq 588, 3)) (by decide) (fun _ => ?_) (fun q => absurd rfl q)
  exact W.widen (by omega) (by omega) (kk T2 _ _ _ hI2 hP hD hS (lv_sub hl [0, 1, 2, 3, 4] rfl))
set_option maxRecDepth 20000 in
theorem gm_share : gOK RL 274 Mx270 (RX10, TX10, 23) 2 [1907, 1908, 1909, 116, 1910] = true := by decide +kernel
set_option maxRecDepth 20000 in
theorem gx_share : hOK 272 yL_share cL_share 5 [(0, 10, 13, 13)] 4 [1297, 1298, 105, 1299] = true := by decide +kernel
set_option maxRecDepth 20000 in
set_option maxHeartbeats 4000000 in
theorem lc_share (C : LwC p lau s m meth c b L xs z D ad cy) (hn : n < 512) (hi : i + 6 ≤ L) (hI : Inv S) (hP : va_P D vwCl (mW ad cy S) H) (hD : va_D (mAz z) (mW ad cy S)) (hS : va_S (mAz z) s.heap H locs) (hl : lv_has ls 7 (lvs b ad i)) (kk : LK p lau e s m below meth c Q b z D ad cy n i) :
    W p lau e room_1 s m #[Value.ref b] below meth c H locs (100 + 64 * n) (60000 + 384 * n) Q (F0 m 2494 ls []) := by
  obtain ⟨⟨hx, hb, hml, hown, hts⟩, hXs, hbl, hz, hK, hX0, hst, hL⟩ := id C
  obtain ⟨r1, S1, hf, hg⟩ := ag_share (p1 := (sx xs i 1)) (p2 := (bx xs i 2)) hI
  refine lv_aload_n hx hb (by decide +kernel : decode code 2494 = .ok (.aload_n 1, 1)) rfl (lv_at hl 1 rfl) ?_
  refine lw_ld C hS hl (x0 := 0) (x4 := 4) rfl rfl 1 (by decide) hi (by decide +kernel : decode code 2495 = .ok (.aload_n 0, 1)) (by decide +kernel : decode code 2496 = .ok (.iload 4, 2)) (by decide +kernel : decode code 2498 = .ok (.iconst 1, 1)) rfl (by decide +kernel : decode code 2499 = .ok (.iadd, 1)) (by decide +kernel : decode code 2500 = .ok (.iaload, 1)) ?_
  refine lw_ldb C hS hl (x0 := 0) (x4 := 4) rfl rfl 2 (by decide) hi (by decide +kernel : decode code 2501 = .ok (.aload_n 0, 1)) (by decide +kernel : decode code 2502 = .ok (.iload 4, 2)) (by decide +kernel : decode code 2504 = .ok (.iconst 2, 1)) rfl (by decide +kernel : decode code 2505 = .ok (.iadd, 1)) (by decide +kernel : decode code 2506 = .ok (.iaload, 1)) (by decide +kernel : decode code 2507 = .ok (.ifCond .eq 7, 3)) (by decide +kernel : decode code 2510 = .ok (.iconst 1, 1)) (by decide +kernel : decode code 2511 = .ok (.goto 4, 3)) (by decide +kernel : decode code 2514 = .ok (.iconst 0, 1)) ?_
  obtain ⟨k0, S2, b2, T2, hHR, hf2, hI2, ht, ho⟩ := hr_of hg
  have h75 : T2 75 = S2 75 := ev75 (f_X10_share_ok (d := 59) hf2)
  refine lv_aload_n hx hb (by decide +kernel : decode code 2515 = .ok (.aload_n 3, 1)) rfl (lv_at hl 3 rfl) ?_
  refine gHelp (as := [.ref 0, .int (sx xs i 1), .int (bx xs i 2), .ref 75]) (k := k0) (S2 := S2) (rest := []) ⟨hx, hb, hml, hown, hts⟩ gx_share (Nat.le_of_eq hz) hX0 hK (hc_share (F := 6000) hst hf hHR) hP hD hS hl.1 (Nat.le_of_ble_eq_true rfl) (by decide +kernel : decode code 2516 = .ok (.invokestatic 272, 3)) ⟨by decide, by decide⟩ ⟨by show 100 + 64 * n + 16 ≤ 601024; omega, by show 60000 + 384 * n + 96 ≤ 7293034; omega⟩ (fun H1 locs1 hP hD hS => ?_)
  refine lv_istore (lv' := (5, .int k0) :: lvs b ad i) hx hb (by decide +kernel : decode code 2519 = .ok (.istore 5, 2)) hl (by decide) rfl (fun ls hl => ?_)
  refine lv_aload_n hx hb (by decide +kernel : decode code 2521 = .ok (.aload_n 2, 1)) rfl (lv_at hl 3 rfl) ?_
  refine lw_ld C hS hl (x0 := 1) (x4 := 5) rfl rfl 1 (by decide) hi (by decide +kernel : decode code 2522 = .ok (.aload_n 0, 1)) (by decide +kernel : decode code 2523 = .ok (.iload 4, 2)) (by decide +kernel : decode code 2525 = .ok (.iconst 1, 1)) rfl (by decide +kernel : decode code 2526 = .ok (.iadd, 1)) (by decide +kernel : decode code 2527 = .ok (.iaload, 1)) ?_
  refine lw_ldb C hS hl (x0 := 1) (x4 := 5) rfl rfl 2 (by decide) hi (by decide +kernel : decode code 2528 = .ok (.aload_n 0, 1)) (by decide +kernel : decode code 2529 = .ok (.iload 4, 2)) (by decide +kernel : decode code 2531 = .ok (.iconst 2, 1)) rfl (by decide +kernel : decode code 2532 = .ok (.iadd, 1)) (by decide +kernel : decode code 2533 = .ok (.iaload, 1)) (by decide +kernel : decode code 2534 = .ok (.ifCond .eq 7, 3)) (by decide +kernel : decode code 2537 = .ok (.iconst 1, 1)) (by decide +kernel : decode code 2538 = .ok (.goto 4, 3)) (by decide +kernel : decode code 2541 = .ok (.iconst 0, 1)) ?_
  refine gCall (own := RL) (as := [.int (sx xs i 1), .int (bx xs i 2)]) (i := 63) (r := (.inl (some (.int b2)), T2)) (M' := Mx270) (d := 60) (rest := []) ⟨hx, hb, hml, hown, hts⟩ gm_share (mX_m z ad) (Nat.le_of_eq hz) hX0.1 hK (con_of hst (j := 270) rfl (Nat.le_of_ble_eq_true rfl) (fun w hw => by simp only [List.mem_cons, List.not_mem_nil, or_false] at hw; rcases hw with rfl | rfl | rfl <;> rfl) (f_X10_share_ok (d := 59) hf2)) hP hD hS hl.1 (ci := 9) rfl rfl (Nat.le_of_ble_eq_true rfl) (by decide +kernel : decode code 2542 = .ok (.invokevirtual 274, 3)) ⟨by decide, by decide⟩ ⟨by show 100 + 64 * n + 16 + 16 ≤ 601024; omega, by show 60000 + 384 * n + 96 + 96 ≤ 7293034; omega⟩ (fun v hv H1 locs1 hP hD hS => ?_) (fun k9 hk9 _ _ _ _ _ _ _ _ _ _ => by cases hk9)
  cases hv
  refine W.eq (g2 := F0 m 2545 ls [.int b2]) rfl ?_
  refine lv_istore (lv' := (6, .int b2) :: (5, .int k0) :: lvs b ad i) hx hb (by decide +kernel : decode code 2545 = .ok (.istore 6, 2)) hl (by decide) rfl (fun ls hl => ?_)
  refine lv_aload_n hx hb (by decide +kernel : decode code 2547 = .ok (.aload_n 2, 1)) rfl (lv_at hl 4 rfl) ?_
  refine gCall (own := RL) (as := []) (i := 63) (r := (.inl (some (.int (T2 63 0))), T2)) (M' := Mx154) (d := 60) (rest := []) ⟨hx, hb, hml, hown, hts⟩ gt_thrown (mX_m z ad) (Nat.le_of_eq hz) hX0.1 hK (con_of hst (j := 154) rfl (Nat.le_of_ble_eq_true rfl) (fun w hw => by simp only [List.mem_cons, List.not_mem_nil, or_false] at hw; rcases hw with rfl <;> rfl) (f_X10_thrown_ok (d := 60) thr_ok)) hP hD hS hl.1 (ci := 9) rfl rfl (Nat.le_of_ble_eq_true rfl) (by decide +kernel : decode code 2548 = .ok (.invokevirtual 152, 3)) ⟨by decide, by decide⟩ ⟨by show 100 + 64 * n + 16 + 16 + 16 ≤ 601024; omega, by show 60000 + 384 * n + 96 + 96 + 96 ≤ 7293034; omega⟩ (fun v hv H1 locs1 hP hD hS => ?_) (fun k9 hk9 _ _ _ _ _ _ _ _ _ _ => by cases hk9)
  cases hv
  replace hP : va_P D vwCl (mW ad cy T2) H1 := hP
  refine W.eq (g2 := F0 m 2551 ls [.int (T2 63 0)]) rfl ?_
  refine lv_iload hx hb (by decide +kernel : decode code 2551 = .ok (.iload 5, 2)) (lv_at hl 1 rfl) ?_
  refine lv_icmp_eq (tgt := 2558) hx hb (by decide +kernel : decode code 2553 = .ok (.if_icmp .eq 5, 3)) (by decide) (fun _ => ?_) (fun q => absurd ht q)
  refine lv_iload hx hb (by decide +kernel : decode code 2558 = .ok (.iload 5, 2)) (lv_at hl 1 rfl) ?_
  have KE : W p lau e room_1 s m #[Value.ref b] below meth c H1 locs1 (100 + 64 * n + 16 + 16 + 16) (60000 + 384 * n + 96 + 96 + 96) Q (F0 m 2575 ls []) := by
    refine lv_goto (tgt := 3077) hx hb (by decide +kernel : decode code 2575 = .ok (.goto 502, 3)) (by decide) ?_
    exact W.widen (by omega) (by omega) (kk T2 _ _ _ hI2 hP hD hS (lv_sub hl [2, 3, 4, 5, 6] rfl))
  refine lv_if_ne (tgt := 2575) hx hb (by decide +kernel : decode code 2560 = .ok (.ifCond .ne 15, 3)) (by decide) (fun _ => KE) (fun q0 => ?_)
  refine lv_aload_n hx hb (by decide +kernel : decode code 2563 = .ok (.aload_n 3, 1)) rfl (lv_at hl 5 rfl) ?_
  refine lv_iconst (v := 0) hx hb (by decide +kernel : decode code 2564 = .ok (.iconst 0, 1)) (by decide) ?_
  refine va_lald hx hb hK hP 75 3 (mW_get (i := 75) rfl) rfl vin0 (by decide +kernel : decode code 2565 = .ok (.laload, 1)) ?_
  rw [show (T2 75 ((0 : Int32).toNatClampNeg)) = b2 from (congrFun h75 0).trans (ho q0)]
  refine lv_iload hx hb (by decide +kernel : decode code 2566 = .ok (.iload 6, 2)) (lv_at hl 0 rfl) ?_
  refine lv_i2l hx hb (by decide +kernel : decode code 2568 = .ok (.i2l, 1)) rfl ?_
  refine W.lcmp hx hb (by decide +kernel : decode code 2569 = .ok (.lcmp, 1)) ?_
  refine lv_if_eq (tgt := 2575) hx hb (by decide +kernel : decode code 2570 = .ok (.ifCond .eq 5, 3)) (by decide) (fun _ => KE) (fun q => absurd (lg_cmp_self _) q)
end LC1
