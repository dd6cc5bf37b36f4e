/-! the class made: its places and shape -/
section ZNB
variable {G : zG} {d : Nat} {σ σ0 σ1 : zMem} {B : Nat → Nat} {f : Int → Int}
def bL : List (Nat × Nat) := [(0, 0), (10, 1), (11, 2), (20, 200), (30, 201), (40, 227), (100, 4), (101, 5), (102, 6), (104, 7), (105, 8), (106, 9), (108, 10), (109, 11), (110, 12), (111, 13), (112, 14), (200, 15), (203, 16), (204, 17), (205, 18), (206, 19), (207, 20), (208, 21), (209, 22), (210, 23), (211, 24), (212, 25), (213, 26), (214, 27), (215, 28), (300, 29), (302, 30), (303, 31), (400, 32), (405, 33), (406, 34), (407, 35), (408, 36), (409, 37), (410, 38), (411, 39), (412, 40), (413, 41), (500, 42), (503, 43), (600, 44), (601, 45), (1000, 60), (1003, 61), (1004, 62), (1005, 63), (1006, 64), (1007, 65), (1008, 66), (1009, 67), (1010, 68), (1011, 69), (1012, 70), (1013, 71), (1014, 72), (1015, 73), (1100, 74), (1103, 75), (1104, 76), (1105, 77), (1106, 78), (1107, 79), (1108, 80), (1109, 81), (1110, 82), (1111, 83), (1112, 84), (1113, 85), (1114, 86), (1115, 87), (1200, 88), (1203, 89), (1204, 90), (1205, 91), (1206, 92), (1207, 93), (1208, 94), (1209, 95), (1210, 96), (1211, 97), (1212, 98), (1213, 99), (1214, 100), (1215, 101), (1300, 102), (1303, 103), (1304, 104), (1305, 105), (1306, 106), (1307, 107), (1308, 108), (1309, 109), (1310, 110), (1311, 111), (1312, 112), (1313, 113), (1314, 114), (1315, 115), (1400, 116), (1403, 117), (1404, 118), (1405, 119), (1406, 120), (1407, 121), (1408, 122), (1409, 123), (1410, 124), (1411, 125), (1412, 126), (1413, 127), (1414, 128), (1415, 129), (1500, 130), (1503, 131), (1504, 132), (1505, 133), (1506, 134), (1507, 135), (1508, 136), (1509, 137), (1510, 138), (1511, 139), (1512, 140), (1513, 141), (1514, 142), (1515, 143), (1600, 144), (1603, 145), (1604, 146), (1605, 147), (1606, 148), (1607, 149), (1608, 150), (1609, 151), (1610, 152), (1611, 153), (1612, 154), (1613, 155), (1614, 156), (1615, 157), (1700, 158), (1703, 159), (1704, 160), (1705, 161), (1706, 162), (1707, 163), (1708, 164), (1709, 165), (1710, 166), (1711, 167), (1712, 168), (1713, 169), (1714, 170), (1715, 171), (1800, 172), (1803, 173), (1804, 174), (1805, 175), (1806, 176), (1807, 177), (1808, 178), (1809, 179), (1810, 180), (1811, 181), (1812, 182), (1813, 183), (1814, 184), (1815, 185), (1900, 186), (1903, 187), (1904, 188), (1905, 189), (1906, 190), (1907, 191), (1908, 192), (1909, 193), (1910, 194), (1911, 195), (1912, 196), (1913, 197), (1914, 198), (1915, 199), (2000, 46), (2003, 47), (2004, 48), (2005, 49), (2006, 50), (2007, 51), (2008, 52), (2009, 53), (2010, 54), (2011, 55), (2012, 56), (2013, 57), (2014, 58), (2015, 59), (2100, 202), (2101, 203), (2102, 204), (2104, 205), (2105, 206), (2106, 207), (2108, 208), (2109, 209), (2110, 210), (2111, 211), (2112, 212), (2200, 213), (2203, 214), (2204, 215), (2205, 216), (2206, 217), (2207, 218), (2208, 219), (2209, 220), (2210, 221), (2211, 222), (2212, 223), (2213, 224), (2214, 225), (2215, 226)]
def B0 (k : Nat) : Nat := (bL.lookup k).getD (2000000 + 2 * k)
theorem lk_mem {k h : Nat} : ∀ {l : List (Nat × Nat)}, l.lookup k = some h → (k, h) ∈ l := fun {l} => by
  induction l with
  | nil => intro q; cases q
  | cons a l ih =>
    intro q
    rw [List.lookup_cons] at q
    by_cases c : k = a.1
    · rw [show (k == a.1) = true from by simp [c]] at q
      have e : a.2 = h := Option.some.inj q
      rw [c, ← e]
      exact List.mem_cons_self
    · rw [show (k == a.1) = false from by simp [c]] at q
      exact List.mem_cons_of_mem _ (ih q)
theorem bL_in : ∀ a ∈ bL, ∀ b ∈ bL, a.2 = b.2 → a.1 = b.1 := by decide +kernel
theorem bL_lt : ∀ a ∈ bL, a.2 < 228 := by decide +kernel
theorem B0_or (k : Nat) : (k, B0 k) ∈ bL ∨ B0 k = 2000000 + 2 * k := by
  unfold B0
  cases q : bL.lookup k with
  | none => exact Or.inr rfl
  | some h => exact Or.inl (lk_mem q)
theorem B0_inj (i j : Nat) (e : B0 i = B0 j) : i = j := by
  rcases B0_or i with a | a <;> rcases B0_or j with b | b
  · exact bL_in _ a _ b e
  · have := bL_lt _ a; simp only at this; omega
  · have := bL_lt _ b; simp only at this; omega
  · omega
theorem cSt_d {b : Nat} (h1 : zkd σ (B b) = (0, 8)) (h2 : B b < zn σ) (h3 : ∀ q ∈ stF, zra σ (B b) ((q.1 : Nat) : Int) = some (B (b + q.1)) ∧ B (b + q.1) < zn σ ∧ zkd σ (B (b + q.1)) = (1, q.2)) : cSt σ B b := ⟨h1, h2, fun k n q => h3 (k, n) q⟩
def zkC : zMem := zk72
def B0s (k : Nat) : Nat := if 2200 ≤ k ∧ k < 2216 then B0 (k - 2000) else if 200 ≤ k ∧ k < 216 then B0 (k + 2000) else B0 k
theorem B0s_inj (i j : Nat) (e : B0s i = B0s j) : i = j := by
  unfold B0s at e
  have r := fun a b => B0_inj a b
  repeat' (split at e)
  all_goals (have := r _ _ e; omega)
theorem B0s_at {k : Nat} (h : 2200 ≤ k ∧ k < 2216) : B0s k = B0 (k - 2000) := if_pos h
theorem kS20 : cS2 zkC B0s := ⟨cSt_d (by decide +kernel) (by decide +kernel) (by decide +kernel), B0s_inj⟩
theorem zt_X11_init (hG : zOS G) (hAO : zAO G) : zE G mX11_init (d + 3) [zR 0] zk1 (fun r σ1 => r = .inl none ∧ zFr (zRg 200 216 B0) zkC σ1 ∧ cZs σ1 B0s) := by
  refine zE_of rfl (by simp [zcat]) (Nat.le_of_ble_eq_true rfl) ?_
  show zF G mX11_init (d + 3) 0 [(0, zR 0)] [] zk1 _
  refine zF_aload_n 1 dX11_init_0 rfl rfl ?_
  refine zF_obj 4 dX11_init_1 rfl (zi1 32 rfl rfl) (zi1 33 rfl rfl) (zi1 34 rfl rfl) (by omega) (Nat.le_of_ble_eq_true rfl) ?_
  refine zF_aload_n 5 dX11_init_4 rfl rfl ?_
  refine zF_sipush 8 dX11_init_5 rfl (by decide) ?_
  refine zF_newarray 10 dX11_init_8 rfl (Or.inr (Or.inl ⟨rfl, rfl⟩)) (zi1 64 rfl rfl) (by decide) (by decide) (by decide +kernel) (zwl_q (by exact (⟨zwR (show 0 < zn zk1 from by decide +kernel), trivial⟩ : _ ∧ True))) (zwl_m (by exact (⟨zwR (show 0 < zn zk1 from by decide +kernel), trivial⟩ : _ ∧ True))) ?_
  refine zF_putR 13 dX11_init_10 rfl pX11_init_9 (zwf_l (Nat.lt_succ_self _)) (znw_k (by decide +kernel) (by decide +kernel)) (znw_l (σ := zk1) (by decide +kernel)) ?_
  show zF G mX11_init (d + 3) 13 [(0, zR 0)] [] zk2 _
  refine zF_aload_n 14 dX11_init_13 rfl rfl ?_
  refine zF_iconst 15 dX11_init_14 rfl ?_
  refine zF_putI 18 dX11_init_15 rfl pX11_init_13 (Or.inl rfl) (by decide +kernel) (by decide +kernel) ?_
  show zF G mX11_init (d + 3) 18 [(0, zR 0)] [] zk3 _
  refine zF_aload_n 19 dX11_init_18 rfl rfl ?_
  refine zF_new 22 (ci := 13) (N := 4) dX11_init_19 rfl nX11_17 rfl (by decide +kernel) (zwl_q (by exact (⟨zwR (show 0 < zn zk3 from by decide +kernel), trivial⟩ : _ ∧ True))) (zwl_m (by exact (⟨zwR (show 0 < zn zk3 from by decide +kernel), trivial⟩ : _ ∧ True))) ?_
  rw [show zn zk3 = 2 from by decide +kernel]
  show zF G mX11_init (d + 3) 22 [(0, zR 0)] [zR 2, zR 0] zk4 _
  refine zF_dup 23 dX11_init_22 rfl rfl ?_
  refine zF_callIn 26 (d2 := 2) (as := []) (rest := [zR 2, zR 0]) dX11_init_23 rfl kX11_19 rfl iJ4_init_da8c8 (by omega) rfl rfl (Nat.le_of_ble_eq_true rfl) (by exact (⟨zwR (show 0 < zn zk4 from by decide +kernel), trivial⟩ : _ ∧ True)) (by exact (⟨zwR (show 2 < zn zk4 from by decide +kernel), zwR (show 0 < zn zk4 from by decide +kernel), trivial⟩ : _ ∧ _ ∧ True)) (zE.mono (zt_J4_init_da8c8 (d := 0) (σ := zk4) hG (by decide +kernel) (by decide +kernel) (by decide +kernel)) fun r σ1 hh => ⟨hh.1, ?_⟩)
  replace hh := hh.2
  subst hh
  show zF G mX11_init (d + 3) 26 [(0, zR 0)] [zR 2, zR 0] zk5 _
  refine zF_putR 29 dX11_init_26 rfl pX11_init_20 (zwf_l (by decide +kernel)) (by decide +kernel) (by decide +kernel) ?_
  show zF G mX11_init (d + 3) 29 [(0, zR 0)] [] zk6 _
  refine zF_aload_n 30 dX11_init_29 rfl rfl ?_
  refine zF_new 33 (ci := 1) (N := 13) dX11_init_30 rfl nX11_24 rfl (by decide +kernel) (zwl_q (by exact (⟨zwR (show 0 < zn zk6 from by decide +kernel), trivial⟩ : _ ∧ True))) (zwl_m (by exact (⟨zwR (show 0 < zn zk6 from by decide +kernel), trivial⟩ : _ ∧ True))) ?_
  rw [show zn zk6 = 4 from by decide +kernel]
  show zF G mX11_init (d + 3) 33 [(0, zR 0)] [zR 4, zR 0] zk7 _
  refine zF_dup 34 dX11_init_33 rfl rfl ?_
  refine zF_callINn 37 (d2 := 1) (as := []) (rest := [zR 4, zR 0]) dX11_init_34 rfl knX11_26 rfl iX1_init (by omega) rfl rfl (Nat.le_of_ble_eq_true rfl) (by exact (⟨zwR (show 0 < zn zk7 from by decide +kernel), trivial⟩ : _ ∧ True)) (by exact (⟨zwR (show 4 < zn zk7 from by decide +kernel), zwR (show 0 < zn zk7 from by decide +kernel), trivial⟩ : _ ∧ _ ∧ True)) (zE.mono (zt_X1_init (d := 0) (σ := zk7) (by decide +kernel) (by decide +kernel) (by decide +kernel)) fun r σ1 hh => ⟨hh.1, ?_⟩)
  replace hh := hh.2
  subst hh
  show zF G mX11_init (d + 3) 37 [(0, zR 0)] [zR 4, zR 0] zk8 _
  refine zF_putR 40 dX11_init_37 rfl pX11_init_27 (zwf_l (by decide +kernel)) (by decide +kernel) (by decide +kernel) ?_
  show zF G mX11_init (d + 3) 40 [(0, zR 0)] [] zk9 _
  refine zF_aload_n 41 dX11_init_40 rfl rfl ?_
  refine zF_new 44 (ci := 8) (N := 16) dX11_init_41 rfl nX11_31 rfl (by decide +kernel) (zwl_q (by exact (⟨zwR (show 0 < zn zk9 from by decide +kernel), trivial⟩ : _ ∧ True))) (zwl_m (by exact (⟨zwR (show 0 < zn zk9 from by decide +kernel), trivial⟩ : _ ∧ True))) ?_
  rw [show zn zk9 = 15 from by decide +kernel]
  show zF G mX11_init (d + 3) 44 [(0, zR 0)] [zR 15, zR 0] zk10 _
  refine zF_dup 45 dX11_init_44 rfl rfl ?_
  refine zF_callINn 48 (d2 := 1) (as := []) (rest := [zR 15, zR 0]) dX11_init_45 rfl knX11_33 rfl iX8_init (by omega) rfl rfl (Nat.le_of_ble_eq_true rfl) (by exact (⟨zwR (show 0 < zn zk10 from by decide +kernel), trivial⟩ : _ ∧ True)) (by exact (⟨zwR (show 15 < zn zk10 from by decide +kernel), zwR (show 0 < zn zk10 from by decide +kernel), trivial⟩ : _ ∧ _ ∧ True)) (zE.mono (zt_X8_init (d := 0) (σ := zk10) (by decide +kernel) (by decide +kernel) (by decide +kernel)) fun r σ1 hh => ⟨hh.1, ?_⟩)
  replace hh := hh.2
  subst hh
  show zF G mX11_init (d + 3) 48 [(0, zR 0)] [zR 15, zR 0] zk11 _
  refine zF_putR 51 dX11_init_48 rfl pX11_init_34 (zwf_l (by decide +kernel)) (by decide +kernel) (by decide +kernel) ?_
  show zF G mX11_init (d + 3) 51 [(0, zR 0)] [] zk12 _
  refine zF_aload_n 52 dX11_init_51 rfl rfl ?_
  refine zF_new 55 (ci := 10) (N := 4) dX11_init_52 rfl nX11_38 rfl (by decide +kernel) (zwl_q (by exact (⟨zwR (show 0 < zn zk12 from by decide +kernel), trivial⟩ : _ ∧ True))) (zwl_m (by exact (⟨zwR (show 0 < zn zk12 from by decide +kernel), trivial⟩ : _ ∧ True))) ?_
  rw [show zn zk12 = 29 from by decide +kernel]
  show zF G mX11_init (d + 3) 55 [(0, zR 0)] [zR 29, zR 0] zk13 _
  refine zF_dup 56 dX11_init_55 rfl rfl ?_
  refine zF_aload_n 57 dX11_init_56 rfl rfl ?_
  refine zF_getR 60 dX11_init_57 rfl gX11_27 (ci := 11) (by decide +kernel) (by decide +kernel) (show zra zk13 0 ((4 : Nat) : Int) = some 4 from by decide +kernel) ?_
  show zF G mX11_init (d + 3) 60 [(0, zR 0)] [zR 4, zR 29, zR 29, zR 0] zk13 _
  refine zF_aload_n 61 dX11_init_60 rfl rfl ?_
  refine zF_getR 64 dX11_init_61 rfl gX11_34 (ci := 11) (by decide +kernel) (by decide +kernel) (show zra zk13 0 ((5 : Nat) : Int) = some 15 from by decide +kernel) ?_
  show zF G mX11_init (d + 3) 64 [(0, zR 0)] [zR 15, zR 4, zR 29, zR 29, zR 0] zk13 _
  refine zF_callIn 67 (d2 := 1) (as := [zR 4, zR 15]) (rest := [zR 29, zR 0]) dX11_init_64 rfl kX11_40 rfl iX10_init (by omega) rfl rfl (Nat.le_of_ble_eq_true rfl) (by exact (⟨zwR (show 0 < zn zk13 from by decide +kernel), trivial⟩ : _ ∧ True)) (by exact (⟨zwR (show 29 < zn zk13 from by decide +kernel), zwR (show 0 < zn zk13 from by decide +kernel), trivial⟩ : _ ∧ _ ∧ True)) (zE.mono (zt_X10_init (d := 0) (σ := zk13) (by decide +kernel) (by decide +kernel) (by decide +kernel) (by decide +kernel) (by decide +kernel)) fun r σ1 hh => ⟨hh.1, ?_⟩)
  replace hh := hh.2
  subst hh
  show zF G mX11_init (d + 3) 67 [(0, zR 0)] [zR 29, zR 0] zk14 _
  refine zF_putR 70 dX11_init_67 rfl pX11_init_43 (zwf_l (by decide +kernel)) (by decide +kernel) (by decide +kernel) ?_
  show zF G mX11_init (d + 3) 70 [(0, zR 0)] [] zk15 _
  refine zF_aload_n 71 dX11_init_70 rfl rfl ?_
  refine zF_new 74 (ci := 5) (N := 14) dX11_init_71 rfl nX11_47 rfl (by decide +kernel) (zwl_q (by exact (⟨zwR (show 0 < zn zk15 from by decide +kernel), trivial⟩ : _ ∧ True))) (zwl_m (by exact (⟨zwR (show 0 < zn zk15 from by decide +kernel), trivial⟩ : _ ∧ True))) ?_
  rw [show zn zk15 = 32 from by decide +kernel]
  show zF G mX11_init (d + 3) 74 [(0, zR 0)] [zR 32, zR 0] zk16 _
  refine zF_dup 75 dX11_init_74 rfl rfl ?_
  refine zF_aload_n 76 dX11_init_75 rfl rfl ?_
  refine zF_getR 79 dX11_init_76 rfl gX11_27 (ci := 11) (by decide +kernel) (by decide +kernel) (show zra zk16 0 ((4 : Nat) : Int) = some 4 from by decide +kernel) ?_
  show zF G mX11_init (d + 3) 79 [(0, zR 0)] [zR 4, zR 32, zR 32, zR 0] zk16 _
  refine zF_aload_n 80 dX11_init_79 rfl rfl ?_
  refine zF_getR 83 dX11_init_80 rfl gX11_34 (ci := 11) (by decide +kernel) (by decide +kernel) (show zra zk16 0 ((5 : Nat) : Int) = some 15 from by decide +kernel) ?_
  show zF G mX11_init (d + 3) 83 [(0, zR 0)] [zR 15, zR 4, zR 32, zR 32, zR 0] zk16 _
  refine zF_aload_n 84 dX11_init_83 rfl rfl ?_
  refine zF_getR 87 dX11_init_84 rfl gX11_43 (ci := 11) (by decide +kernel) (by decide +kernel) (show zra zk16 0 ((6 : Nat) : Int) = some 29 from by decide +kernel) ?_
  show zF G mX11_init (d + 3) 87 [(0, zR 0)] [zR 29, zR 15, zR 4, zR 32, zR 32, zR 0] zk16 _
  refine zF_callIn 90 (d2 := 1) (as := [zR 4, zR 15, zR 29]) (rest := [zR 32, zR 0]) dX11_init_87 rfl kX11_49 rfl iX5_init (by omega) rfl rfl (Nat.le_of_ble_eq_true rfl) (by exact (⟨zwR (show 0 < zn zk16 from by decide +kernel), trivial⟩ : _ ∧ True)) (by exact (⟨zwR (show 32 < zn zk16 from by decide +kernel), zwR (show 0 < zn zk16 from by decide +kernel), trivial⟩ : _ ∧ _ ∧ True)) (zE.mono (zt_X5_init (d := 0) (σ := zk16) (by decide +kernel) (by decide +kernel) (by decide +kernel) (by decide +kernel) (by decide +kernel) (by decide +kernel)) fun r σ1 hh => ⟨hh.1, ?_⟩)
  replace hh := hh.2
  subst hh
  show zF G mX11_init (d + 3) 90 [(0, zR 0)] [zR 32, zR 0] zk17 _
  refine zF_putR 93 dX11_init_90 rfl pX11_init_52 (zwf_l (by decide +kernel)) (by decide +kernel) (by decide +kernel) ?_
  show zF G mX11_init (d + 3) 93 [(0, zR 0)] [] zk18 _
  refine zF_aload_n 94 dX11_init_93 rfl rfl ?_
  refine zF_new 97 (ci := 3) (N := 4) dX11_init_94 rfl nX11_56 rfl (by decide +kernel) (zwl_q (by exact (⟨zwR (show 0 < zn zk18 from by decide +kernel), trivial⟩ : _ ∧ True))) (zwl_m (by exact (⟨zwR (show 0 < zn zk18 from by decide +kernel), trivial⟩ : _ ∧ True))) ?_
  rw [show zn zk18 = 42 from by decide +kernel]
  show zF G mX11_init (d + 3) 97 [(0, zR 0)] [zR 42, zR 0] zk19 _
  refine zF_dup 98 dX11_init_97 rfl rfl ?_
  refine zF_aload_n 99 dX11_init_98 rfl rfl ?_
  refine zF_getR 102 dX11_init_99 rfl gX11_27 (ci := 11) (by decide +kernel) (by decide +kernel) (show zra zk19 0 ((4 : Nat) : Int) = some 4 from by decide +kernel) ?_
  show zF G mX11_init (d + 3) 102 [(0, zR 0)] [zR 4, zR 42, zR 42, zR 0] zk19 _
  refine zF_aload_n 103 dX11_init_102 rfl rfl ?_
  refine zF_getR 106 dX11_init_103 rfl gX11_34 (ci := 11) (by decide +kernel) (by decide +kernel) (show zra zk19 0 ((5 : Nat) : Int) = some 15 from by decide +kernel) ?_
  show zF G mX11_init (d + 3) 106 [(0, zR 0)] [zR 15, zR 4, zR 42, zR 42, zR 0] zk19 _
  refine zF_aload_n 107 dX11_init_106 rfl rfl ?_
  refine zF_getR 110 dX11_init_107 rfl gX11_43 (ci := 11) (by decide +kernel) (by decide +kernel) (show zra zk19 0 ((6 : Nat) : Int) = some 29 from by decide +kernel) ?_
  show zF G mX11_init (d + 3) 110 [(0, zR 0)] [zR 29, zR 15, zR 4, zR 42, zR 42, zR 0] zk19 _
  refine zF_callIn 113 (d2 := 1) (as := [zR 4, zR 15, zR 29]) (rest := [zR 42, zR 0]) dX11_init_110 rfl kX11_58 rfl iX3_init (by omega) rfl rfl (Nat.le_of_ble_eq_true rfl) (by exact (⟨zwR (show 0 < zn zk19 from by decide +kernel), trivial⟩ : _ ∧ True)) (by exact (⟨zwR (show 42 < zn zk19 from by decide +kernel), zwR (show 0 < zn zk19 from by decide +kernel), trivial⟩ : _ ∧ _ ∧ True)) (zE.mono (zt_X3_init (d := 0) (σ := zk19) (by decide +kernel) (by decide +kernel) (by decide +kernel) (by decide +kernel) (by decide +kernel) (by decide +kernel)) fun r σ1 hh => ⟨hh.1, ?_⟩)
  replace hh := hh.2
  subst hh
  show zF G mX11_init (d + 3) 113 [(0, zR 0)] [zR 42, zR 0] zk20 _
  refine zF_putR 116 dX11_init_113 rfl pX11_init_59 (zwf_l (by decide +kernel)) (by decide +kernel) (by decide +kernel) ?_
  show zF G mX11_init (d + 3) 116 [(0, zR 0)] [] zk21 _
  refine zF_aload_n 117 dX11_init_116 rfl rfl ?_
  refine zF_new 120 (ci := 4) (N := 5) dX11_init_117 rfl nX11_63 rfl (by decide +kernel) (zwl_q (by exact (⟨zwR (show 0 < zn zk21 from by decide +kernel), trivial⟩ : _ ∧ True))) (zwl_m (by exact (⟨zwR (show 0 < zn zk21 from by decide +kernel), trivial⟩ : _ ∧ True))) ?_
  rw [show zn zk21 = 44 from by decide +kernel]
  show zF G mX11_init (d + 3) 120 [(0, zR 0)] [zR 44, zR 0] zk22 _
  refine zF_dup 121 dX11_init_120 rfl rfl ?_
  refine zF_callIn 124 (d2 := 2) (as := []) (rest := [zR 44, zR 0]) dX11_init_121 rfl kX11_65 rfl iX4_init (by omega) rfl rfl (Nat.le_of_ble_eq_true rfl) (by exact (⟨zwR (show 0 < zn zk22 from by decide +kernel), trivial⟩ : _ ∧ True)) (by exact (⟨zwR (show 44 < zn zk22 from by decide +kernel), zwR (show 0 < zn zk22 from by decide +kernel), trivial⟩ : _ ∧ _ ∧ True)) (zE.mono (zc_X4_init (d := 0) hG hAO) fun r σ1 hh => ⟨hh.1, ?_⟩)
  replace hh := hh.2
  subst hh
  show zF G mX11_init (d + 3) 124 [(0, zR 0)] [zR 44, zR 0] zk56 _
  refine zF_putR 127 dX11_init_124 rfl pX11_init_66 (zwf_l (by decide +kernel)) (by decide +kernel) (by decide +kernel) ?_
  show zF G mX11_init (d + 3) 127 [(0, zR 0)] [] zk57 _
  refine zF_aload_n 128 dX11_init_127 rfl rfl ?_
  refine zF_new 131 (ci := 9) (N := 8) dX11_init_128 rfl nX11_70 rfl (by decide +kernel) (zwl_q (by exact (⟨zwR (show 0 < zn zk57 from by decide +kernel), trivial⟩ : _ ∧ True))) (zwl_m (by exact (⟨zwR (show 0 < zn zk57 from by decide +kernel), trivial⟩ : _ ∧ True))) ?_
  rw [show zn zk57 = 200 from by decide +kernel]
  show zF G mX11_init (d + 3) 131 [(0, zR 0)] [zR 200, zR 0] zk58 _
  refine zF_dup 132 dX11_init_131 rfl rfl ?_
  refine zF_aload_n 133 dX11_init_132 rfl rfl ?_
  refine zF_getR 136 dX11_init_133 rfl gX11_9 (ci := 11) (by decide +kernel) (by decide +kernel) (show zra zk58 0 ((0 : Nat) : Int) = some 1 from by decide +kernel) ?_
  show zF G mX11_init (d + 3) 136 [(0, zR 0)] [zR 1, zR 200, zR 200, zR 0] zk58 _
  refine zF_callIn 139 (d2 := 1) (as := [zR 1]) (rest := [zR 200, zR 0]) dX11_init_136 rfl kX11_72 rfl iX9_init (by omega) rfl rfl (Nat.le_of_ble_eq_true rfl) (by exact (⟨zwR (show 0 < zn zk58 from by decide +kernel), trivial⟩ : _ ∧ True)) (by exact (⟨zwR (show 200 < zn zk58 from by decide +kernel), zwR (show 0 < zn zk58 from by decide +kernel), trivial⟩ : _ ∧ _ ∧ True)) (zE.mono (zt_X9_init (d := 0) (σ := zk58) (by decide +kernel) (by decide +kernel) (by decide +kernel) (by decide +kernel)) fun r σ1 hh => ⟨hh.1, ?_⟩)
  replace hh := hh.2
  subst hh
  show zF G mX11_init (d + 3) 139 [(0, zR 0)] [zR 200, zR 0] zk59 _
  refine zF_putR 142 dX11_init_139 rfl pX11_init_75 (zwf_l (by decide +kernel)) (by decide +kernel) (by decide +kernel) ?_
  show zF G mX11_init (d + 3) 142 [(0, zR 0)] [] zk60 _
  refine zF_aload_n 143 dX11_init_142 rfl rfl ?_
  refine zF_new 146 (ci := 2) (N := 3) dX11_init_143 rfl nX11_79 rfl (by decide +kernel) (zwl_q (by exact (⟨zwR (show 0 < zn zk60 from by decide +kernel), trivial⟩ : _ ∧ True))) (zwl_m (by exact (⟨zwR (show 0 < zn zk60 from by decide +kernel), trivial⟩ : _ ∧ True))) ?_
  rw [show zn zk60 = 201 from by decide +kernel]
  show zF G mX11_init (d + 3) 146 [(0, zR 0)] [zR 201, zR 0] zk61 _
  refine zF_dup 147 dX11_init_146 rfl rfl ?_
  refine zF_aload_n 148 dX11_init_147 rfl rfl ?_
  refine zF_getR 151 dX11_init_148 rfl gX11_75 (ci := 11) (by decide +kernel) (by decide +kernel) (show zra zk61 0 ((10 : Nat) : Int) = some 200 from by decide +kernel) ?_
  show zF G mX11_init (d + 3) 151 [(0, zR 0)] [zR 200, zR 201, zR 201, zR 0] zk61 _
  refine zF_callIn 154 (d2 := 2) (as := [zR 200]) (rest := [zR 201, zR 0]) dX11_init_151 rfl kX11_81 rfl iX2_init (by omega) rfl rfl (Nat.le_of_ble_eq_true rfl) (by exact (⟨zwR (show 0 < zn zk61 from by decide +kernel), trivial⟩ : _ ∧ True)) (by exact (⟨zwR (show 201 < zn zk61 from by decide +kernel), zwR (show 0 < zn zk61 from by decide +kernel), trivial⟩ : _ ∧ _ ∧ True)) (zE.mono (zc_X2_init (d := 0) hG hAO) fun r σ1 hh => ⟨hh.1, ?_⟩)
  replace hh := hh.2
  subst hh
  show zF G mX11_init (d + 3) 154 [(0, zR 0)] [zR 201, zR 0] zk68 _
  refine zF_putR 157 dX11_init_154 rfl pX11_init_84 (zwf_l (by decide +kernel)) (by decide +kernel) (by decide +kernel) ?_
  show zF G mX11_init (d + 3) 157 [(0, zR 0)] [] zk69 _
  refine zF_aload_n 158 dX11_init_157 rfl rfl ?_
  refine zF_new 161 (ci := 7) (N := 4) dX11_init_158 rfl nX11_88 rfl (by decide +kernel) (zwl_q (by exact (⟨zwR (show 0 < zn zk69 from by decide +kernel), trivial⟩ : _ ∧ True))) (zwl_m (by exact (⟨zwR (show 0 < zn zk69 from by decide +kernel), trivial⟩ : _ ∧ True))) ?_
  rw [show zn zk69 = 227 from by decide +kernel]
  show zF G mX11_init (d + 3) 161 [(0, zR 0)] [zR 227, zR 0] zk70 _
  refine zF_dup 162 dX11_init_161 rfl rfl ?_
  refine zF_aload_n 163 dX11_init_162 rfl rfl ?_
  refine zF_getR 166 dX11_init_163 rfl gX11_75 (ci := 11) (by decide +kernel) (by decide +kernel) (show zra zk70 0 ((10 : Nat) : Int) = some 200 from by decide +kernel) ?_
  show zF G mX11_init (d + 3) 166 [(0, zR 0)] [zR 200, zR 227, zR 227, zR 0] zk70 _
  refine zF_aload_n 167 dX11_init_166 rfl rfl ?_
  refine zF_getR 170 dX11_init_167 rfl gX11_27 (ci := 11) (by decide +kernel) (by decide +kernel) (show zra zk70 0 ((4 : Nat) : Int) = some 4 from by decide +kernel) ?_
  show zF G mX11_init (d + 3) 170 [(0, zR 0)] [zR 4, zR 200, zR 227, zR 227, zR 0] zk70 _
  refine zF_aload_n 171 dX11_init_170 rfl rfl ?_
  refine zF_getR 174 dX11_init_171 rfl gX11_34 (ci := 11) (by decide +kernel) (by decide +kernel) (show zra zk70 0 ((5 : Nat) : Int) = some 15 from by decide +kernel) ?_
  show zF G mX11_init (d + 3) 174 [(0, zR 0)] [zR 15, zR 4, zR 200, zR 227, zR 227, zR 0] zk70 _
  refine zF_aload_n 175 dX11_init_174 rfl rfl ?_
  refine zF_getR 178 dX11_init_175 rfl gX11_43 (ci := 11) (by decide +kernel) (by decide +kernel) (show zra zk70 0 ((6 : Nat) : Int) = some 29 from by decide +kernel) ?_
  show zF G mX11_init (d + 3) 178 [(0, zR 0)] [zR 29, zR 15, zR 4, zR 200, zR 227, zR 227, zR 0] zk70 _
  refine zF_callIn 181 (d2 := 1) (as := [zR 200, zR 4, zR 15, zR 29]) (rest := [zR 227, zR 0]) dX11_init_178 rfl kX11_90 rfl iX7_init (by omega) rfl rfl (Nat.le_of_ble_eq_true rfl) (by exact (⟨zwR (show 0 < zn zk70 from by decide +kernel), trivial⟩ : _ ∧ True)) (by exact (⟨zwR (show 227 < zn zk70 from by decide +kernel), zwR (show 0 < zn zk70 from by decide +kernel), trivial⟩ : _ ∧ _ ∧ True)) (zE.mono (zt_X7_init (d := 0) (σ := zk70) (by decide +kernel) (by decide +kernel) (by decide +kernel) (by decide +kernel) (by decide +kernel) (by decide +kernel) (by decide +kernel)) fun r σ1 hh => ⟨hh.1, ?_⟩)
  replace hh := hh.2
  subst hh
  show zF G mX11_init (d + 3) 181 [(0, zR 0)] [zR 227, zR 0] zk71 _
  refine zF_putR 184 dX11_init_181 rfl pX11_init_93 (zwf_l (by decide +kernel)) (by decide +kernel) (by decide +kernel) ?_
  show zF G mX11_init (d + 3) 184 [(0, zR 0)] [] zk72 _
  refine zF_aload_n 185 dX11_init_184 rfl rfl ?_
  refine zF_getR 188 dX11_init_185 rfl gX11_34 (ci := 11) (by decide +kernel) (by decide +kernel) (show zra zk72 0 ((5 : Nat) : Int) = some 15 from by decide +kernel) ?_
  show zF G mX11_init (d + 3) 188 [(0, zR 0)] [zR 15] zk72 _
  refine zF_callV 191 (d2 := d + 2) (as := []) dX11_init_188 rfl kX11_97 iX8_clear (ci := 8) rfl eX8_clear (by omega) (by decide +kernel) (by decide +kernel) rfl rfl (Nat.le_of_ble_eq_true rfl) (zE.mono (zt_X8_clear0 (σ := zkC) kS20) fun ro σa hh => ?_)
  obtain ⟨er, fr, pz⟩ := hh
  subst er
  refine ⟨fr.1, ?_⟩
  exact zF_return dX11_init_191 rfl ⟨rfl, fr.wk fun h j q => by
    obtain ⟨i, a, b, e⟩ := q
    exact ⟨i - 2000, by omega, by omega, e.trans (B0s_at ⟨a, b⟩)⟩, pz⟩
end ZNB
