/-! the class: readings of a week -/
section ZC2
variable {G : zG} {d : Nat} {σ : zMem} {B : Nat → Nat} {N : Int → Int}
def vSn (N : Int → Int) (s b : Int) (n : Nat) : Int := zsum (fun i => gv N s (b + i)) n
def cTake (N : Int → Int) (s : Int) : Int := vSn N s 0 7 * mPrice N s
def cAllN (N : Int → Int) (n : Nat) : Int := zsum (fun s => cTake N s) n
def cVisN (N : Int → Int) (n : Nat) : Int := zsum (fun s => vSn N s 0 7) n
def cRoomN (N : Int → Int) (n : Nat) : Int := zsum (fun s => mCap N s * 7) n
def cHouseN (N : Int → Int) (h : Int) (n : Nat) : Int := zsum (fun s => if mS N s 0 = h then cTake N s else 0) n
def cRentN (N : Int → Int) (h : Int) (n : Nat) : Int := zsum (fun s => if mS N s 0 = h then mS N s 3 else 0) n
def cFvN (N : Int → Int) (s f : Int) (n : Nat) : Int := zsum (fun day => if mSh N s day = f then gv N s day else 0) n
def cFiN (N : Int → Int) (h f : Int) (n : Nat) : Int := zsum (fun s => if mS N s 0 = h then cFvN N s f 7 else 0) n
def cFi (N : Int → Int) (h f : Int) : Int := cFiN N h f (nS N) * mH N h 0
def cFtN (N : Int → Int) (f : Int) (n : Nat) : Int := zsum (fun h => cFi N h f) n
def cFt (N : Int → Int) (f : Int) : Int := cFtN N f (nH N)
def cShN (N : Int → Int) (h : Int) (n : Nat) : Int := zsum (fun f => mShare N h f (cFi N h f)) n
theorem vSn_b (h : mV N) {s : Int} (h0 : 0 ≤ s) (h1 : s < 10) (b : Int) (n : Nat) : 0 ≤ vSn N s b n ∧ vSn N s b n ≤ n * 3000 := by
  have a := zsum_ge (f := fun i => gv N s (b + i)) (n := n) (a := 0) fun i _ => (gv_b h h0 h1 _).1
  have c := zsum_le (f := fun i => gv N s (b + i)) (n := n) (a := 3000) fun i _ => (gv_b h h0 h1 _).2
  unfold vSn
  omega
theorem cFv_b (h : mV N) {s : Int} (h0 : 0 ≤ s) (h1 : s < 10) (f : Int) (n : Nat) : 0 ≤ cFvN N s f n ∧ cFvN N s f n ≤ n * 3000 := by
  have a := zsum_ge (f := fun day => if mSh N s day = f then gv N s day else 0) (n := n) (a := 0) fun i _ => by have := (gv_b h h0 h1 i); split <;> omega
  have c := zsum_le (f := fun day => if mSh N s day = f then gv N s day else 0) (n := n) (a := 3000) fun i _ => by have := (gv_b h h0 h1 i); split <;> omega
  unfold cFvN
  omega
theorem cFi_b (h : mV N) {ho : Int} (a0 : 0 ≤ ho) (a1 : ho < 4) (f : Int) : 0 ≤ cFi N ho f ∧ cFi N ho f ≤ 20790000 := by
  have e := nS_eq h
  have a := zsum_ge (f := fun s => if mS N s 0 = ho then cFvN N s f 7 else 0) (n := nS N) (a := 0) fun i hi => by have := cFv_b h (s := i) (by omega) (by omega) f 7; split <;> omega
  have c := zsum_le (f := fun s => if mS N s 0 = ho then cFvN N s f 7 else 0) (n := nS N) (a := 21000) fun i hi => by have := cFv_b h (s := i) (by omega) (by omega) f 7; split <;> omega
  have p := h.h ho a0 a1
  have q : 0 ≤ cFiN N ho f (nS N) ∧ cFiN N ho f (nS N) ≤ 210000 := by unfold cFiN; omega
  have r1 : 0 ≤ cFiN N ho f (nS N) * mH N ho 0 := Int.mul_nonneg (by omega) (by omega)
  have r2 : cFiN N ho f (nS N) * mH N ho 0 ≤ 210000 * 99 := Int.mul_le_mul (by omega) (by omega) (by omega) (by omega)
  unfold cFi
  omega
theorem zt_X10_visitorsOn {a b : Int} (hB : cM σ B) (hR : cR N σ B) (hV : mV N) (s0 : 0 ≤ a) (s1 : a < N 1) (d0 : 0 ≤ b) (d1 : b < 7) : zP1 G mX10_visitorsOn d [zR (B 300), zI a, zI b] σ (gv N a b) := by
  refine zE_of rfl (by simp [zcat]) (Nat.le_of_ble_eq_true rfl) ?_
  show zF G mX10_visitorsOn d 0 [(0, zR (B 300)), (1, zI a), (2, zI b)] [] σ _
  have hb := hV.b
  have hn := hV.n
  refine zF_aload_n 1 dX10_visitorsOn_0 rfl rfl ?_
  refine zF_getR 4 dX10_visitorsOn_1 rfl gX10_9 hB.wk.1 hB.wk.2.1 (cB_302 hB).1 ?_
  refine zF_iload_n 5 dX10_visitorsOn_4 rfl rfl ?_
  refine zF_bipush 7 dX10_visitorsOn_5 rfl (by decide) ?_
  refine zF_imul 8 dX10_visitorsOn_7 rfl ?_
  refine zF_iload_n 9 dX10_visitorsOn_8 rfl rfl ?_
  refine zF_iadd 10 dX10_visitorsOn_9 rfl ?_
  refine zF_iaload 11 dX10_visitorsOn_10 rfl (cB_302 hB).2.2 (cB_302 hB).2.1 (by omega) (by omega) (rd_302 hR (by omega) (by omega) (by omega) (by omega)) ?_
  exact zF_iretP dX10_visitorsOn_11 rfl (rfl)
theorem zt_X10_visitorsSince {a b : Int} (hB : cM σ B) (hR : cR N σ B) (hV : mV N) (s0 : 0 ≤ a) (s1 : a < N 1) (d0 : 0 ≤ b) (d1 : b ≤ 7) : zP1 G mX10_visitorsSince d [zR (B 300), zI a, zI b] σ (vSn N a b (7 - b).toNat) := by
  refine zE_of rfl (by simp [zcat]) (Nat.le_of_ble_eq_true rfl) ?_
  show zF G mX10_visitorsSince d 0 [(0, zR (B 300)), (1, zI a), (2, zI b)] [] σ _
  have hb := hV.b
  have hn := hV.n
  refine zF_iconst 1 dX10_visitorsSince_0 rfl ?_
  refine zF_istore_n 2 (ls' := [(3, zI 0), (0, zR (B 300)), (1, zI a), (2, zI b)]) dX10_visitorsSince_1 rfl (by decide) rfl ?_
  refine zF_iload_n 3 dX10_visitorsSince_2 rfl rfl ?_
  refine zF_istore 5 (ls' := [(4, zI b), (3, zI 0), (0, zR (B 300)), (1, zI a), (2, zI b)]) dX10_visitorsSince_3 rfl (by decide) rfl ?_
  refine zF_locs (ls' := (fun (i : Nat) => [(4, zI (b + (i : Int))), (3, zI (vSn N a b i)), (0, zR (B 300)), (1, zI a), (2, zI b)]) 0) ⟨zlI rfl (by first | rfl | omega | (push_cast; omega) | exact congrArg (_ + ·) (zbT (by assumption)) | exact congrArg (_ + ·) (zbF (by assumption)) | exact congrArg (_ + ·) (zbT (by omega)) | exact congrArg (_ + ·) (zbF (by omega)) | exact congrArg (_ + ·) (if_pos (by omega)).symm | exact congrArg (_ + ·) (if_neg (by omega)).symm | exact (if_pos (by omega)).symm | exact (if_neg (by omega)).symm | exact zsub_s (if_pos (by omega)).symm | exact zsub_s0 (if_neg (by omega)).symm | exact zadd0 (if_neg (by omega)).symm | exact zadd0 (zbF (by omega)) | exact (Int.sub_zero _).symm), zlI rfl (by first | rfl | omega | (push_cast; omega) | exact congrArg (_ + ·) (zbT (by assumption)) | exact congrArg (_ + ·) (zbF (by assumption)) | exact congrArg (_ + ·) (zbT (by omega)) | exact congrArg (_ + ·) (zbF (by omega)) | exact congrArg (_ + ·) (if_pos (by omega)).symm | exact congrArg (_ + ·) (if_neg (by omega)).symm | exact (if_pos (by omega)).symm | exact (if_neg (by omega)).symm | exact zsub_s (if_pos (by omega)).symm | exact zsub_s0 (if_neg (by omega)).symm | exact zadd0 (if_neg (by omega)).symm | exact zadd0 (zbF (by omega)) | exact (Int.sub_zero _).symm), rfl, rfl, rfl, trivial⟩ ?_
  refine zF_loop (n := (7 - b).toNat) (fun (i : Nat) => [(4, zI (b + (i : Int))), (3, zI (vSn N a b i)), (0, zR (B 300)), (1, zI a), (2, zI b)]) (fun _ => σ) (fun i hi ih5 => ?_) ?_
  · show zF G mX10_visitorsSince d 5 [(4, zI (b + (i : Int))), (3, zI (vSn N a b i)), (0, zR (B 300)), (1, zI a), (2, zI b)] [] σ _
    refine zF_iload 7 dX10_visitorsSince_5 rfl rfl ?_
    refine zF_bipush 9 dX10_visitorsSince_7 rfl (by decide) ?_
    refine zF_icmp_ge 33 12 dX10_visitorsSince_9 rfl rfl (by first | decide | assumption | exact hb _ | exact mSh_rg hb _ _ | exact zb_rg _ | (constructor <;> omega)) (by first | decide | assumption | exact hb _ | exact mSh_rg hb _ _ | exact zb_rg _ | (constructor <;> omega)) (fun c1 => ?_) (fun c1 => ?_)
    · exact absurd c1 (by omega)
    · refine zF_iload_n 13 dX10_visitorsSince_12 rfl rfl ?_
      refine zF_aload_n 14 dX10_visitorsSince_13 rfl rfl ?_
      refine zF_getR 17 dX10_visitorsSince_14 rfl gX10_9 hB.wk.1 hB.wk.2.1 (cB_302 hB).1 ?_
      refine zF_iload_n 18 dX10_visitorsSince_17 rfl rfl ?_
      refine zF_bipush 20 dX10_visitorsSince_18 rfl (by decide) ?_
      refine zF_imul 21 dX10_visitorsSince_20 rfl ?_
      refine zF_iload 23 dX10_visitorsSince_21 rfl rfl ?_
      refine zF_iadd 24 dX10_visitorsSince_23 rfl ?_
      refine zF_iaload 25 dX10_visitorsSince_24 rfl (cB_302 hB).2.2 (cB_302 hB).2.1 (by omega) (by omega) (rd_302 hR (by omega) (by omega) (by omega) (by omega)) ?_
      refine zF_iadd 26 dX10_visitorsSince_25 rfl ?_
      refine zF_istore_n 27 (ls' := [(3, zI ((vSn N a b i) + (gv N a (b + (i : Int))))), (4, zI (b + (i : Int))), (0, zR (B 300)), (1, zI a), (2, zI b)]) dX10_visitorsSince_26 rfl (by decide) rfl ?_
      refine zF_iinc 30 (ls' := [(4, zI ((b + (i : Int)) + 1)), (3, zI ((vSn N a b i) + (gv N a (b + (i : Int))))), (0, zR (B 300)), (1, zI a), (2, zI b)]) dX10_visitorsSince_27 rfl rfl rfl (by decide) rfl ?_
      refine zF_goto 5 dX10_visitorsSince_30 rfl ?_
      exact zF_locs (ls' := [(4, zI (b + ((i + 1 : Nat) : Int))), (3, zI (vSn N a b (i + 1))), (0, zR (B 300)), (1, zI a), (2, zI b)]) ⟨zlI rfl (by first | rfl | omega | (push_cast; omega) | exact congrArg (_ + ·) (zbT (by assumption)) | exact congrArg (_ + ·) (zbF (by assumption)) | exact congrArg (_ + ·) (zbT (by omega)) | exact congrArg (_ + ·) (zbF (by omega)) | exact congrArg (_ + ·) (if_pos (by omega)).symm | exact congrArg (_ + ·) (if_neg (by omega)).symm | exact (if_pos (by omega)).symm | exact (if_neg (by omega)).symm | exact zsub_s (if_pos (by omega)).symm | exact zsub_s0 (if_neg (by omega)).symm | exact zadd0 (if_neg (by omega)).symm | exact zadd0 (zbF (by omega)) | exact (Int.sub_zero _).symm), zlI rfl (by first | rfl | omega | (push_cast; omega) | exact congrArg (_ + ·) (zbT (by assumption)) | exact congrArg (_ + ·) (zbF (by assumption)) | exact congrArg (_ + ·) (zbT (by omega)) | exact congrArg (_ + ·) (zbF (by omega)) | exact congrArg (_ + ·) (if_pos (by omega)).symm | exact congrArg (_ + ·) (if_neg (by omega)).symm | exact (if_pos (by omega)).symm | exact (if_neg (by omega)).symm | exact zsub_s (if_pos (by omega)).symm | exact zsub_s0 (if_neg (by omega)).symm | exact zadd0 (if_neg (by omega)).symm | exact zadd0 (zbF (by omega)) | exact (Int.sub_zero _).symm), rfl, rfl, rfl, trivial⟩ ih5
  · show zF G mX10_visitorsSince d 5 [(4, zI (b + (((7 - b).toNat : Nat) : Int))), (3, zI (vSn N a b (7 - b).toNat)), (0, zR (B 300)), (1, zI a), (2, zI b)] [] σ _
    refine zF_iload 7 dX10_visitorsSince_5 rfl rfl ?_
    refine zF_bipush 9 dX10_visitorsSince_7 rfl (by decide) ?_
    refine zF_icmp_ge 33 12 dX10_visitorsSince_9 rfl rfl (by first | decide | assumption | exact hb _ | exact mSh_rg hb _ _ | exact zb_rg _ | (constructor <;> omega)) (by first | decide | assumption | exact hb _ | exact mSh_rg hb _ _ | exact zb_rg _ | (constructor <;> omega)) (fun c2 => ?_) (fun c2 => ?_)
    · refine zF_iload_n 34 dX10_visitorsSince_33 rfl rfl ?_
      exact zF_iretP dX10_visitorsSince_34 rfl (rfl)
    · exact absurd c2 (by omega)
theorem zt_X10_screenTakings {a : Int} (hB : cM σ B) (hR : cR N σ B) (hV : mV N) (hW : mW N) (s0 : 0 ≤ a) (s1 : a < N 1) : zP1 G mX10_screenTakings (d + 1) [zR (B 300), zI a] σ (cTake N a) := by
  refine zE_of rfl (by simp [zcat]) (Nat.le_of_ble_eq_true rfl) ?_
  show zF G mX10_screenTakings (d + 1) 0 [(0, zR (B 300)), (1, zI a)] [] σ _
  have hb := hV.b
  have hn := hV.n
  refine zF_aload_n 1 dX10_screenTakings_0 rfl rfl ?_
  refine zF_iload_n 2 dX10_screenTakings_1 rfl rfl ?_
  refine zF_iconst 3 dX10_screenTakings_2 rfl ?_
  refine zF_callVi 6 (d2 := d) (as := [zI a, zI 0]) dX10_screenTakings_3 rfl kX10_70 iX10_visitorsSince (ci := 10) rfl eX10_visitorsSince (Nat.le_refl _) hB.wk.1 hB.wk.2.1 rfl rfl (Nat.le_of_ble_eq_true rfl) (zt_X10_visitorsSince hB hR hV (by omega) (by omega) (by omega) (by omega)) ?_
  refine zF_aload_n 7 dX10_screenTakings_6 rfl rfl ?_
  refine zF_getR 10 dX10_screenTakings_7 rfl gX10_18 hB.wk.1 hB.wk.2.1 hB.wk.2.2.1 ?_
  refine zF_iload_n 11 dX10_screenTakings_10 rfl rfl ?_
  refine zF_callVi 14 (d2 := d) (as := [zI a]) dX10_screenTakings_11 rfl kX10_67 iX1_priceAt (ci := 1) rfl eX1_priceAt (Nat.le_refl _) hB.ch.1 hB.ch.2.1 rfl rfl (Nat.le_of_ble_eq_true rfl) (zt_X1_priceAt hB hR hV hW (by omega) (by omega)) ?_
  refine zF_imul 15 dX10_screenTakings_14 rfl ?_
  exact zF_iretP dX10_screenTakings_15 rfl (rfl)
theorem zt_X10_allTakings  (hB : cM σ B) (hR : cR N σ B) (hV : mV N) (hW : mW N) : zP1 G mX10_allTakings (d + 2) [zR (B 300)] σ (cAllN N (nS N)) := by
  refine zE_of rfl (by simp [zcat]) (Nat.le_of_ble_eq_true rfl) ?_
  show zF G mX10_allTakings (d + 2) 0 [(0, zR (B 300))] [] σ _
  have hb := hV.b
  have hn := hV.n
  have hs := nS_eq hV
  refine zF_iconst 1 dX10_allTakings_0 rfl ?_
  refine zF_istore_n 2 (ls' := [(1, zI 0), (0, zR (B 300))]) dX10_allTakings_1 rfl (by decide) rfl ?_
  refine zF_iconst 3 dX10_allTakings_2 rfl ?_
  refine zF_istore_n 4 (ls' := [(2, zI 0), (1, zI 0), (0, zR (B 300))]) dX10_allTakings_3 rfl (by decide) rfl ?_
  refine zF_locs (ls' := (fun (i : Nat) => [(2, zI (i : Int)), (1, zI (cAllN N i)), (0, zR (B 300))]) 0) ⟨zlI rfl (by first | rfl | omega | (push_cast; omega) | exact congrArg (_ + ·) (zbT (by assumption)) | exact congrArg (_ + ·) (zbF (by assumption)) | exact congrArg (_ + ·) (zbT (by omega)) | exact congrArg (_ + ·) (zbF (by omega)) | exact congrArg (_ + ·) (if_pos (by omega)).symm | exact congrArg (_ + ·) (if_neg (by omega)).symm | exact (if_pos (by omega)).symm | exact (if_neg (by omega)).symm | exact zsub_s (if_pos (by omega)).symm | exact zsub_s0 (if_neg (by omega)).symm | exact zadd0 (if_neg (by omega)).symm | exact zadd0 (zbF (by omega)) | exact (Int.sub_zero _).symm), zlI rfl (by first | rfl | omega | (push_cast; omega) | exact congrArg (_ + ·) (zbT (by assumption)) | exact congrArg (_ + ·) (zbF (by assumption)) | exact congrArg (_ + ·) (zbT (by omega)) | exact congrArg (_ + ·) (zbF (by omega)) | exact congrArg (_ + ·) (if_pos (by omega)).symm | exact congrArg (_ + ·) (if_neg (by omega)).symm | exact (if_pos (by omega)).symm | exact (if_neg (by omega)).symm | exact zsub_s (if_pos (by omega)).symm | exact zsub_s0 (if_neg (by omega)).symm | exact zadd0 (if_neg (by omega)).symm | exact zadd0 (zbF (by omega)) | exact (Int.sub_zero _).symm), rfl, trivial⟩ ?_
  refine zF_loop (n := (nS N)) (fun (i : Nat) => [(2, zI (i : Int)), (1, zI (cAllN N i)), (0, zR (B 300))]) (fun _ => σ) (fun i hi ih4 => ?_) ?_
  · show zF G mX10_allTakings (d + 2) 4 [(2, zI (i : Int)), (1, zI (cAllN N i)), (0, zR (B 300))] [] σ _
    refine zF_iload_n 5 dX10_allTakings_4 rfl rfl ?_
    refine zF_aload_n 6 dX10_allTakings_5 rfl rfl ?_
    refine zF_getR 9 dX10_allTakings_6 rfl gX10_18 hB.wk.1 hB.wk.2.1 hB.wk.2.2.1 ?_
    refine zF_getI 12 dX10_allTakings_9 rfl gX10_26 (by decide) (by decide) hB.ch.1 hB.ch.2.1 hR.c.1.2.1 ?_
    refine zF_icmp_ge 29 15 dX10_allTakings_12 rfl rfl (by first | decide | assumption | exact hb _ | exact mSh_rg hb _ _ | exact zb_rg _ | (constructor <;> omega)) (by first | decide | assumption | exact hb _ | exact mSh_rg hb _ _ | exact zb_rg _ | (constructor <;> omega)) (fun c1 => ?_) (fun c1 => ?_)
    · exact absurd c1 (by omega)
    · refine zF_iload_n 16 dX10_allTakings_15 rfl rfl ?_
      refine zF_aload_n 17 dX10_allTakings_16 rfl rfl ?_
      refine zF_iload_n 18 dX10_allTakings_17 rfl rfl ?_
      refine zF_callVi 21 (d2 := (d + 1)) (as := [zI (i : Int)]) dX10_allTakings_18 rfl kX10_73 iX10_screenTakings (ci := 10) rfl eX10_screenTakings (Nat.le_refl _) hB.wk.1 hB.wk.2.1 rfl rfl (Nat.le_of_ble_eq_true rfl) (zt_X10_screenTakings hB hR hV hW (by omega) (by omega)) ?_
      refine zF_iadd 22 dX10_allTakings_21 rfl ?_
      refine zF_istore_n 23 (ls' := [(1, zI ((cAllN N i) + (cTake N (i : Int)))), (2, zI (i : Int)), (0, zR (B 300))]) dX10_allTakings_22 rfl (by decide) rfl ?_
      refine zF_iinc 26 (ls' := [(2, zI ((i : Int) + 1)), (1, zI ((cAllN N i) + (cTake N (i : Int)))), (0, zR (B 300))]) dX10_allTakings_23 rfl rfl rfl (by decide) rfl ?_
      refine zF_goto 4 dX10_allTakings_26 rfl ?_
      exact zF_locs (ls' := [(2, zI ((i + 1 : Nat) : Int)), (1, zI (cAllN N (i + 1))), (0, zR (B 300))]) ⟨zlI rfl (by first | rfl | omega | (push_cast; omega) | exact congrArg (_ + ·) (zbT (by assumption)) | exact congrArg (_ + ·) (zbF (by assumption)) | exact congrArg (_ + ·) (zbT (by omega)) | exact congrArg (_ + ·) (zbF (by omega)) | exact congrArg (_ + ·) (if_pos (by omega)).symm | exact congrArg (_ + ·) (if_neg (by omega)).symm | exact (if_pos (by omega)).symm | exact (if_neg (by omega)).symm | exact zsub_s (if_pos (by omega)).symm | exact zsub_s0 (if_neg (by omega)).symm | exact zadd0 (if_neg (by omega)).symm | exact zadd0 (zbF (by omega)) | exact (Int.sub_zero _).symm), zlI rfl (by first | rfl | omega | (push_cast; omega) | exact congrArg (_ + ·) (zbT (by assumption)) | exact congrArg (_ + ·) (zbF (by assumption)) | exact congrArg (_ + ·) (zbT (by omega)) | exact congrArg (_ + ·) (zbF (by omega)) | exact congrArg (_ + ·) (if_pos (by omega)).symm | exact congrArg (_ + ·) (if_neg (by omega)).symm | exact (if_pos (by omega)).symm | exact (if_neg (by omega)).symm | exact zsub_s (if_pos (by omega)).symm | exact zsub_s0 (if_neg (by omega)).symm | exact zadd0 (if_neg (by omega)).symm | exact zadd0 (zbF (by omega)) | exact (Int.sub_zero _).symm), rfl, trivial⟩ ih4
  · show zF G mX10_allTakings (d + 2) 4 [(2, zI (((nS N) : Nat) : Int)), (1, zI (cAllN N (nS N))), (0, zR (B 300))] [] σ _
    refine zF_iload_n 5 dX10_allTakings_4 rfl rfl ?_
    refine zF_aload_n 6 dX10_allTakings_5 rfl rfl ?_
    refine zF_getR 9 dX10_allTakings_6 rfl gX10_18 hB.wk.1 hB.wk.2.1 hB.wk.2.2.1 ?_
    refine zF_getI 12 dX10_allTakings_9 rfl gX10_26 (by decide) (by decide) hB.ch.1 hB.ch.2.1 hR.c.1.2.1 ?_
    refine zF_icmp_ge 29 15 dX10_allTakings_12 rfl rfl (by first | decide | assumption | exact hb _ | exact mSh_rg hb _ _ | exact zb_rg _ | (constructor <;> omega)) (by first | decide | assumption | exact hb _ | exact mSh_rg hb _ _ | exact zb_rg _ | (constructor <;> omega)) (fun c2 => ?_) (fun c2 => ?_)
    · refine zF_iload_n 30 dX10_allTakings_29 rfl rfl ?_
      exact zF_iretP dX10_allTakings_30 rfl (rfl)
    · exact absurd c2 (by omega)
theorem zt_X10_houseTakings {h : Int} (hB : cM σ B) (hR : cR N σ B) (hV : mV N) (hW : mW N) (h2 : zrg h) : zP1 G mX10_houseTakings (d + 2) [zR (B 300), zI h] σ (cHouseN N h (nS N)) := by
  refine zE_of rfl (by simp [zcat]) (Nat.le_of_ble_eq_true rfl) ?_
  show zF G mX10_houseTakings (d + 2) 0 [(0, zR (B 300)), (1, zI h)] [] σ _
  have hb := hV.b
  have hn := hV.n
  have hs := nS_eq hV
  refine zF_iconst 1 dX10_houseTakings_0 rfl ?_
  refine zF_istore_n 2 (ls' := [(2, zI 0), (0, zR (B 300)), (1, zI h)]) dX10_houseTakings_1 rfl (by decide) rfl ?_
  refine zF_iconst 3 dX10_houseTakings_2 rfl ?_
  refine zF_istore_n 4 (ls' := [(3, zI 0), (2, zI 0), (0, zR (B 300)), (1, zI h)]) dX10_houseTakings_3 rfl (by decide) rfl ?_
  refine zF_locs (ls' := (fun (i : Nat) => [(3, zI (i : Int)), (2, zI (cHouseN N h i)), (0, zR (B 300)), (1, zI h)]) 0) ⟨zlI rfl (by first | rfl | omega | (push_cast; omega) | exact congrArg (_ + ·) (zbT (by assumption)) | exact congrArg (_ + ·) (zbF (by assumption)) | exact congrArg (_ + ·) (zbT (by omega)) | exact congrArg (_ + ·) (zbF (by omega)) | exact congrArg (_ + ·) (if_pos (by omega)).symm | exact congrArg (_ + ·) (if_neg (by omega)).symm | exact (if_pos (by omega)).symm | exact (if_neg (by omega)).symm | exact zsub_s (if_pos (by omega)).symm | exact zsub_s0 (if_neg (by omega)).symm | exact zadd0 (if_neg (by omega)).symm | exact zadd0 (zbF (by omega)) | exact (Int.sub_zero _).symm), zlI rfl (by first | rfl | omega | (push_cast; omega) | exact congrArg (_ + ·) (zbT (by assumption)) | exact congrArg (_ + ·) (zbF (by assumption)) | exact congrArg (_ + ·) (zbT (by omega)) | exact congrArg (_ + ·) (zbF (by omega)) | exact congrArg (_ + ·) (if_pos (by omega)).symm | exact congrArg (_ + ·) (if_neg (by omega)).symm | exact (if_pos (by omega)).symm | exact (if_neg (by omega)).symm | exact zsub_s (if_pos (by omega)).symm | exact zsub_s0 (if_neg (by omega)).symm | exact zadd0 (if_neg (by omega)).symm | exact zadd0 (zbF (by omega)) | exact (Int.sub_zero _).symm), rfl, rfl, trivial⟩ ?_
  refine zF_loop (n := (nS N)) (fun (i : Nat) => [(3, zI (i : Int)), (2, zI (cHouseN N h i)), (0, zR (B 300)), (1, zI h)]) (fun _ => σ) (fun i hi ih4 => ?_) ?_
  · show zF G mX10_houseTakings (d + 2) 4 [(3, zI (i : Int)), (2, zI (cHouseN N h i)), (0, zR (B 300)), (1, zI h)] [] σ _
    refine zF_iload_n 5 dX10_houseTakings_4 rfl rfl ?_
    refine zF_aload_n 6 dX10_houseTakings_5 rfl rfl ?_
    refine zF_getR 9 dX10_houseTakings_6 rfl gX10_18 hB.wk.1 hB.wk.2.1 hB.wk.2.2.1 ?_
    refine zF_getI 12 dX10_houseTakings_9 rfl gX10_26 (by decide) (by decide) hB.ch.1 hB.ch.2.1 hR.c.1.2.1 ?_
    refine zF_icmp_ge 42 15 dX10_houseTakings_12 rfl rfl (by first | decide | assumption | exact hb _ | exact mSh_rg hb _ _ | exact zb_rg _ | (constructor <;> omega)) (by first | decide | assumption | exact hb _ | exact mSh_rg hb _ _ | exact zb_rg _ | (constructor <;> omega)) (fun c1 => ?_) (fun c1 => ?_)
    · exact absurd c1 (by omega)
    · refine zF_aload_n 16 dX10_houseTakings_15 rfl rfl ?_
      refine zF_getR 19 dX10_houseTakings_16 rfl gX10_18 hB.wk.1 hB.wk.2.1 hB.wk.2.2.1 ?_
      refine zF_getR 22 dX10_houseTakings_19 rfl gX10_64 hB.ch.1 hB.ch.2.1 (cB_104 hB).1 ?_
      refine zF_iload_n 23 dX10_houseTakings_22 rfl rfl ?_
      refine zF_iaload 24 dX10_houseTakings_23 rfl (cB_104 hB).2.2 (cB_104 hB).2.1 (by omega) (by omega) (hR.c.2.2.1 _ (by omega) (by omega)).1 ?_
      refine zF_iload_n 25 dX10_houseTakings_24 rfl rfl ?_
      refine zF_icmp_ne 36 28 dX10_houseTakings_25 rfl rfl (by first | decide | assumption | exact hb _ | exact mSh_rg hb _ _ | exact zb_rg _ | (constructor <;> omega)) (by first | decide | assumption | exact hb _ | exact mSh_rg hb _ _ | exact zb_rg _ | (constructor <;> omega)) (fun c2 => ?_) (fun c2 => ?_)
      · refine zF_iinc 39 (ls' := [(3, zI ((i : Int) + 1)), (2, zI (cHouseN N h i)), (0, zR (B 300)), (1, zI h)]) dX10_houseTakings_36 rfl rfl rfl (by decide) rfl ?_
        refine zF_goto 4 dX10_houseTakings_39 rfl ?_
        exact zF_locs (ls' := [(3, zI ((i + 1 : Nat) : Int)), (2, zI (cHouseN N h (i + 1))), (0, zR (B 300)), (1, zI h)]) ⟨zlI rfl (by first | rfl | omega | (push_cast; omega) | exact congrArg (_ + ·) (zbT (by assumption)) | exact congrArg (_ + ·) (zbF (by assumption)) | exact congrArg (_ + ·) (zbT (by omega)) | exact congrArg (_ + ·) (zbF (by omega)) | exact congrArg (_ + ·) (if_pos (by omega)).symm | exact congrArg (_ + ·) (if_neg (by omega)).symm | exact (if_pos (by omega)).symm | exact (if_neg (by omega)).symm | exact zsub_s (if_pos (by omega)).symm | exact zsub_s0 (if_neg (by omega)).symm | exact zadd0 (if_neg (by omega)).symm | exact zadd0 (zbF (by omega)) | exact (Int.sub_zero _).symm), zlI rfl (by first | rfl | omega | (push_cast; omega) | exact congrArg (_ + ·) (zbT (by assumption)) | exact congrArg (_ + ·) (zbF (by assumption)) | exact congrArg (_ + ·) (zbT (by omega)) | exact congrArg (_ + ·) (zbF (by omega)) | exact congrArg (_ + ·) (if_pos (by omega)).symm | exact congrArg (_ + ·) (if_neg (by omega)).symm | exact (if_pos (by omega)).symm | exact (if_neg (by omega)).symm | exact zsub_s (if_pos (by omega)).symm | exact zsub_s0 (if_neg (by omega)).symm | exact zadd0 (if_neg (by omega)).symm | exact zadd0 (zbF (by omega)) | exact (Int.sub_zero _).symm), rfl, rfl, trivial⟩ ih4
      · refine zF_iload_n 29 dX10_houseTakings_28 rfl rfl ?_
        refine zF_aload_n 30 dX10_houseTakings_29 rfl rfl ?_
        refine zF_iload_n 31 dX10_houseTakings_30 rfl rfl ?_
        refine zF_callVi 34 (d2 := (d + 1)) (as := [zI (i : Int)]) dX10_houseTakings_31 rfl kX10_73 iX10_screenTakings (ci := 10) rfl eX10_screenTakings (Nat.le_refl _) hB.wk.1 hB.wk.2.1 rfl rfl (Nat.le_of_ble_eq_true rfl) (zt_X10_screenTakings hB hR hV hW (by omega) (by omega)) ?_
        refine zF_iadd 35 dX10_houseTakings_34 rfl ?_
        refine zF_istore_n 36 (ls' := [(2, zI ((cHouseN N h i) + (cTake N (i : Int)))), (3, zI (i : Int)), (0, zR (B 300)), (1, zI h)]) dX10_houseTakings_35 rfl (by decide) rfl ?_
        refine zF_iinc 39 (ls' := [(3, zI ((i : Int) + 1)), (2, zI ((cHouseN N h i) + (cTake N (i : Int)))), (0, zR (B 300)), (1, zI h)]) dX10_houseTakings_36 rfl rfl rfl (by decide) rfl ?_
        refine zF_goto 4 dX10_houseTakings_39 rfl ?_
        exact zF_locs (ls' := [(3, zI ((i + 1 : Nat) : Int)), (2, zI (cHouseN N h (i + 1))), (0, zR (B 300)), (1, zI h)]) ⟨zlI rfl (by first | rfl | omega | (push_cast; omega) | exact congrArg (_ + ·) (zbT (by assumption)) | exact congrArg (_ + ·) (zbF (by assumption)) | exact congrArg (_ + ·) (zbT (by omega)) | exact congrArg (_ + ·) (zbF (by omega)) | exact congrArg (_ + ·) (if_pos (by omega)).symm | exact congrArg (_ + ·) (if_neg (by omega)).symm | exact (if_pos (by omega)).symm | exact (if_neg (by omega)).symm | exact zsub_s (if_pos (by omega)).symm | exact zsub_s0 (if_neg (by omega)).symm | exact zadd0 (if_neg (by omega)).symm | exact zadd0 (zbF (by omega)) | exact (Int.sub_zero _).symm), zlI rfl (by first | rfl | omega | (push_cast; omega) | exact congrArg (_ + ·) (zbT (by assumption)) | exact congrArg (_ + ·) (zbF (by assumption)) | exact congrArg (_ + ·) (zbT (by omega)) | exact congrArg (_ + ·) (zbF (by omega)) | exact congrArg (_ + ·) (if_pos (by omega)).symm | exact congrArg (_ + ·) (if_neg (by omega)).symm | exact (if_pos (by omega)).symm | exact (if_neg (by omega)).symm | exact zsub_s (if_pos (by omega)).symm | exact zsub_s0 (if_neg (by omega)).symm | exact zadd0 (if_neg (by omega)).symm | exact zadd0 (zbF (by omega)) | exact (Int.sub_zero _).symm), rfl, rfl, trivial⟩ ih4
  · show zF G mX10_houseTakings (d + 2) 4 [(3, zI (((nS N) : Nat) : Int)), (2, zI (cHouseN N h (nS N))), (0, zR (B 300)), (1, zI h)] [] σ _
    refine zF_iload_n 5 dX10_houseTakings_4 rfl rfl ?_
    refine zF_aload_n 6 dX10_houseTakings_5 rfl rfl ?_
    refine zF_getR 9 dX10_houseTakings_6 rfl gX10_18 hB.wk.1 hB.wk.2.1 hB.wk.2.2.1 ?_
    refine zF_getI 12 dX10_houseTakings_9 rfl gX10_26 (by decide) (by decide) hB.ch.1 hB.ch.2.1 hR.c.1.2.1 ?_
    refine zF_icmp_ge 42 15 dX10_houseTakings_12 rfl rfl (by first | decide | assumption | exact hb _ | exact mSh_rg hb _ _ | exact zb_rg _ | (constructor <;> omega)) (by first | decide | assumption | exact hb _ | exact mSh_rg hb _ _ | exact zb_rg _ | (constructor <;> omega)) (fun c3 => ?_) (fun c3 => ?_)
    · refine zF_iload_n 43 dX10_houseTakings_42 rfl rfl ?_
      exact zF_iretP dX10_houseTakings_43 rfl (rfl)
    · exact absurd c3 (by omega)
theorem zt_X10_houseRents {h : Int} (hB : cM σ B) (hR : cR N σ B) (hV : mV N) (h2 : zrg h) : zP1 G mX10_houseRents d [zR (B 300), zI h] σ (cRentN N h (nS N)) := by
  refine zE_of rfl (by simp [zcat]) (Nat.le_of_ble_eq_true rfl) ?_
  show zF G mX10_houseRents d 0 [(0, zR (B 300)), (1, zI h)] [] σ _
  have hb := hV.b
  have hn := hV.n
  have hs := nS_eq hV
  refine zF_iconst 1 dX10_houseRents_0 rfl ?_
  refine zF_istore_n 2 (ls' := [(2, zI 0), (0, zR (B 300)), (1, zI h)]) dX10_houseRents_1 rfl (by decide) rfl ?_
  refine zF_iconst 3 dX10_houseRents_2 rfl ?_
  refine zF_istore_n 4 (ls' := [(3, zI 0), (2, zI 0), (0, zR (B 300)), (1, zI h)]) dX10_houseRents_3 rfl (by decide) rfl ?_
  refine zF_locs (ls' := (fun (i : Nat) => [(3, zI (i : Int)), (2, zI (cRentN N h i)), (0, zR (B 300)), (1, zI h)]) 0) ⟨zlI rfl (by first | rfl | omega | (push_cast; omega) | exact congrArg (_ + ·) (zbT (by assumption)) | exact congrArg (_ + ·) (zbF (by assumption)) | exact congrArg (_ + ·) (zbT (by omega)) | exact congrArg (_ + ·) (zbF (by omega)) | exact congrArg (_ + ·) (if_pos (by omega)).symm | exact congrArg (_ + ·) (if_neg (by omega)).symm | exact (if_pos (by omega)).symm | exact (if_neg (by omega)).symm | exact zsub_s (if_pos (by omega)).symm | exact zsub_s0 (if_neg (by omega)).symm | exact zadd0 (if_neg (by omega)).symm | exact zadd0 (zbF (by omega)) | exact (Int.sub_zero _).symm), zlI rfl (by first | rfl | omega | (push_cast; omega) | exact congrArg (_ + ·) (zbT (by assumption)) | exact congrArg (_ + ·) (zbF (by assumption)) | exact congrArg (_ + ·) (zbT (by omega)) | exact congrArg (_ + ·) (zbF (by omega)) | exact congrArg (_ + ·) (if_pos (by omega)).symm | exact congrArg (_ + ·) (if_neg (by omega)).symm | exact (if_pos (by omega)).symm | exact (if_neg (by omega)).symm | exact zsub_s (if_pos (by omega)).symm | exact zsub_s0 (if_neg (by omega)).symm | exact zadd0 (if_neg (by omega)).symm | exact zadd0 (zbF (by omega)) | exact (Int.sub_zero _).symm), rfl, rfl, trivial⟩ ?_
  refine zF_loop (n := (nS N)) (fun (i : Nat) => [(3, zI (i : Int)), (2, zI (cRentN N h i)), (0, zR (B 300)), (1, zI h)]) (fun _ => σ) (fun i hi ih4 => ?_) ?_
  · show zF G mX10_houseRents d 4 [(3, zI (i : Int)), (2, zI (cRentN N h i)), (0, zR (B 300)), (1, zI h)] [] σ _
    refine zF_iload_n 5 dX10_houseRents_4 rfl rfl ?_
    refine zF_aload_n 6 dX10_houseRents_5 rfl rfl ?_
    refine zF_getR 9 dX10_houseRents_6 rfl gX10_18 hB.wk.1 hB.wk.2.1 hB.wk.2.2.1 ?_
    refine zF_getI 12 dX10_houseRents_9 rfl gX10_26 (by decide) (by decide) hB.ch.1 hB.ch.2.1 hR.c.1.2.1 ?_
    refine zF_icmp_ge 46 15 dX10_houseRents_12 rfl rfl (by first | decide | assumption | exact hb _ | exact mSh_rg hb _ _ | exact zb_rg _ | (constructor <;> omega)) (by first | decide | assumption | exact hb _ | exact mSh_rg hb _ _ | exact zb_rg _ | (constructor <;> omega)) (fun c1 => ?_) (fun c1 => ?_)
    · exact absurd c1 (by omega)
    · refine zF_aload_n 16 dX10_houseRents_15 rfl rfl ?_
      refine zF_getR 19 dX10_houseRents_16 rfl gX10_18 hB.wk.1 hB.wk.2.1 hB.wk.2.2.1 ?_
      refine zF_getR 22 dX10_houseRents_19 rfl gX10_64 hB.ch.1 hB.ch.2.1 (cB_104 hB).1 ?_
      refine zF_iload_n 23 dX10_houseRents_22 rfl rfl ?_
      refine zF_iaload 24 dX10_houseRents_23 rfl (cB_104 hB).2.2 (cB_104 hB).2.1 (by omega) (by omega) (hR.c.2.2.1 _ (by omega) (by omega)).1 ?_
      refine zF_iload_n 25 dX10_houseRents_24 rfl rfl ?_
      refine zF_icmp_ne 40 28 dX10_houseRents_25 rfl rfl (by first | decide | assumption | exact hb _ | exact mSh_rg hb _ _ | exact zb_rg _ | (constructor <;> omega)) (by first | decide | assumption | exact hb _ | exact mSh_rg hb _ _ | exact zb_rg _ | (constructor <;> omega)) (fun c2 => ?_) (fun c2 => ?_)
      · refine zF_iinc 43 (ls' := [(3, zI ((i : Int) + 1)), (2, zI (cRentN N h i)), (0, zR (B 300)), (1, zI h)]) dX10_houseRents_40 rfl rfl rfl (by decide) rfl ?_
        refine zF_goto 4 dX10_houseRents_43 rfl ?_
        exact zF_locs (ls' := [(3, zI ((i + 1 : Nat) : Int)), (2, zI (cRentN N h (i + 1))), (0, zR (B 300)), (1, zI h)]) ⟨zlI rfl (by first | rfl | omega | (push_cast; omega) | exact congrArg (_ + ·) (zbT (by assumption)) | exact congrArg (_ + ·) (zbF (by assumption)) | exact congrArg (_ + ·) (zbT (by omega)) | exact congrArg (_ + ·) (zbF (by omega)) | exact congrArg (_ + ·) (if_pos (by omega)).symm | exact congrArg (_ + ·) (if_neg (by omega)).symm | exact (if_pos (by omega)).symm | exact (if_neg (by omega)).symm | exact zsub_s (if_pos (by omega)).symm | exact zsub_s0 (if_neg (by omega)).symm | exact zadd0 (if_neg (by omega)).symm | exact zadd0 (zbF (by omega)) | exact (Int.sub_zero _).symm), zlI rfl (by first | rfl | omega | (push_cast; omega) | exact congrArg (_ + ·) (zbT (by assumption)) | exact congrArg (_ + ·) (zbF (by assumption)) | exact congrArg (_ + ·) (zbT (by omega)) | exact congrArg (_ + ·) (zbF (by omega)) | exact congrArg (_ + ·) (if_pos (by omega)).symm | exact congrArg (_ + ·) (if_neg (by omega)).symm | exact (if_pos (by omega)).symm | exact (if_neg (by omega)).symm | exact zsub_s (if_pos (by omega)).symm | exact zsub_s0 (if_neg (by omega)).symm | exact zadd0 (if_neg (by omega)).symm | exact zadd0 (zbF (by omega)) | exact (Int.sub_zero _).symm), rfl, rfl, trivial⟩ ih4
      · refine zF_iload_n 29 dX10_houseRents_28 rfl rfl ?_
        refine zF_aload_n 30 dX10_houseRents_29 rfl rfl ?_
        refine zF_getR 33 dX10_houseRents_30 rfl gX10_22 hB.wk.1 hB.wk.2.1 hB.wk.2.2.2.1 ?_
        refine zF_getR 36 dX10_houseRents_33 rfl gX10_76 hB.st.1 hB.st.2.1 (cB_204 hB).1 ?_
        refine zF_iload_n 37 dX10_houseRents_36 rfl rfl ?_
        refine zF_iaload 38 dX10_houseRents_37 rfl (cB_204 hB).2.2 (cB_204 hB).2.1 (by omega) (by omega) (hR.s.2.2.1 _ (by omega) (by omega)).1 ?_
        refine zF_iadd 39 dX10_houseRents_38 rfl ?_
        refine zF_istore_n 40 (ls' := [(2, zI ((cRentN N h i) + (mS N (i : Int) 3))), (3, zI (i : Int)), (0, zR (B 300)), (1, zI h)]) dX10_houseRents_39 rfl (by decide) rfl ?_
        refine zF_iinc 43 (ls' := [(3, zI ((i : Int) + 1)), (2, zI ((cRentN N h i) + (mS N (i : Int) 3))), (0, zR (B 300)), (1, zI h)]) dX10_houseRents_40 rfl rfl rfl (by decide) rfl ?_
        refine zF_goto 4 dX10_houseRents_43 rfl ?_
        exact zF_locs (ls' := [(3, zI ((i + 1 : Nat) : Int)), (2, zI (cRentN N h (i + 1))), (0, zR (B 300)), (1, zI h)]) ⟨zlI rfl (by first | rfl | omega | (push_cast; omega) | exact congrArg (_ + ·) (zbT (by assumption)) | exact congrArg (_ + ·) (zbF (by assumption)) | exact congrArg (_ + ·) (zbT (by omega)) | exact congrArg (_ + ·) (zbF (by omega)) | exact congrArg (_ + ·) (if_pos (by omega)).symm | exact congrArg (_ + ·) (if_neg (by omega)).symm | exact (if_pos (by omega)).symm | exact (if_neg (by omega)).symm | exact zsub_s (if_pos (by omega)).symm | exact zsub_s0 (if_neg (by omega)).symm | exact zadd0 (if_neg (by omega)).symm | exact zadd0 (zbF (by omega)) | exact (Int.sub_zero _).symm), zlI rfl (by first | rfl | omega | (push_cast; omega) | exact congrArg (_ + ·) (zbT (by assumption)) | exact congrArg (_ + ·) (zbF (by assumption)) | exact congrArg (_ + ·) (zbT (by omega)) | exact congrArg (_ + ·) (zbF (by omega)) | exact congrArg (_ + ·) (if_pos (by omega)).symm | exact congrArg (_ + ·) (if_neg (by omega)).symm | exact (if_pos (by omega)).symm | exact (if_neg (by omega)).symm | exact zsub_s (if_pos (by omega)).symm | exact zsub_s0 (if_neg (by omega)).symm | exact zadd0 (if_neg (by omega)).symm | exact zadd0 (zbF (by omega)) | exact (Int.sub_zero _).symm), rfl, rfl, trivial⟩ ih4
  · show zF G mX10_houseRents d 4 [(3, zI (((nS N) : Nat) : Int)), (2, zI (cRentN N h (nS N))), (0, zR (B 300)), (1, zI h)] [] σ _
    refine zF_iload_n 5 dX10_houseRents_4 rfl rfl ?_
    refine zF_aload_n 6 dX10_houseRents_5 rfl rfl ?_
    refine zF_getR 9 dX10_houseRents_6 rfl gX10_18 hB.wk.1 hB.wk.2.1 hB.wk.2.2.1 ?_
    refine zF_getI 12 dX10_houseRents_9 rfl gX10_26 (by decide) (by decide) hB.ch.1 hB.ch.2.1 hR.c.1.2.1 ?_
    refine zF_icmp_ge 46 15 dX10_houseRents_12 rfl rfl (by first | decide | assumption | exact hb _ | exact mSh_rg hb _ _ | exact zb_rg _ | (constructor <;> omega)) (by first | decide | assumption | exact hb _ | exact mSh_rg hb _ _ | exact zb_rg _ | (constructor <;> omega)) (fun c3 => ?_) (fun c3 => ?_)
    · refine zF_iload_n 47 dX10_houseRents_46 rfl rfl ?_
      exact zF_iretP dX10_houseRents_47 rfl (rfl)
    · exact absurd c3 (by omega)
theorem zt_X10_filmVisitorsOn {a f : Int} (hB : cM σ B) (hR : cR N σ B) (hV : mV N) (hX : mX N) (s0 : 0 ≤ a) (s1 : a < N 1) (h2 : zrg f) : zP1 G mX10_filmVisitorsOn (d + 1) [zR (B 300), zI a, zI f] σ (cFvN N a f 7) := by
  refine zE_of rfl (by simp [zcat]) (Nat.le_of_ble_eq_true rfl) ?_
  show zF G mX10_filmVisitorsOn (d + 1) 0 [(0, zR (B 300)), (1, zI a), (2, zI f)] [] σ _
  have hb := hV.b
  have hn := hV.n
  refine zF_iconst 1 dX10_filmVisitorsOn_0 rfl ?_
  refine zF_istore_n 2 (ls' := [(3, zI 0), (0, zR (B 300)), (1, zI a), (2, zI f)]) dX10_filmVisitorsOn_1 rfl (by decide) rfl ?_
  refine zF_iconst 3 dX10_filmVisitorsOn_2 rfl ?_
  refine zF_istore 5 (ls' := [(4, zI 0), (3, zI 0), (0, zR (B 300)), (1, zI a), (2, zI f)]) dX10_filmVisitorsOn_3 rfl (by decide) rfl ?_
  refine zF_locs (ls' := (fun (i : Nat) => [(4, zI (i : Int)), (3, zI (cFvN N a f i)), (0, zR (B 300)), (1, zI a), (2, zI f)]) 0) ⟨zlI rfl (by first | rfl | omega | (push_cast; omega) | exact congrArg (_ + ·) (zbT (by assumption)) | exact congrArg (_ + ·) (zbF (by assumption)) | exact congrArg (_ + ·) (zbT (by omega)) | exact congrArg (_ + ·) (zbF (by omega)) | exact congrArg (_ + ·) (if_pos (by omega)).symm | exact congrArg (_ + ·) (if_neg (by omega)).symm | exact (if_pos (by omega)).symm | exact (if_neg (by omega)).symm | exact zsub_s (if_pos (by omega)).symm | exact zsub_s0 (if_neg (by omega)).symm | exact zadd0 (if_neg (by omega)).symm | exact zadd0 (zbF (by omega)) | exact (Int.sub_zero _).symm), zlI rfl (by first | rfl | omega | (push_cast; omega) | exact congrArg (_ + ·) (zbT (by assumption)) | exact congrArg (_ + ·) (zbF (by assumption)) | exact congrArg (_ + ·) (zbT (by omega)) | exact congrArg (_ + ·) (zbF (by omega)) | exact congrArg (_ + ·) (if_pos (by omega)).symm | exact congrArg (_ + ·) (if_neg (by omega)).symm | exact (if_pos (by omega)).symm | exact (if_neg (by omega)).symm | exact zsub_s (if_pos (by omega)).symm | exact zsub_s0 (if_neg (by omega)).symm | exact zadd0 (if_neg (by omega)).symm | exact zadd0 (zbF (by omega)) | exact (Int.sub_zero _).symm), rfl, rfl, rfl, trivial⟩ ?_
  refine zF_loop (n := 7) (fun (i : Nat) => [(4, zI (i : Int)), (3, zI (cFvN N a f i)), (0, zR (B 300)), (1, zI a), (2, zI f)]) (fun _ => σ) (fun i hi ih5 => ?_) ?_
  · show zF G mX10_filmVisitorsOn (d + 1) 5 [(4, zI (i : Int)), (3, zI (cFvN N a f i)), (0, zR (B 300)), (1, zI a), (2, zI f)] [] σ _
    refine zF_iload 7 dX10_filmVisitorsOn_5 rfl rfl ?_
    refine zF_bipush 9 dX10_filmVisitorsOn_7 rfl (by decide) ?_
    refine zF_icmp_ge 42 12 dX10_filmVisitorsOn_9 rfl rfl (by first | decide | assumption | exact hb _ | exact mSh_rg hb _ _ | exact zb_rg _ | (constructor <;> omega)) (by first | decide | assumption | exact hb _ | exact mSh_rg hb _ _ | exact zb_rg _ | (constructor <;> omega)) (fun c1 => ?_) (fun c1 => ?_)
    · exact absurd c1 (by omega)
    · refine zF_aload_n 13 dX10_filmVisitorsOn_12 rfl rfl ?_
      refine zF_getR 16 dX10_filmVisitorsOn_13 rfl gX10_22 hB.wk.1 hB.wk.2.1 hB.wk.2.2.2.1 ?_
      refine zF_iload_n 17 dX10_filmVisitorsOn_16 rfl rfl ?_
      refine zF_iload 19 dX10_filmVisitorsOn_17 rfl rfl ?_
      refine zF_callVi 22 (d2 := d) (as := [zI a, zI (i : Int)]) dX10_filmVisitorsOn_19 rfl kX10_32 iX8_filmOn (ci := 8) rfl eX8_filmOn (Nat.le_refl _) hB.st.1 hB.st.2.1 rfl rfl (Nat.le_of_ble_eq_true rfl) (zt_X8_filmOn hB hR hV hX (by omega) (by omega) (by first | decide | assumption | exact hb _ | exact mSh_rg hb _ _ | exact zb_rg _ | (constructor <;> omega))) ?_
      refine zF_iload_n 23 dX10_filmVisitorsOn_22 rfl rfl ?_
      refine zF_icmp_ne 36 26 dX10_filmVisitorsOn_23 rfl rfl (by first | decide | assumption | exact hb _ | exact mSh_rg hb _ _ | exact zb_rg _ | (constructor <;> omega)) (by first | decide | assumption | exact hb _ | exact mSh_rg hb _ _ | exact zb_rg _ | (constructor <;> omega)) (fun c2 => ?_) (fun c2 => ?_)
      · refine zF_iinc 39 (ls' := [(4, zI ((i : Int) + 1)), (3, zI (cFvN N a f i)), (0, zR (B 300)), (1, zI a), (2, zI f)]) dX10_filmVisitorsOn_36 rfl rfl rfl (by decide) rfl ?_
        refine zF_goto 5 dX10_filmVisitorsOn_39 rfl ?_
        exact zF_locs (ls' := [(4, zI ((i + 1 : Nat) : Int)), (3, zI (cFvN N a f (i + 1))), (0, zR (B 300)), (1, zI a), (2, zI f)]) ⟨zlI rfl (by first | rfl | omega | (push_cast; omega) | exact congrArg (_ + ·) (zbT (by assumption)) | exact congrArg (_ + ·) (zbF (by assumption)) | exact congrArg (_ + ·) (zbT (by omega)) | exact congrArg (_ + ·) (zbF (by omega)) | exact congrArg (_ + ·) (if_pos (by omega)).symm | exact congrArg (_ + ·) (if_neg (by omega)).symm | exact (if_pos (by omega)).symm | exact (if_neg (by omega)).symm | exact zsub_s (if_pos (by omega)).symm | exact zsub_s0 (if_neg (by omega)).symm | exact zadd0 (if_neg (by omega)).symm | exact zadd0 (zbF (by omega)) | exact (Int.sub_zero _).symm), zlI rfl (by first | rfl | omega | (push_cast; omega) | exact congrArg (_ + ·) (zbT (by assumption)) | exact congrArg (_ + ·) (zbF (by assumption)) | exact congrArg (_ + ·) (zbT (by omega)) | exact congrArg (_ + ·) (zbF (by omega)) | exact congrArg (_ + ·) (if_pos (by omega)).symm | exact congrArg (_ + ·) (if_neg (by omega)).symm | exact (if_pos (by omega)).symm | exact (if_neg (by omega)).symm | exact zsub_s (if_pos (by omega)).symm | exact zsub_s0 (if_neg (by omega)).symm | exact zadd0 (if_neg (by omega)).symm | exact zadd0 (zbF (by omega)) | exact (Int.sub_zero _).symm), rfl, rfl, rfl, trivial⟩ ih5
      · refine zF_iload_n 27 dX10_filmVisitorsOn_26 rfl rfl ?_
        refine zF_aload_n 28 dX10_filmVisitorsOn_27 rfl rfl ?_
        refine zF_iload_n 29 dX10_filmVisitorsOn_28 rfl rfl ?_
        refine zF_iload 31 dX10_filmVisitorsOn_29 rfl rfl ?_
        refine zF_callVi 34 (d2 := d) (as := [zI a, zI (i : Int)]) dX10_filmVisitorsOn_31 rfl kX10_85 iX10_visitorsOn (ci := 10) rfl eX10_visitorsOn (Nat.le_refl _) hB.wk.1 hB.wk.2.1 rfl rfl (Nat.le_of_ble_eq_true rfl) (zt_X10_visitorsOn hB hR hV (by omega) (by omega) (by omega) (by omega)) ?_
        refine zF_iadd 35 dX10_filmVisitorsOn_34 rfl ?_
        refine zF_istore_n 36 (ls' := [(3, zI ((cFvN N a f i) + (gv N a (i : Int)))), (4, zI (i : Int)), (0, zR (B 300)), (1, zI a), (2, zI f)]) dX10_filmVisitorsOn_35 rfl (by decide) rfl ?_
        refine zF_iinc 39 (ls' := [(4, zI ((i : Int) + 1)), (3, zI ((cFvN N a f i) + (gv N a (i : Int)))), (0, zR (B 300)), (1, zI a), (2, zI f)]) dX10_filmVisitorsOn_36 rfl rfl rfl (by decide) rfl ?_
        refine zF_goto 5 dX10_filmVisitorsOn_39 rfl ?_
        exact zF_locs (ls' := [(4, zI ((i + 1 : Nat) : Int)), (3, zI (cFvN N a f (i + 1))), (0, zR (B 300)), (1, zI a), (2, zI f)]) ⟨zlI rfl (by first | rfl | omega | (push_cast; omega) | exact congrArg (_ + ·) (zbT (by assumption)) | exact congrArg (_ + ·) (zbF (by assumption)) | exact congrArg (_ + ·) (zbT (by omega)) | exact congrArg (_ + ·) (zbF (by omega)) | exact congrArg (_ + ·) (if_pos (by omega)).symm | exact congrArg (_ + ·) (if_neg (by omega)).symm | exact (if_pos (by omega)).symm | exact (if_neg (by omega)).symm | exact zsub_s (if_pos (by omega)).symm | exact zsub_s0 (if_neg (by omega)).symm | exact zadd0 (if_neg (by omega)).symm | exact zadd0 (zbF (by omega)) | exact (Int.sub_zero _).symm), zlI rfl (by first | rfl | omega | (push_cast; omega) | exact congrArg (_ + ·) (zbT (by assumption)) | exact congrArg (_ + ·) (zbF (by assumption)) | exact congrArg (_ + ·) (zbT (by omega)) | exact congrArg (_ + ·) (zbF (by omega)) | exact congrArg (_ + ·) (if_pos (by omega)).symm | exact congrArg (_ + ·) (if_neg (by omega)).symm | exact (if_pos (by omega)).symm | exact (if_neg (by omega)).symm | exact zsub_s (if_pos (by omega)).symm | exact zsub_s0 (if_neg (by omega)).symm | exact zadd0 (if_neg (by omega)).symm | exact zadd0 (zbF (by omega)) | exact (Int.sub_zero _).symm), rfl, rfl, rfl, trivial⟩ ih5
  · show zF G mX10_filmVisitorsOn (d + 1) 5 [(4, zI ((7 : Nat) : Int)), (3, zI (cFvN N a f 7)), (0, zR (B 300)), (1, zI a), (2, zI f)] [] σ _
    refine zF_iload 7 dX10_filmVisitorsOn_5 rfl rfl ?_
    refine zF_bipush 9 dX10_filmVisitorsOn_7 rfl (by decide) ?_
    refine zF_icmp_ge 42 12 dX10_filmVisitorsOn_9 rfl rfl (by first | decide | assumption | exact hb _ | exact mSh_rg hb _ _ | exact zb_rg _ | (constructor <;> omega)) (by first | decide | assumption | exact hb _ | exact mSh_rg hb _ _ | exact zb_rg _ | (constructor <;> omega)) (fun c3 => ?_) (fun c3 => ?_)
    · refine zF_iload_n 43 dX10_filmVisitorsOn_42 rfl rfl ?_
      exact zF_iretP dX10_filmVisitorsOn_43 rfl (rfl)
    · exact absurd c3 (by omega)
theorem zt_X10_filmTakingsIn {h f : Int} (hB : cM σ B) (hR : cR N σ B) (hV : mV N) (hX : mX N) (a0 : 0 ≤ h) (a1 : h < N 0) (h2 : zrg f) : zP1 G mX10_filmTakingsIn (d + 2) [zR (B 300), zI h, zI f] σ (cFi N h f) := by
  refine zE_of rfl (by simp [zcat]) (Nat.le_of_ble_eq_true rfl) ?_
  show zF G mX10_filmTakingsIn (d + 2) 0 [(0, zR (B 300)), (1, zI h), (2, zI f)] [] σ _
  have hb := hV.b
  have hn := hV.n
  have hs := nS_eq hV
  refine zF_iconst 1 dX10_filmTakingsIn_0 rfl ?_
  refine zF_istore_n 2 (ls' := [(3, zI 0), (0, zR (B 300)), (1, zI h), (2, zI f)]) dX10_filmTakingsIn_1 rfl (by decide) rfl ?_
  refine zF_iconst 3 dX10_filmTakingsIn_2 rfl ?_
  refine zF_istore 5 (ls' := [(4, zI 0), (3, zI 0), (0, zR (B 300)), (1, zI h), (2, zI f)]) dX10_filmTakingsIn_3 rfl (by decide) rfl ?_
  refine zF_locs (ls' := (fun (i : Nat) => [(4, zI (i : Int)), (3, zI (cFiN N h f i)), (0, zR (B 300)), (1, zI h), (2, zI f)]) 0) ⟨zlI rfl (by first | rfl | omega | (push_cast; omega) | exact congrArg (_ + ·) (zbT (by assumption)) | exact congrArg (_ + ·) (zbF (by assumption)) | exact congrArg (_ + ·) (zbT (by omega)) | exact congrArg (_ + ·) (zbF (by omega)) | exact congrArg (_ + ·) (if_pos (by omega)).symm | exact congrArg (_ + ·) (if_neg (by omega)).symm | exact (if_pos (by omega)).symm | exact (if_neg (by omega)).symm | exact zsub_s (if_pos (by omega)).symm | exact zsub_s0 (if_neg (by omega)).symm | exact zadd0 (if_neg (by omega)).symm | exact zadd0 (zbF (by omega)) | exact (Int.sub_zero _).symm), zlI rfl (by first | rfl | omega | (push_cast; omega) | exact congrArg (_ + ·) (zbT (by assumption)) | exact congrArg (_ + ·) (zbF (by assumption)) | exact congrArg (_ + ·) (zbT (by omega)) | exact congrArg (_ + ·) (zbF (by omega)) | exact congrArg (_ + ·) (if_pos (by omega)).symm | exact congrArg (_ + ·) (if_neg (by omega)).symm | exact (if_pos (by omega)).symm | exact (if_neg (by omega)).symm | exact zsub_s (if_pos (by omega)).symm | exact zsub_s0 (if_neg (by omega)).symm | exact zadd0 (if_neg (by omega)).symm | exact zadd0 (zbF (by omega)) | exact (Int.sub_zero _).symm), rfl, rfl, rfl, trivial⟩ ?_
  refine zF_loop (n := (nS N)) (fun (i : Nat) => [(4, zI (i : Int)), (3, zI (cFiN N h f i)), (0, zR (B 300)), (1, zI h), (2, zI f)]) (fun _ => σ) (fun i hi ih5 => ?_) ?_
  · show zF G mX10_filmTakingsIn (d + 2) 5 [(4, zI (i : Int)), (3, zI (cFiN N h f i)), (0, zR (B 300)), (1, zI h), (2, zI f)] [] σ _
    refine zF_iload 7 dX10_filmTakingsIn_5 rfl rfl ?_
    refine zF_aload_n 8 dX10_filmTakingsIn_7 rfl rfl ?_
    refine zF_getR 11 dX10_filmTakingsIn_8 rfl gX10_18 hB.wk.1 hB.wk.2.1 hB.wk.2.2.1 ?_
    refine zF_getI 14 dX10_filmTakingsIn_11 rfl gX10_26 (by decide) (by decide) hB.ch.1 hB.ch.2.1 hR.c.1.2.1 ?_
    refine zF_icmp_ge 47 17 dX10_filmTakingsIn_14 rfl rfl (by first | decide | assumption | exact hb _ | exact mSh_rg hb _ _ | exact zb_rg _ | (constructor <;> omega)) (by first | decide | assumption | exact hb _ | exact mSh_rg hb _ _ | exact zb_rg _ | (constructor <;> omega)) (fun c1 => ?_) (fun c1 => ?_)
    · exact absurd c1 (by omega)
    · refine zF_aload_n 18 dX10_filmTakingsIn_17 rfl rfl ?_
      refine zF_getR 21 dX10_filmTakingsIn_18 rfl gX10_18 hB.wk.1 hB.wk.2.1 hB.wk.2.2.1 ?_
      refine zF_getR 24 dX10_filmTakingsIn_21 rfl gX10_64 hB.ch.1 hB.ch.2.1 (cB_104 hB).1 ?_
      refine zF_iload 26 dX10_filmTakingsIn_24 rfl rfl ?_
      refine zF_iaload 27 dX10_filmTakingsIn_26 rfl (cB_104 hB).2.2 (cB_104 hB).2.1 (by omega) (by omega) (hR.c.2.2.1 _ (by omega) (by omega)).1 ?_
      refine zF_iload_n 28 dX10_filmTakingsIn_27 rfl rfl ?_
      refine zF_icmp_ne 41 31 dX10_filmTakingsIn_28 rfl rfl (by first | decide | assumption | exact hb _ | exact mSh_rg hb _ _ | exact zb_rg _ | (constructor <;> omega)) (by first | decide | assumption | exact hb _ | exact mSh_rg hb _ _ | exact zb_rg _ | (constructor <;> omega)) (fun c2 => ?_) (fun c2 => ?_)
      · refine zF_iinc 44 (ls' := [(4, zI ((i : Int) + 1)), (3, zI (cFiN N h f i)), (0, zR (B 300)), (1, zI h), (2, zI f)]) dX10_filmTakingsIn_41 rfl rfl rfl (by decide) rfl ?_
        refine zF_goto 5 dX10_filmTakingsIn_44 rfl ?_
        exact zF_locs (ls' := [(4, zI ((i + 1 : Nat) : Int)), (3, zI (cFiN N h f (i + 1))), (0, zR (B 300)), (1, zI h), (2, zI f)]) ⟨zlI rfl (by first | rfl | omega | (push_cast; omega) | exact congrArg (_ + ·) (zbT (by assumption)) | exact congrArg (_ + ·) (zbF (by assumption)) | exact congrArg (_ + ·) (zbT (by omega)) | exact congrArg (_ + ·) (zbF (by omega)) | exact congrArg (_ + ·) (if_pos (by omega)).symm | exact congrArg (_ + ·) (if_neg (by omega)).symm | exact (if_pos (by omega)).symm | exact (if_neg (by omega)).symm | exact zsub_s (if_pos (by omega)).symm | exact zsub_s0 (if_neg (by omega)).symm | exact zadd0 (if_neg (by omega)).symm | exact zadd0 (zbF (by omega)) | exact (Int.sub_zero _).symm), zlI rfl (by first | rfl | omega | (push_cast; omega) | exact congrArg (_ + ·) (zbT (by assumption)) | exact congrArg (_ + ·) (zbF (by assumption)) | exact congrArg (_ + ·) (zbT (by omega)) | exact congrArg (_ + ·) (zbF (by omega)) | exact congrArg (_ + ·) (if_pos (by omega)).symm | exact congrArg (_ + ·) (if_neg (by omega)).symm | exact (if_pos (by omega)).symm | exact (if_neg (by omega)).symm | exact zsub_s (if_pos (by omega)).symm | exact zsub_s0 (if_neg (by omega)).symm | exact zadd0 (if_neg (by omega)).symm | exact zadd0 (zbF (by omega)) | exact (Int.sub_zero _).symm), rfl, rfl, rfl, trivial⟩ ih5
      · refine zF_iload_n 32 dX10_filmTakingsIn_31 rfl rfl ?_
        refine zF_aload_n 33 dX10_filmTakingsIn_32 rfl rfl ?_
        refine zF_iload 35 dX10_filmTakingsIn_33 rfl rfl ?_
        refine zF_iload_n 36 dX10_filmTakingsIn_35 rfl rfl ?_
        refine zF_callVi 39 (d2 := (d + 1)) (as := [zI (i : Int), zI f]) dX10_filmTakingsIn_36 rfl kX10_79 iX10_filmVisitorsOn (ci := 10) rfl eX10_filmVisitorsOn (Nat.le_refl _) hB.wk.1 hB.wk.2.1 rfl rfl (Nat.le_of_ble_eq_true rfl) (zt_X10_filmVisitorsOn hB hR hV hX (by omega) (by omega) (by first | decide | assumption | exact hb _ | exact mSh_rg hb _ _ | exact zb_rg _ | (constructor <;> omega))) ?_
        refine zF_iadd 40 dX10_filmTakingsIn_39 rfl ?_
        refine zF_istore_n 41 (ls' := [(3, zI ((cFiN N h f i) + (cFvN N (i : Int) f 7))), (4, zI (i : Int)), (0, zR (B 300)), (1, zI h), (2, zI f)]) dX10_filmTakingsIn_40 rfl (by decide) rfl ?_
        refine zF_iinc 44 (ls' := [(4, zI ((i : Int) + 1)), (3, zI ((cFiN N h f i) + (cFvN N (i : Int) f 7))), (0, zR (B 300)), (1, zI h), (2, zI f)]) dX10_filmTakingsIn_41 rfl rfl rfl (by decide) rfl ?_
        refine zF_goto 5 dX10_filmTakingsIn_44 rfl ?_
        exact zF_locs (ls' := [(4, zI ((i + 1 : Nat) : Int)), (3, zI (cFiN N h f (i + 1))), (0, zR (B 300)), (1, zI h), (2, zI f)]) ⟨zlI rfl (by first | rfl | omega | (push_cast; omega) | exact congrArg (_ + ·) (zbT (by assumption)) | exact congrArg (_ + ·) (zbF (by assumption)) | exact congrArg (_ + ·) (zbT (by omega)) | exact congrArg (_ + ·) (zbF (by omega)) | exact congrArg (_ + ·) (if_pos (by omega)).symm | exact congrArg (_ + ·) (if_neg (by omega)).symm | exact (if_pos (by omega)).symm | exact (if_neg (by omega)).symm | exact zsub_s (if_pos (by omega)).symm | exact zsub_s0 (if_neg (by omega)).symm | exact zadd0 (if_neg (by omega)).symm | exact zadd0 (zbF (by omega)) | exact (Int.sub_zero _).symm), zlI rfl (by first | rfl | omega | (push_cast; omega) | exact congrArg (_ + ·) (zbT (by assumption)) | exact congrArg (_ + ·) (zbF (by assumption)) | exact congrArg (_ + ·) (zbT (by omega)) | exact congrArg (_ + ·) (zbF (by omega)) | exact congrArg (_ + ·) (if_pos (by omega)).symm | exact congrArg (_ + ·) (if_neg (by omega)).symm | exact (if_pos (by omega)).symm | exact (if_neg (by omega)).symm | exact zsub_s (if_pos (by omega)).symm | exact zsub_s0 (if_neg (by omega)).symm | exact zadd0 (if_neg (by omega)).symm | exact zadd0 (zbF (by omega)) | exact (Int.sub_zero _).symm), rfl, rfl, rfl, trivial⟩ ih5
  · show zF G mX10_filmTakingsIn (d + 2) 5 [(4, zI (((nS N) : Nat) : Int)), (3, zI (cFiN N h f (nS N))), (0, zR (B 300)), (1, zI h), (2, zI f)] [] σ _
    refine zF_iload 7 dX10_filmTakingsIn_5 rfl rfl ?_
    refine zF_aload_n 8 dX10_filmTakingsIn_7 rfl rfl ?_
    refine zF_getR 11 dX10_filmTakingsIn_8 rfl gX10_18 hB.wk.1 hB.wk.2.1 hB.wk.2.2.1 ?_
    refine zF_getI 14 dX10_filmTakingsIn_11 rfl gX10_26 (by decide) (by decide) hB.ch.1 hB.ch.2.1 hR.c.1.2.1 ?_
    refine zF_icmp_ge 47 17 dX10_filmTakingsIn_14 rfl rfl (by first | decide | assumption | exact hb _ | exact mSh_rg hb _ _ | exact zb_rg _ | (constructor <;> omega)) (by first | decide | assumption | exact hb _ | exact mSh_rg hb _ _ | exact zb_rg _ | (constructor <;> omega)) (fun c3 => ?_) (fun c3 => ?_)
    · refine zF_iload_n 48 dX10_filmTakingsIn_47 rfl rfl ?_
      refine zF_aload_n 49 dX10_filmTakingsIn_48 rfl rfl ?_
      refine zF_getR 52 dX10_filmTakingsIn_49 rfl gX10_18 hB.wk.1 hB.wk.2.1 hB.wk.2.2.1 ?_
      refine zF_getR 55 dX10_filmTakingsIn_52 rfl gX10_82 hB.ch.1 hB.ch.2.1 (cB_101 hB).1 ?_
      refine zF_iload_n 56 dX10_filmTakingsIn_55 rfl rfl ?_
      refine zF_iaload 57 dX10_filmTakingsIn_56 rfl (cB_101 hB).2.2 (cB_101 hB).2.1 (by omega) (by omega) (hR.c.2.1 _ (by omega) (by omega)).1 ?_
      refine zF_imul 58 dX10_filmTakingsIn_57 rfl ?_
      exact zF_iretP dX10_filmTakingsIn_58 rfl (rfl)
    · exact absurd c3 (by omega)
theorem zt_X10_filmTakings {f : Int} (hB : cM σ B) (hR : cR N σ B) (hV : mV N) (hX : mX N) (h2 : zrg f) : zP1 G mX10_filmTakings (d + 3) [zR (B 300), zI f] σ (cFt N f) := by
  refine zE_of rfl (by simp [zcat]) (Nat.le_of_ble_eq_true rfl) ?_
  show zF G mX10_filmTakings (d + 3) 0 [(0, zR (B 300)), (1, zI f)] [] σ _
  have hb := hV.b
  have hn := hV.n
  have hh := nH_eq hV
  refine zF_iconst 1 dX10_filmTakings_0 rfl ?_
  refine zF_istore_n 2 (ls' := [(2, zI 0), (0, zR (B 300)), (1, zI f)]) dX10_filmTakings_1 rfl (by decide) rfl ?_
  refine zF_iconst 3 dX10_filmTakings_2 rfl ?_
  refine zF_istore_n 4 (ls' := [(3, zI 0), (2, zI 0), (0, zR (B 300)), (1, zI f)]) dX10_filmTakings_3 rfl (by decide) rfl ?_
  refine zF_locs (ls' := (fun (i : Nat) => [(3, zI (i : Int)), (2, zI (cFtN N f i)), (0, zR (B 300)), (1, zI f)]) 0) ⟨zlI rfl (by first | rfl | omega | (push_cast; omega) | exact congrArg (_ + ·) (zbT (by assumption)) | exact congrArg (_ + ·) (zbF (by assumption)) | exact congrArg (_ + ·) (zbT (by omega)) | exact congrArg (_ + ·) (zbF (by omega)) | exact congrArg (_ + ·) (if_pos (by omega)).symm | exact congrArg (_ + ·) (if_neg (by omega)).symm | exact (if_pos (by omega)).symm | exact (if_neg (by omega)).symm | exact zsub_s (if_pos (by omega)).symm | exact zsub_s0 (if_neg (by omega)).symm | exact zadd0 (if_neg (by omega)).symm | exact zadd0 (zbF (by omega)) | exact (Int.sub_zero _).symm), zlI rfl (by first | rfl | omega | (push_cast; omega) | exact congrArg (_ + ·) (zbT (by assumption)) | exact congrArg (_ + ·) (zbF (by assumption)) | exact congrArg (_ + ·) (zbT (by omega)) | exact congrArg (_ + ·) (zbF (by omega)) | exact congrArg (_ + ·) (if_pos (by omega)).symm | exact congrArg (_ + ·) (if_neg (by omega)).symm | exact (if_pos (by omega)).symm | exact (if_neg (by omega)).symm | exact zsub_s (if_pos (by omega)).symm | exact zsub_s0 (if_neg (by omega)).symm | exact zadd0 (if_neg (by omega)).symm | exact zadd0 (zbF (by omega)) | exact (Int.sub_zero _).symm), rfl, rfl, trivial⟩ ?_
  refine zF_loop (n := (nH N)) (fun (i : Nat) => [(3, zI (i : Int)), (2, zI (cFtN N f i)), (0, zR (B 300)), (1, zI f)]) (fun _ => σ) (fun i hi ih4 => ?_) ?_
  · show zF G mX10_filmTakings (d + 3) 4 [(3, zI (i : Int)), (2, zI (cFtN N f i)), (0, zR (B 300)), (1, zI f)] [] σ _
    refine zF_iload_n 5 dX10_filmTakings_4 rfl rfl ?_
    refine zF_aload_n 6 dX10_filmTakings_5 rfl rfl ?_
    refine zF_getR 9 dX10_filmTakings_6 rfl gX10_18 hB.wk.1 hB.wk.2.1 hB.wk.2.2.1 ?_
    refine zF_getI 12 dX10_filmTakings_9 rfl gX10_88 (by decide) (by decide) hB.ch.1 hB.ch.2.1 hR.c.1.1 ?_
    refine zF_icmp_ge 30 15 dX10_filmTakings_12 rfl rfl (by first | decide | assumption | exact hb _ | exact mSh_rg hb _ _ | exact zb_rg _ | (constructor <;> omega)) (by first | decide | assumption | exact hb _ | exact mSh_rg hb _ _ | exact zb_rg _ | (constructor <;> omega)) (fun c1 => ?_) (fun c1 => ?_)
    · exact absurd c1 (by omega)
    · refine zF_iload_n 16 dX10_filmTakings_15 rfl rfl ?_
      refine zF_aload_n 17 dX10_filmTakings_16 rfl rfl ?_
      refine zF_iload_n 18 dX10_filmTakings_17 rfl rfl ?_
      refine zF_iload_n 19 dX10_filmTakings_18 rfl rfl ?_
      refine zF_callVi 22 (d2 := (d + 2)) (as := [zI (i : Int), zI f]) dX10_filmTakings_19 rfl kX10_91 iX10_filmTakingsIn (ci := 10) rfl eX10_filmTakingsIn (Nat.le_refl _) hB.wk.1 hB.wk.2.1 rfl rfl (Nat.le_of_ble_eq_true rfl) (zt_X10_filmTakingsIn hB hR hV hX (by omega) (by omega) (by first | decide | assumption | exact hb _ | exact mSh_rg hb _ _ | exact zb_rg _ | (constructor <;> omega))) ?_
      refine zF_iadd 23 dX10_filmTakings_22 rfl ?_
      refine zF_istore_n 24 (ls' := [(2, zI ((cFtN N f i) + (cFi N (i : Int) f))), (3, zI (i : Int)), (0, zR (B 300)), (1, zI f)]) dX10_filmTakings_23 rfl (by decide) rfl ?_
      refine zF_iinc 27 (ls' := [(3, zI ((i : Int) + 1)), (2, zI ((cFtN N f i) + (cFi N (i : Int) f))), (0, zR (B 300)), (1, zI f)]) dX10_filmTakings_24 rfl rfl rfl (by decide) rfl ?_
      refine zF_goto 4 dX10_filmTakings_27 rfl ?_
      exact zF_locs (ls' := [(3, zI ((i + 1 : Nat) : Int)), (2, zI (cFtN N f (i + 1))), (0, zR (B 300)), (1, zI f)]) ⟨zlI rfl (by first | rfl | omega | (push_cast; omega) | exact congrArg (_ + ·) (zbT (by assumption)) | exact congrArg (_ + ·) (zbF (by assumption)) | exact congrArg (_ + ·) (zbT (by omega)) | exact congrArg (_ + ·) (zbF (by omega)) | exact congrArg (_ + ·) (if_pos (by omega)).symm | exact congrArg (_ + ·) (if_neg (by omega)).symm | exact (if_pos (by omega)).symm | exact (if_neg (by omega)).symm | exact zsub_s (if_pos (by omega)).symm | exact zsub_s0 (if_neg (by omega)).symm | exact zadd0 (if_neg (by omega)).symm | exact zadd0 (zbF (by omega)) | exact (Int.sub_zero _).symm), zlI rfl (by first | rfl | omega | (push_cast; omega) | exact congrArg (_ + ·) (zbT (by assumption)) | exact congrArg (_ + ·) (zbF (by assumption)) | exact congrArg (_ + ·) (zbT (by omega)) | exact congrArg (_ + ·) (zbF (by omega)) | exact congrArg (_ + ·) (if_pos (by omega)).symm | exact congrArg (_ + ·) (if_neg (by omega)).symm | exact (if_pos (by omega)).symm | exact (if_neg (by omega)).symm | exact zsub_s (if_pos (by omega)).symm | exact zsub_s0 (if_neg (by omega)).symm | exact zadd0 (if_neg (by omega)).symm | exact zadd0 (zbF (by omega)) | exact (Int.sub_zero _).symm), rfl, rfl, trivial⟩ ih4
  · show zF G mX10_filmTakings (d + 3) 4 [(3, zI (((nH N) : Nat) : Int)), (2, zI (cFtN N f (nH N))), (0, zR (B 300)), (1, zI f)] [] σ _
    refine zF_iload_n 5 dX10_filmTakings_4 rfl rfl ?_
    refine zF_aload_n 6 dX10_filmTakings_5 rfl rfl ?_
    refine zF_getR 9 dX10_filmTakings_6 rfl gX10_18 hB.wk.1 hB.wk.2.1 hB.wk.2.2.1 ?_
    refine zF_getI 12 dX10_filmTakings_9 rfl gX10_88 (by decide) (by decide) hB.ch.1 hB.ch.2.1 hR.c.1.1 ?_
    refine zF_icmp_ge 30 15 dX10_filmTakings_12 rfl rfl (by first | decide | assumption | exact hb _ | exact mSh_rg hb _ _ | exact zb_rg _ | (constructor <;> omega)) (by first | decide | assumption | exact hb _ | exact mSh_rg hb _ _ | exact zb_rg _ | (constructor <;> omega)) (fun c2 => ?_) (fun c2 => ?_)
    · refine zF_iload_n 31 dX10_filmTakings_30 rfl rfl ?_
      exact zF_iretP dX10_filmTakings_31 rfl (rfl)
    · exact absurd c2 (by omega)
theorem zt_X8_runOf {h f : Int} (hB : cM σ B) (hR : cR N σ B) (hV : mV N) (a0 : 0 ≤ h) (a1 : h < N 0) (f0 : 0 ≤ f) (f1 : f < N 2) : zP1 G mX8_runOf d [zR (B 200), zI h, zI f] σ (mR N h f) := by
  refine zE_of rfl (by simp [zcat]) (Nat.le_of_ble_eq_true rfl) ?_
  show zF G mX8_runOf d 0 [(0, zR (B 200)), (1, zI h), (2, zI f)] [] σ _
  have hb := hV.b
  have hn := hV.n
  refine zF_aload_n 1 dX8_runOf_0 rfl rfl ?_
  refine zF_getR 4 dX8_runOf_1 rfl gX8_42 hB.st.1 hB.st.2.1 (cB_213 hB).1 ?_
  refine zF_iload_n 5 dX8_runOf_4 rfl rfl ?_
  refine zF_bipush 7 dX8_runOf_5 rfl (by decide) ?_
  refine zF_imul 8 dX8_runOf_7 rfl ?_
  refine zF_iload_n 9 dX8_runOf_8 rfl rfl ?_
  refine zF_iadd 10 dX8_runOf_9 rfl ?_
  refine zF_iaload 11 dX8_runOf_10 rfl (cB_213 hB).2.2 (cB_213 hB).2.1 (by omega) (by omega) (rd_213 hR (by omega) (by omega) (by omega) (by omega)) ?_
  exact zF_iretP dX8_runOf_11 rfl (rfl)
theorem zt_X8_printsAt {f p : Int} (hB : cM σ B) (hR : cR N σ B) (hV : mV N) (f0 : 0 ≤ f) (f1 : f < N 2) (p0 : -1 ≤ p) (p1 : p < N 0) : zP1 G mX8_printsAt d [zR (B 200), zI f, zI p] σ (mP N f p) := by
  refine zE_of rfl (by simp [zcat]) (Nat.le_of_ble_eq_true rfl) ?_
  show zF G mX8_printsAt d 0 [(0, zR (B 200)), (1, zI f), (2, zI p)] [] σ _
  have hb := hV.b
  have hn := hV.n
  have ht : zia σ (B 205) (f * 5 + p + 1) = mP N f p := (hR.s.2.2.2.1 f f0 f1).2.2.2 p p0 p1
  refine zF_aload_n 1 dX8_printsAt_0 rfl rfl ?_
  refine zF_getR 4 dX8_printsAt_1 rfl gX8_18 hB.st.1 hB.st.2.1 (cB_205 hB).1 ?_
  refine zF_iload_n 5 dX8_printsAt_4 rfl rfl ?_
  refine zF_iconst 6 dX8_printsAt_5 rfl ?_
  refine zF_imul 7 dX8_printsAt_6 rfl ?_
  refine zF_iload_n 8 dX8_printsAt_7 rfl rfl ?_
  refine zF_iadd 9 dX8_printsAt_8 rfl ?_
  refine zF_iconst 10 dX8_printsAt_9 rfl ?_
  refine zF_iadd 11 dX8_printsAt_10 rfl ?_
  refine zF_iaload 12 dX8_printsAt_11 rfl (cB_205 hB).2.2 (cB_205 hB).2.1 (by omega) (by omega) rfl ?_
  exact zF_iretP dX8_printsAt_12 rfl (ht)
theorem zt_X8_ageOf {f : Int} (hB : cM σ B) (hR : cR N σ B) (hV : mV N) (f0 : 0 ≤ f) (f1 : f < N 2) : zP1 G mX8_ageOf d [zR (B 200), zI f] σ (mAge N f) := by
  refine zE_of rfl (by simp [zcat]) (Nat.le_of_ble_eq_true rfl) ?_
  show zF G mX8_ageOf d 0 [(0, zR (B 200)), (1, zI f)] [] σ _
  have hb := hV.b
  have hn := hV.n
  refine zF_aload_n 1 dX8_ageOf_0 rfl rfl ?_
  refine zF_getR 4 dX8_ageOf_1 rfl gX8_33 hB.st.1 hB.st.2.1 (cB_210 hB).1 ?_
  refine zF_iload_n 5 dX8_ageOf_4 rfl rfl ?_
  refine zF_iaload 6 dX8_ageOf_5 rfl (cB_210 hB).2.2 (cB_210 hB).2.1 (by omega) (by omega) (hR.s.2.2.2.1 _ (by omega) (by omega)).1 ?_
  refine zF_iconst 7 dX8_ageOf_6 rfl ?_
  refine zF_icmp_ne 14 10 dX8_ageOf_7 rfl rfl (by first | decide | assumption | exact hb _ | exact mSh_rg hb _ _ | exact zb_rg _ | (constructor <;> omega)) (by first | decide | assumption | exact hb _ | exact mSh_rg hb _ _ | exact zb_rg _ | (constructor <;> omega)) (fun c1 => ?_) (fun c1 => ?_)
  · refine zF_aload_n 15 dX8_ageOf_14 rfl rfl ?_
    refine zF_getI 18 dX8_ageOf_15 rfl gX8_51 (by decide) (by decide) hB.st.1 hB.st.2.1 hR.s.1.1 ?_
    refine zF_aload_n 19 dX8_ageOf_18 rfl rfl ?_
    refine zF_getR 22 dX8_ageOf_19 rfl gX8_33 hB.st.1 hB.st.2.1 (cB_210 hB).1 ?_
    refine zF_iload_n 23 dX8_ageOf_22 rfl rfl ?_
    refine zF_iaload 24 dX8_ageOf_23 rfl (cB_210 hB).2.2 (cB_210 hB).2.1 (by omega) (by omega) (hR.s.2.2.2.1 _ (by omega) (by omega)).1 ?_
    refine zF_isub 25 dX8_ageOf_24 rfl ?_
    exact zF_iretP dX8_ageOf_25 rfl (by first | exact (if_pos (by omega)).symm | exact (if_neg (by omega)).symm)
  · refine zF_iconst 11 dX8_ageOf_10 rfl ?_
    refine zF_goto 25 dX8_ageOf_11 rfl ?_
    exact zF_iretP dX8_ageOf_25 rfl (by first | exact (if_pos (by omega)).symm | exact (if_neg (by omega)).symm)
theorem zt_X10_shareOf {h f t : Int} (hB : cM σ B) (hR : cR N σ B) (hV : mV N) (a0 : 0 ≤ h) (a1 : h < N 0) (f0 : 0 ≤ f) (f1 : f < N 2) (t0 : 0 ≤ t) (t1 : t ≤ 20790000) : zP1 G mX10_shareOf (d + 1) [zR (B 300), zI h, zI f, zI t] σ (mShare N h f t) := by
  refine zE_of rfl (by simp [zcat]) (Nat.le_of_ble_eq_true rfl) ?_
  show zF G mX10_shareOf (d + 1) 0 [(0, zR (B 300)), (1, zI h), (2, zI f), (3, zI t)] [] σ _
  have hb := hV.b
  have hn := hV.n
  have q1 := mIdx_b hV a0 (by omega) f0 f1
  have q2 := mShare_p hV a0 (by omega) f0 f1 t0 t1
  have q3 := hV.f f f0 (by omega)
  have q5 := hV.r h f a0 (by omega) f0 (by omega)
  have q4 : mIdx N h f = min (mR N h f) (mF N f 3 - 1) := rfl
  have q6 := (hR.c.2.2.2 f f0 f1).2.2.2.2 (mIdx N h f) q1.1 (by omega)
  have q7 : max 0 (min (mR N h f) (mF N f 3 - 1)) = mIdx N h f := by omega
  have q8 : zia σ (B 112) (f * 4 + max 0 (min (mR N h f) (mF N f 3 - 1))) = mF N f (4 + mIdx N h f) := by rw [q7]; exact q6
  refine zF_aload_n 1 dX10_shareOf_0 rfl rfl ?_
  refine zF_getR 4 dX10_shareOf_1 rfl gX10_22 hB.wk.1 hB.wk.2.1 hB.wk.2.2.2.1 ?_
  refine zF_iload_n 5 dX10_shareOf_4 rfl rfl ?_
  refine zF_iload_n 6 dX10_shareOf_5 rfl rfl ?_
  refine zF_callVi 9 (d2 := d) (as := [zI h, zI f]) dX10_shareOf_6 rfl kX10_94 iX8_runOf (ci := 8) rfl eX8_runOf (Nat.le_refl _) hB.st.1 hB.st.2.1 rfl rfl (Nat.le_of_ble_eq_true rfl) (zt_X8_runOf hB hR hV (by omega) (by omega) (by omega) (by omega)) ?_
  refine zF_aload_n 10 dX10_shareOf_9 rfl rfl ?_
  refine zF_getR 13 dX10_shareOf_10 rfl gX10_18 hB.wk.1 hB.wk.2.1 hB.wk.2.2.1 ?_
  refine zF_getR 16 dX10_shareOf_13 rfl gX10_97 hB.ch.1 hB.ch.2.1 (cB_111 hB).1 ?_
  refine zF_iload_n 17 dX10_shareOf_16 rfl rfl ?_
  refine zF_iaload 18 dX10_shareOf_17 rfl (cB_111 hB).2.2 (cB_111 hB).2.1 (by omega) (by omega) (hR.c.2.2.2 _ (by omega) (by omega)).2.2.2.1 ?_
  refine zF_iconst 19 dX10_shareOf_18 rfl ?_
  refine zF_isub 20 dX10_shareOf_19 rfl ?_
  refine zF_min 23 dX10_shareOf_20 rfl kX10_56 (Nat.le_refl _) (by first | decide | assumption | exact hb _ | exact mSh_rg hb _ _ | exact zb_rg _ | (constructor <;> omega)) (by first | decide | assumption | exact hb _ | exact mSh_rg hb _ _ | exact zb_rg _ | (constructor <;> omega)) (Nat.le_of_ble_eq_true rfl) ?_
  refine zF_istore 25 (ls' := [(4, zI (min (mR N h f) ((mF N f 3) - 1))), (0, zR (B 300)), (1, zI h), (2, zI f), (3, zI t)]) dX10_shareOf_23 rfl (by decide) rfl ?_
  refine zF_aload_n 26 dX10_shareOf_25 rfl rfl ?_
  refine zF_getR 29 dX10_shareOf_26 rfl gX10_18 hB.wk.1 hB.wk.2.1 hB.wk.2.2.1 ?_
  refine zF_getR 32 dX10_shareOf_29 rfl gX10_100 hB.ch.1 hB.ch.2.1 (cB_112 hB).1 ?_
  refine zF_iload_n 33 dX10_shareOf_32 rfl rfl ?_
  refine zF_iconst 34 dX10_shareOf_33 rfl ?_
  refine zF_imul 35 dX10_shareOf_34 rfl ?_
  refine zF_iconst 36 dX10_shareOf_35 rfl ?_
  refine zF_iload 38 dX10_shareOf_36 rfl rfl ?_
  refine zF_max 41 dX10_shareOf_38 rfl kX10_61 (Nat.le_refl _) (by first | decide | assumption | exact hb _ | exact mSh_rg hb _ _ | exact zb_rg _ | (constructor <;> omega)) (by first | decide | assumption | exact hb _ | exact mSh_rg hb _ _ | exact zb_rg _ | (constructor <;> omega)) (Nat.le_of_ble_eq_true rfl) ?_
  refine zF_iadd 42 dX10_shareOf_41 rfl ?_
  refine zF_iaload 43 dX10_shareOf_42 rfl (cB_112 hB).2.2 (cB_112 hB).2.1 (by omega) (by omega) q8 ?_
  refine zF_istore 45 (ls' := [(5, zI (mF N f (4 + mIdx N h f))), (4, zI (min (mR N h f) ((mF N f 3) - 1))), (0, zR (B 300)), (1, zI h), (2, zI f), (3, zI t)]) dX10_shareOf_43 rfl (by decide) rfl ?_
  refine zF_iload_n 46 dX10_shareOf_45 rfl rfl ?_
  refine zF_iload 48 dX10_shareOf_46 rfl rfl ?_
  refine zF_imul 49 dX10_shareOf_48 rfl ?_
  refine zF_bipush 51 dX10_shareOf_49 rfl (by decide) ?_
  refine zF_idiv 52 dX10_shareOf_51 rfl (by omega) (by omega) (by omega) (by omega) ?_
  refine zF_aload_n 53 dX10_shareOf_52 rfl rfl ?_
  refine zF_getR 56 dX10_shareOf_53 rfl gX10_18 hB.wk.1 hB.wk.2.1 hB.wk.2.2.1 ?_
  refine zF_getR 59 dX10_shareOf_56 rfl gX10_103 hB.ch.1 hB.ch.2.1 (cB_110 hB).1 ?_
  refine zF_iload_n 60 dX10_shareOf_59 rfl rfl ?_
  refine zF_iaload 61 dX10_shareOf_60 rfl (cB_110 hB).2.2 (cB_110 hB).2.1 (by omega) (by omega) (hR.c.2.2.2 _ (by omega) (by omega)).2.2.1 ?_
  refine zF_iload_n 62 dX10_shareOf_61 rfl rfl ?_
  refine zF_min 65 dX10_shareOf_62 rfl kX10_56 (Nat.le_refl _) (by first | decide | assumption | exact hb _ | exact mSh_rg hb _ _ | exact zb_rg _ | (constructor <;> omega)) (by first | decide | assumption | exact hb _ | exact mSh_rg hb _ _ | exact zb_rg _ | (constructor <;> omega)) (Nat.le_of_ble_eq_true rfl) ?_
  refine zF_max 68 dX10_shareOf_65 rfl kX10_61 (Nat.le_refl _) (by first | decide | assumption | exact hb _ | exact mSh_rg hb _ _ | exact zb_rg _ | (constructor <;> omega)) (by first | decide | assumption | exact hb _ | exact mSh_rg hb _ _ | exact zb_rg _ | (constructor <;> omega)) (Nat.le_of_ble_eq_true rfl) ?_
  exact zF_iretP dX10_shareOf_68 rfl (rfl)
theorem zt_X10_shareIn {h f : Int} (hB : cM σ B) (hR : cR N σ B) (hV : mV N) (hX : mX N) (a0 : 0 ≤ h) (a1 : h < N 0) (f0 : 0 ≤ f) (f1 : f < N 2) : zP1 G mX10_shareIn (d + 3) [zR (B 300), zI h, zI f] σ (mShare N h f (cFi N h f)) := by
  refine zE_of rfl (by simp [zcat]) (Nat.le_of_ble_eq_true rfl) ?_
  show zF G mX10_shareIn (d + 3) 0 [(0, zR (B 300)), (1, zI h), (2, zI f)] [] σ _
  have hb := hV.b
  have hn := hV.n
  have q := cFi_b hV a0 (by omega) f
  refine zF_aload_n 1 dX10_shareIn_0 rfl rfl ?_
  refine zF_iload_n 2 dX10_shareIn_1 rfl rfl ?_
  refine zF_iload_n 3 dX10_shareIn_2 rfl rfl ?_
  refine zF_aload_n 4 dX10_shareIn_3 rfl rfl ?_
  refine zF_iload_n 5 dX10_shareIn_4 rfl rfl ?_
  refine zF_iload_n 6 dX10_shareIn_5 rfl rfl ?_
  refine zF_callVi 9 (d2 := (d + 2)) (as := [zI h, zI f]) dX10_shareIn_6 rfl kX10_91 iX10_filmTakingsIn (ci := 10) rfl eX10_filmTakingsIn (Nat.le_refl _) hB.wk.1 hB.wk.2.1 rfl rfl (Nat.le_of_ble_eq_true rfl) (zt_X10_filmTakingsIn hB hR hV hX (by omega) (by omega) (by first | decide | assumption | exact hb _ | exact mSh_rg hb _ _ | exact zb_rg _ | (constructor <;> omega))) ?_
  refine zF_callVi 12 (d2 := (d + 2)) (as := [zI h, zI f, zI (cFi N h f)]) dX10_shareIn_9 rfl kX10_106 iX10_shareOf (ci := 10) rfl eX10_shareOf (Nat.le_refl _) hB.wk.1 hB.wk.2.1 rfl rfl (Nat.le_of_ble_eq_true rfl) (zt_X10_shareOf hB hR hV (by omega) (by omega) (by omega) (by omega) (by omega) (by omega)) ?_
  exact zF_iretP dX10_shareIn_12 rfl (rfl)
theorem zt_X10_houseShares {h : Int} (hB : cM σ B) (hR : cR N σ B) (hV : mV N) (hX : mX N) (a0 : 0 ≤ h) (a1 : h < N 0) : zP1 G mX10_houseShares (d + 4) [zR (B 300), zI h] σ (cShN N h (nF N)) := by
  refine zE_of rfl (by simp [zcat]) (Nat.le_of_ble_eq_true rfl) ?_
  show zF G mX10_houseShares (d + 4) 0 [(0, zR (B 300)), (1, zI h)] [] σ _
  have hb := hV.b
  have hn := hV.n
  have hf := nF_eq hV
  refine zF_iconst 1 dX10_houseShares_0 rfl ?_
  refine zF_istore_n 2 (ls' := [(2, zI 0), (0, zR (B 300)), (1, zI h)]) dX10_houseShares_1 rfl (by decide) rfl ?_
  refine zF_iconst 3 dX10_houseShares_2 rfl ?_
  refine zF_istore_n 4 (ls' := [(3, zI 0), (2, zI 0), (0, zR (B 300)), (1, zI h)]) dX10_houseShares_3 rfl (by decide) rfl ?_
  refine zF_locs (ls' := (fun (i : Nat) => [(3, zI (i : Int)), (2, zI (cShN N h i)), (0, zR (B 300)), (1, zI h)]) 0) ⟨zlI rfl (by first | rfl | omega | (push_cast; omega) | exact congrArg (_ + ·) (zbT (by assumption)) | exact congrArg (_ + ·) (zbF (by assumption)) | exact congrArg (_ + ·) (zbT (by omega)) | exact congrArg (_ + ·) (zbF (by omega)) | exact congrArg (_ + ·) (if_pos (by omega)).symm | exact congrArg (_ + ·) (if_neg (by omega)).symm | exact (if_pos (by omega)).symm | exact (if_neg (by omega)).symm | exact zsub_s (if_pos (by omega)).symm | exact zsub_s0 (if_neg (by omega)).symm | exact zadd0 (if_neg (by omega)).symm | exact zadd0 (zbF (by omega)) | exact (Int.sub_zero _).symm), zlI rfl (by first | rfl | omega | (push_cast; omega) | exact congrArg (_ + ·) (zbT (by assumption)) | exact congrArg (_ + ·) (zbF (by assumption)) | exact congrArg (_ + ·) (zbT (by omega)) | exact congrArg (_ + ·) (zbF (by omega)) | exact congrArg (_ + ·) (if_pos (by omega)).symm | exact congrArg (_ + ·) (if_neg (by omega)).symm | exact (if_pos (by omega)).symm | exact (if_neg (by omega)).symm | exact zsub_s (if_pos (by omega)).symm | exact zsub_s0 (if_neg (by omega)).symm | exact zadd0 (if_neg (by omega)).symm | exact zadd0 (zbF (by omega)) | exact (Int.sub_zero _).symm), rfl, rfl, trivial⟩ ?_
  refine zF_loop (n := (nF N)) (fun (i : Nat) => [(3, zI (i : Int)), (2, zI (cShN N h i)), (0, zR (B 300)), (1, zI h)]) (fun _ => σ) (fun i hi ih4 => ?_) ?_
  · show zF G mX10_houseShares (d + 4) 4 [(3, zI (i : Int)), (2, zI (cShN N h i)), (0, zR (B 300)), (1, zI h)] [] σ _
    refine zF_iload_n 5 dX10_houseShares_4 rfl rfl ?_
    refine zF_aload_n 6 dX10_houseShares_5 rfl rfl ?_
    refine zF_getR 9 dX10_houseShares_6 rfl gX10_18 hB.wk.1 hB.wk.2.1 hB.wk.2.2.1 ?_
    refine zF_getI 12 dX10_houseShares_9 rfl gX10_38 (by decide) (by decide) hB.ch.1 hB.ch.2.1 hR.c.1.2.2 ?_
    refine zF_icmp_ge 30 15 dX10_houseShares_12 rfl rfl (by first | decide | assumption | exact hb _ | exact mSh_rg hb _ _ | exact zb_rg _ | (constructor <;> omega)) (by first | decide | assumption | exact hb _ | exact mSh_rg hb _ _ | exact zb_rg _ | (constructor <;> omega)) (fun c1 => ?_) (fun c1 => ?_)
    · exact absurd c1 (by omega)
    · refine zF_iload_n 16 dX10_houseShares_15 rfl rfl ?_
      refine zF_aload_n 17 dX10_houseShares_16 rfl rfl ?_
      refine zF_iload_n 18 dX10_houseShares_17 rfl rfl ?_
      refine zF_iload_n 19 dX10_houseShares_18 rfl rfl ?_
      refine zF_callVi 22 (d2 := (d + 3)) (as := [zI h, zI (i : Int)]) dX10_houseShares_19 rfl kX10_109 iX10_shareIn (ci := 10) rfl eX10_shareIn (Nat.le_refl _) hB.wk.1 hB.wk.2.1 rfl rfl (Nat.le_of_ble_eq_true rfl) (zt_X10_shareIn hB hR hV hX (by omega) (by omega) (by omega) (by omega)) ?_
      refine zF_iadd 23 dX10_houseShares_22 rfl ?_
      refine zF_istore_n 24 (ls' := [(2, zI ((cShN N h i) + (mShare N h (i : Int) (cFi N h (i : Int))))), (3, zI (i : Int)), (0, zR (B 300)), (1, zI h)]) dX10_houseShares_23 rfl (by decide) rfl ?_
      refine zF_iinc 27 (ls' := [(3, zI ((i : Int) + 1)), (2, zI ((cShN N h i) + (mShare N h (i : Int) (cFi N h (i : Int))))), (0, zR (B 300)), (1, zI h)]) dX10_houseShares_24 rfl rfl rfl (by decide) rfl ?_
      refine zF_goto 4 dX10_houseShares_27 rfl ?_
      exact zF_locs (ls' := [(3, zI ((i + 1 : Nat) : Int)), (2, zI (cShN N h (i + 1))), (0, zR (B 300)), (1, zI h)]) ⟨zlI rfl (by first | rfl | omega | (push_cast; omega) | exact congrArg (_ + ·) (zbT (by assumption)) | exact congrArg (_ + ·) (zbF (by assumption)) | exact congrArg (_ + ·) (zbT (by omega)) | exact congrArg (_ + ·) (zbF (by omega)) | exact congrArg (_ + ·) (if_pos (by omega)).symm | exact congrArg (_ + ·) (if_neg (by omega)).symm | exact (if_pos (by omega)).symm | exact (if_neg (by omega)).symm | exact zsub_s (if_pos (by omega)).symm | exact zsub_s0 (if_neg (by omega)).symm | exact zadd0 (if_neg (by omega)).symm | exact zadd0 (zbF (by omega)) | exact (Int.sub_zero _).symm), zlI rfl (by first | rfl | omega | (push_cast; omega) | exact congrArg (_ + ·) (zbT (by assumption)) | exact congrArg (_ + ·) (zbF (by assumption)) | exact congrArg (_ + ·) (zbT (by omega)) | exact congrArg (_ + ·) (zbF (by omega)) | exact congrArg (_ + ·) (if_pos (by omega)).symm | exact congrArg (_ + ·) (if_neg (by omega)).symm | exact (if_pos (by omega)).symm | exact (if_neg (by omega)).symm | exact zsub_s (if_pos (by omega)).symm | exact zsub_s0 (if_neg (by omega)).symm | exact zadd0 (if_neg (by omega)).symm | exact zadd0 (zbF (by omega)) | exact (Int.sub_zero _).symm), rfl, rfl, trivial⟩ ih4
  · show zF G mX10_houseShares (d + 4) 4 [(3, zI (((nF N) : Nat) : Int)), (2, zI (cShN N h (nF N))), (0, zR (B 300)), (1, zI h)] [] σ _
    refine zF_iload_n 5 dX10_houseShares_4 rfl rfl ?_
    refine zF_aload_n 6 dX10_houseShares_5 rfl rfl ?_
    refine zF_getR 9 dX10_houseShares_6 rfl gX10_18 hB.wk.1 hB.wk.2.1 hB.wk.2.2.1 ?_
    refine zF_getI 12 dX10_houseShares_9 rfl gX10_38 (by decide) (by decide) hB.ch.1 hB.ch.2.1 hR.c.1.2.2 ?_
    refine zF_icmp_ge 30 15 dX10_houseShares_12 rfl rfl (by first | decide | assumption | exact hb _ | exact mSh_rg hb _ _ | exact zb_rg _ | (constructor <;> omega)) (by first | decide | assumption | exact hb _ | exact mSh_rg hb _ _ | exact zb_rg _ | (constructor <;> omega)) (fun c2 => ?_) (fun c2 => ?_)
    · refine zF_iload_n 31 dX10_houseShares_30 rfl rfl ?_
      exact zF_iretP dX10_houseShares_31 rfl (rfl)
    · exact absurd c2 (by omega)
theorem zt_X10_screensShowing {h f b : Int} (hB : cM σ B) (hR : cR N σ B) (hV : mV N) (hX : mX N) (h2 : zrg h) (h3 : zrg f) (h4 : zrg b) : zP1 G mX10_screensShowing (d + 1) [zR (B 300), zI h, zI f, zI b] σ (mCnt N h f b) := by
  refine zE_of rfl (by simp [zcat]) (Nat.le_of_ble_eq_true rfl) ?_
  show zF G mX10_screensShowing (d + 1) 0 [(0, zR (B 300)), (1, zI h), (2, zI f), (3, zI b)] [] σ _
  have hb := hV.b
  have hn := hV.n
  have hs := nS_eq hV
  refine zF_iconst 1 dX10_screensShowing_0 rfl ?_
  refine zF_istore 3 (ls' := [(4, zI 0), (0, zR (B 300)), (1, zI h), (2, zI f), (3, zI b)]) dX10_screensShowing_1 rfl (by decide) rfl ?_
  refine zF_iconst 4 dX10_screensShowing_3 rfl ?_
  refine zF_istore 6 (ls' := [(5, zI 0), (4, zI 0), (0, zR (B 300)), (1, zI h), (2, zI f), (3, zI b)]) dX10_screensShowing_4 rfl (by decide) rfl ?_
  refine zF_locs (ls' := (fun (i : Nat) => [(5, zI (i : Int)), (4, zI (mCntN N h f b i)), (0, zR (B 300)), (1, zI h), (2, zI f), (3, zI b)]) 0) ⟨zlI rfl (by first | rfl | omega | (push_cast; omega) | exact congrArg (_ + ·) (zbT (by assumption)) | exact congrArg (_ + ·) (zbF (by assumption)) | exact congrArg (_ + ·) (zbT (by omega)) | exact congrArg (_ + ·) (zbF (by omega)) | exact congrArg (_ + ·) (if_pos (by omega)).symm | exact congrArg (_ + ·) (if_neg (by omega)).symm | exact (if_pos (by omega)).symm | exact (if_neg (by omega)).symm | exact zsub_s (if_pos (by omega)).symm | exact zsub_s0 (if_neg (by omega)).symm | exact zadd0 (if_neg (by omega)).symm | exact zadd0 (zbF (by omega)) | exact (Int.sub_zero _).symm), zlI rfl (by first | rfl | omega | (push_cast; omega) | exact congrArg (_ + ·) (zbT (by assumption)) | exact congrArg (_ + ·) (zbF (by assumption)) | exact congrArg (_ + ·) (zbT (by omega)) | exact congrArg (_ + ·) (zbF (by omega)) | exact congrArg (_ + ·) (if_pos (by omega)).symm | exact congrArg (_ + ·) (if_neg (by omega)).symm | exact (if_pos (by omega)).symm | exact (if_neg (by omega)).symm | exact zsub_s (if_pos (by omega)).symm | exact zsub_s0 (if_neg (by omega)).symm | exact zadd0 (if_neg (by omega)).symm | exact zadd0 (zbF (by omega)) | exact (Int.sub_zero _).symm), rfl, rfl, rfl, rfl, trivial⟩ ?_
  refine zF_loop (n := (nS N)) (fun (i : Nat) => [(5, zI (i : Int)), (4, zI (mCntN N h f b i)), (0, zR (B 300)), (1, zI h), (2, zI f), (3, zI b)]) (fun _ => σ) (fun i hi ih6 => ?_) ?_
  · show zF G mX10_screensShowing (d + 1) 6 [(5, zI (i : Int)), (4, zI (mCntN N h f b i)), (0, zR (B 300)), (1, zI h), (2, zI f), (3, zI b)] [] σ _
    refine zF_iload 8 dX10_screensShowing_6 rfl rfl ?_
    refine zF_aload_n 9 dX10_screensShowing_8 rfl rfl ?_
    refine zF_getR 12 dX10_screensShowing_9 rfl gX10_18 hB.wk.1 hB.wk.2.1 hB.wk.2.2.1 ?_
    refine zF_getI 15 dX10_screensShowing_12 rfl gX10_26 (by decide) (by decide) hB.ch.1 hB.ch.2.1 hR.c.1.2.1 ?_
    refine zF_icmp_ge 55 18 dX10_screensShowing_15 rfl rfl (by first | decide | assumption | exact hb _ | exact mSh_rg hb _ _ | exact zb_rg _ | (constructor <;> omega)) (by first | decide | assumption | exact hb _ | exact mSh_rg hb _ _ | exact zb_rg _ | (constructor <;> omega)) (fun c1 => ?_) (fun c1 => ?_)
    · exact absurd c1 (by omega)
    · refine zF_aload_n 19 dX10_screensShowing_18 rfl rfl ?_
      refine zF_getR 22 dX10_screensShowing_19 rfl gX10_18 hB.wk.1 hB.wk.2.1 hB.wk.2.2.1 ?_
      refine zF_getR 25 dX10_screensShowing_22 rfl gX10_64 hB.ch.1 hB.ch.2.1 (cB_104 hB).1 ?_
      refine zF_iload 27 dX10_screensShowing_25 rfl rfl ?_
      refine zF_iaload 28 dX10_screensShowing_27 rfl (cB_104 hB).2.2 (cB_104 hB).2.1 (by omega) (by omega) (hR.c.2.2.1 _ (by omega) (by omega)).1 ?_
      refine zF_iload_n 29 dX10_screensShowing_28 rfl rfl ?_
      refine zF_icmp_ne 49 32 dX10_screensShowing_29 rfl rfl (by first | decide | assumption | exact hb _ | exact mSh_rg hb _ _ | exact zb_rg _ | (constructor <;> omega)) (by first | decide | assumption | exact hb _ | exact mSh_rg hb _ _ | exact zb_rg _ | (constructor <;> omega)) (fun c2 => ?_) (fun c2 => ?_)
      · refine zF_iinc 52 (ls' := [(5, zI ((i : Int) + 1)), (4, zI (mCntN N h f b i)), (0, zR (B 300)), (1, zI h), (2, zI f), (3, zI b)]) dX10_screensShowing_49 rfl rfl rfl (by decide) rfl ?_
        refine zF_goto 6 dX10_screensShowing_52 rfl ?_
        exact zF_locs (ls' := [(5, zI ((i + 1 : Nat) : Int)), (4, zI (mCntN N h f b (i + 1))), (0, zR (B 300)), (1, zI h), (2, zI f), (3, zI b)]) ⟨zlI rfl (by first | rfl | omega | (push_cast; omega) | exact congrArg (_ + ·) (zbT (by assumption)) | exact congrArg (_ + ·) (zbF (by assumption)) | exact congrArg (_ + ·) (zbT (by omega)) | exact congrArg (_ + ·) (zbF (by omega)) | exact congrArg (_ + ·) (if_pos (by omega)).symm | exact congrArg (_ + ·) (if_neg (by omega)).symm | exact (if_pos (by omega)).symm | exact (if_neg (by omega)).symm | exact zsub_s (if_pos (by omega)).symm | exact zsub_s0 (if_neg (by omega)).symm | exact zadd0 (if_neg (by omega)).symm | exact zadd0 (zbF (by omega)) | exact (Int.sub_zero _).symm), zlI rfl (by first | rfl | omega | (push_cast; omega) | exact congrArg (_ + ·) (zbT (by assumption)) | exact congrArg (_ + ·) (zbF (by assumption)) | exact congrArg (_ + ·) (zbT (by omega)) | exact congrArg (_ + ·) (zbF (by omega)) | exact congrArg (_ + ·) (if_pos (by omega)).symm | exact congrArg (_ + ·) (if_neg (by omega)).symm | exact (if_pos (by omega)).symm | exact (if_neg (by omega)).symm | exact zsub_s (if_pos (by omega)).symm | exact zsub_s0 (if_neg (by omega)).symm | exact zadd0 (if_neg (by omega)).symm | exact zadd0 (zbF (by omega)) | exact (Int.sub_zero _).symm), rfl, rfl, rfl, rfl, trivial⟩ ih6
      · refine zF_aload_n 33 dX10_screensShowing_32 rfl rfl ?_
        refine zF_getR 36 dX10_screensShowing_33 rfl gX10_22 hB.wk.1 hB.wk.2.1 hB.wk.2.2.2.1 ?_
        refine zF_iload 38 dX10_screensShowing_36 rfl rfl ?_
        refine zF_iload_n 39 dX10_screensShowing_38 rfl rfl ?_
        refine zF_callVi 42 (d2 := d) (as := [zI (i : Int), zI b]) dX10_screensShowing_39 rfl kX10_32 iX8_filmOn (ci := 8) rfl eX8_filmOn (Nat.le_refl _) hB.st.1 hB.st.2.1 rfl rfl (Nat.le_of_ble_eq_true rfl) (zt_X8_filmOn hB hR hV hX (by omega) (by omega) (by first | decide | assumption | exact hb _ | exact mSh_rg hb _ _ | exact zb_rg _ | (constructor <;> omega))) ?_
        refine zF_iload_n 43 dX10_screensShowing_42 rfl rfl ?_
        refine zF_icmp_ne 49 46 dX10_screensShowing_43 rfl rfl (by first | decide | assumption | exact hb _ | exact mSh_rg hb _ _ | exact zb_rg _ | (constructor <;> omega)) (by first | decide | assumption | exact hb _ | exact mSh_rg hb _ _ | exact zb_rg _ | (constructor <;> omega)) (fun c3 => ?_) (fun c3 => ?_)
        · refine zF_iinc 52 (ls' := [(5, zI ((i : Int) + 1)), (4, zI (mCntN N h f b i)), (0, zR (B 300)), (1, zI h), (2, zI f), (3, zI b)]) dX10_screensShowing_49 rfl rfl rfl (by decide) rfl ?_
          refine zF_goto 6 dX10_screensShowing_52 rfl ?_
          exact zF_locs (ls' := [(5, zI ((i + 1 : Nat) : Int)), (4, zI (mCntN N h f b (i + 1))), (0, zR (B 300)), (1, zI h), (2, zI f), (3, zI b)]) ⟨zlI rfl (by first | rfl | omega | (push_cast; omega) | exact congrArg (_ + ·) (zbT (by assumption)) | exact congrArg (_ + ·) (zbF (by assumption)) | exact congrArg (_ + ·) (zbT (by omega)) | exact congrArg (_ + ·) (zbF (by omega)) | exact congrArg (_ + ·) (if_pos (by omega)).symm | exact congrArg (_ + ·) (if_neg (by omega)).symm | exact (if_pos (by omega)).symm | exact (if_neg (by omega)).symm | exact zsub_s (if_pos (by omega)).symm | exact zsub_s0 (if_neg (by omega)).symm | exact zadd0 (if_neg (by omega)).symm | exact zadd0 (zbF (by omega)) | exact (Int.sub_zero _).symm), zlI rfl (by first | rfl | omega | (push_cast; omega) | exact congrArg (_ + ·) (zbT (by assumption)) | exact congrArg (_ + ·) (zbF (by assumption)) | exact congrArg (_ + ·) (zbT (by omega)) | exact congrArg (_ + ·) (zbF (by omega)) | exact congrArg (_ + ·) (if_pos (by omega)).symm | exact congrArg (_ + ·) (if_neg (by omega)).symm | exact (if_pos (by omega)).symm | exact (if_neg (by omega)).symm | exact zsub_s (if_pos (by omega)).symm | exact zsub_s0 (if_neg (by omega)).symm | exact zadd0 (if_neg (by omega)).symm | exact zadd0 (zbF (by omega)) | exact (Int.sub_zero _).symm), rfl, rfl, rfl, rfl, trivial⟩ ih6
        · refine zF_iinc 49 (ls' := [(4, zI ((mCntN N h f b i) + 1)), (5, zI (i : Int)), (0, zR (B 300)), (1, zI h), (2, zI f), (3, zI b)]) dX10_screensShowing_46 rfl rfl rfl (by decide) rfl ?_
          refine zF_iinc 52 (ls' := [(5, zI ((i : Int) + 1)), (4, zI ((mCntN N h f b i) + 1)), (0, zR (B 300)), (1, zI h), (2, zI f), (3, zI b)]) dX10_screensShowing_49 rfl rfl rfl (by decide) rfl ?_
          refine zF_goto 6 dX10_screensShowing_52 rfl ?_
          exact zF_locs (ls' := [(5, zI ((i + 1 : Nat) : Int)), (4, zI (mCntN N h f b (i + 1))), (0, zR (B 300)), (1, zI h), (2, zI f), (3, zI b)]) ⟨zlI rfl (by first | rfl | omega | (push_cast; omega) | exact congrArg (_ + ·) (zbT (by assumption)) | exact congrArg (_ + ·) (zbF (by assumption)) | exact congrArg (_ + ·) (zbT (by omega)) | exact congrArg (_ + ·) (zbF (by omega)) | exact congrArg (_ + ·) (if_pos (by omega)).symm | exact congrArg (_ + ·) (if_neg (by omega)).symm | exact (if_pos (by omega)).symm | exact (if_neg (by omega)).symm | exact zsub_s (if_pos (by omega)).symm | exact zsub_s0 (if_neg (by omega)).symm | exact zadd0 (if_neg (by omega)).symm | exact zadd0 (zbF (by omega)) | exact (Int.sub_zero _).symm), zlI rfl (by first | rfl | omega | (push_cast; omega) | exact congrArg (_ + ·) (zbT (by assumption)) | exact congrArg (_ + ·) (zbF (by assumption)) | exact congrArg (_ + ·) (zbT (by omega)) | exact congrArg (_ + ·) (zbF (by omega)) | exact congrArg (_ + ·) (if_pos (by omega)).symm | exact congrArg (_ + ·) (if_neg (by omega)).symm | exact (if_pos (by omega)).symm | exact (if_neg (by omega)).symm | exact zsub_s (if_pos (by omega)).symm | exact zsub_s0 (if_neg (by omega)).symm | exact zadd0 (if_neg (by omega)).symm | exact zadd0 (zbF (by omega)) | exact (Int.sub_zero _).symm), rfl, rfl, rfl, rfl, trivial⟩ ih6
  · show zF G mX10_screensShowing (d + 1) 6 [(5, zI (((nS N) : Nat) : Int)), (4, zI (mCntN N h f b (nS N))), (0, zR (B 300)), (1, zI h), (2, zI f), (3, zI b)] [] σ _
    refine zF_iload 8 dX10_screensShowing_6 rfl rfl ?_
    refine zF_aload_n 9 dX10_screensShowing_8 rfl rfl ?_
    refine zF_getR 12 dX10_screensShowing_9 rfl gX10_18 hB.wk.1 hB.wk.2.1 hB.wk.2.2.1 ?_
    refine zF_getI 15 dX10_screensShowing_12 rfl gX10_26 (by decide) (by decide) hB.ch.1 hB.ch.2.1 hR.c.1.2.1 ?_
    refine zF_icmp_ge 55 18 dX10_screensShowing_15 rfl rfl (by first | decide | assumption | exact hb _ | exact mSh_rg hb _ _ | exact zb_rg _ | (constructor <;> omega)) (by first | decide | assumption | exact hb _ | exact mSh_rg hb _ _ | exact zb_rg _ | (constructor <;> omega)) (fun c4 => ?_) (fun c4 => ?_)
    · refine zF_iload 57 dX10_screensShowing_55 rfl rfl ?_
      exact zF_iretP dX10_screensShowing_57 rfl (rfl)
    · exact absurd c4 (by omega)
theorem zt_X10_printsNeeded {f p : Int} (hB : cM σ B) (hR : cR N σ B) (hV : mV N) (hX : mX N) (h2 : zrg f) (h3 : zrg p) : zP1 G mX10_printsNeeded (d + 2) [zR (B 300), zI f, zI p] σ (if p = -1 then 0 else mNeed N p f) := by
  refine zE_of rfl (by simp [zcat]) (Nat.le_of_ble_eq_true rfl) ?_
  show zF G mX10_printsNeeded (d + 2) 0 [(0, zR (B 300)), (1, zI f), (2, zI p)] [] σ _
  have hb := hV.b
  have hn := hV.n
  refine zF_iconst 1 dX10_printsNeeded_0 rfl ?_
  refine zF_istore_n 2 (ls' := [(3, zI 0), (0, zR (B 300)), (1, zI f), (2, zI p)]) dX10_printsNeeded_1 rfl (by decide) rfl ?_
  refine zF_iload_n 3 dX10_printsNeeded_2 rfl rfl ?_
  refine zF_iconst 4 dX10_printsNeeded_3 rfl ?_
  refine zF_icmp_eq 36 7 dX10_printsNeeded_4 rfl rfl (by first | decide | assumption | exact hb _ | exact mSh_rg hb _ _ | exact zb_rg _ | (constructor <;> omega)) (by first | decide | assumption | exact hb _ | exact mSh_rg hb _ _ | exact zb_rg _ | (constructor <;> omega)) (fun c1 => ?_) (fun c1 => ?_)
  · refine zF_iload_n 37 dX10_printsNeeded_36 rfl rfl ?_
    exact zF_iretP dX10_printsNeeded_37 rfl (by first | exact (if_pos (by omega)).symm | exact (if_neg (by omega)).symm)
  · refine zF_iconst 8 dX10_printsNeeded_7 rfl ?_
    refine zF_istore 10 (ls' := [(4, zI 0), (3, zI 0), (0, zR (B 300)), (1, zI f), (2, zI p)]) dX10_printsNeeded_8 rfl (by decide) rfl ?_
    refine zF_locs (ls' := (fun (i : Nat) => [(4, zI (i : Int)), (3, zI (mNeedN N p f i)), (0, zR (B 300)), (1, zI f), (2, zI p)]) 0) ⟨zlI rfl (by first | rfl | omega | (push_cast; omega) | exact congrArg (_ + ·) (zbT (by assumption)) | exact congrArg (_ + ·) (zbF (by assumption)) | exact congrArg (_ + ·) (zbT (by omega)) | exact congrArg (_ + ·) (zbF (by omega)) | exact congrArg (_ + ·) (if_pos (by omega)).symm | exact congrArg (_ + ·) (if_neg (by omega)).symm | exact (if_pos (by omega)).symm | exact (if_neg (by omega)).symm | exact zsub_s (if_pos (by omega)).symm | exact zsub_s0 (if_neg (by omega)).symm | exact zadd0 (if_neg (by omega)).symm | exact zadd0 (zbF (by omega)) | exact (Int.sub_zero _).symm), zlI rfl (by first | rfl | omega | (push_cast; omega) | exact congrArg (_ + ·) (zbT (by assumption)) | exact congrArg (_ + ·) (zbF (by assumption)) | exact congrArg (_ + ·) (zbT (by omega)) | exact congrArg (_ + ·) (zbF (by omega)) | exact congrArg (_ + ·) (if_pos (by omega)).symm | exact congrArg (_ + ·) (if_neg (by omega)).symm | exact (if_pos (by omega)).symm | exact (if_neg (by omega)).symm | exact zsub_s (if_pos (by omega)).symm | exact zsub_s0 (if_neg (by omega)).symm | exact zadd0 (if_neg (by omega)).symm | exact zadd0 (zbF (by omega)) | exact (Int.sub_zero _).symm), rfl, rfl, rfl, trivial⟩ ?_
    refine zF_loop (n := 7) (fun (i : Nat) => [(4, zI (i : Int)), (3, zI (mNeedN N p f i)), (0, zR (B 300)), (1, zI f), (2, zI p)]) (fun _ => σ) (fun i hi ih10 => ?_) ?_
    · show zF G mX10_printsNeeded (d + 2) 10 [(4, zI (i : Int)), (3, zI (mNeedN N p f i)), (0, zR (B 300)), (1, zI f), (2, zI p)] [] σ _
      have q1 := mNeed_b hV p f i
      have q2 := mCnt_b hV p f (i : Int)
      refine zF_iload 12 dX10_printsNeeded_10 rfl rfl ?_
      refine zF_bipush 14 dX10_printsNeeded_12 rfl (by decide) ?_
      refine zF_icmp_ge 36 17 dX10_printsNeeded_14 rfl rfl (by first | decide | assumption | exact hb _ | exact mSh_rg hb _ _ | exact zb_rg _ | (constructor <;> omega)) (by first | decide | assumption | exact hb _ | exact mSh_rg hb _ _ | exact zb_rg _ | (constructor <;> omega)) (fun c2 => ?_) (fun c2 => ?_)
      · exact absurd c2 (by omega)
      · refine zF_iload_n 18 dX10_printsNeeded_17 rfl rfl ?_
        refine zF_aload_n 19 dX10_printsNeeded_18 rfl rfl ?_
        refine zF_iload_n 20 dX10_printsNeeded_19 rfl rfl ?_
        refine zF_iload_n 21 dX10_printsNeeded_20 rfl rfl ?_
        refine zF_iload 23 dX10_printsNeeded_21 rfl rfl ?_
        refine zF_callVi 26 (d2 := (d + 1)) (as := [zI p, zI f, zI (i : Int)]) dX10_printsNeeded_23 rfl kX10_118 iX10_screensShowing (ci := 10) rfl eX10_screensShowing (Nat.le_refl _) hB.wk.1 hB.wk.2.1 rfl rfl (Nat.le_of_ble_eq_true rfl) (zt_X10_screensShowing hB hR hV hX (by first | decide | assumption | exact hb _ | exact mSh_rg hb _ _ | exact zb_rg _ | (constructor <;> omega)) (by first | decide | assumption | exact hb _ | exact mSh_rg hb _ _ | exact zb_rg _ | (constructor <;> omega)) (by first | decide | assumption | exact hb _ | exact mSh_rg hb _ _ | exact zb_rg _ | (constructor <;> omega))) ?_
        refine zF_max 29 dX10_printsNeeded_26 rfl kX10_61 (Nat.le_refl _) (by first | decide | assumption | exact hb _ | exact mSh_rg hb _ _ | exact zb_rg _ | (constructor <;> omega)) (by first | decide | assumption | exact hb _ | exact mSh_rg hb _ _ | exact zb_rg _ | (constructor <;> omega)) (Nat.le_of_ble_eq_true rfl) ?_
        refine zF_istore_n 30 (ls' := [(3, zI (max (mNeedN N p f i) (mCnt N p f (i : Int)))), (4, zI (i : Int)), (0, zR (B 300)), (1, zI f), (2, zI p)]) dX10_printsNeeded_29 rfl (by decide) rfl ?_
        refine zF_iinc 33 (ls' := [(4, zI ((i : Int) + 1)), (3, zI (max (mNeedN N p f i) (mCnt N p f (i : Int)))), (0, zR (B 300)), (1, zI f), (2, zI p)]) dX10_printsNeeded_30 rfl rfl rfl (by decide) rfl ?_
        refine zF_goto 10 dX10_printsNeeded_33 rfl ?_
        exact zF_locs (ls' := [(4, zI ((i + 1 : Nat) : Int)), (3, zI (mNeedN N p f (i + 1))), (0, zR (B 300)), (1, zI f), (2, zI p)]) ⟨zlI rfl (by first | rfl | omega | (push_cast; omega) | exact congrArg (_ + ·) (zbT (by assumption)) | exact congrArg (_ + ·) (zbF (by assumption)) | exact congrArg (_ + ·) (zbT (by omega)) | exact congrArg (_ + ·) (zbF (by omega)) | exact congrArg (_ + ·) (if_pos (by omega)).symm | exact congrArg (_ + ·) (if_neg (by omega)).symm | exact (if_pos (by omega)).symm | exact (if_neg (by omega)).symm | exact zsub_s (if_pos (by omega)).symm | exact zsub_s0 (if_neg (by omega)).symm | exact zadd0 (if_neg (by omega)).symm | exact zadd0 (zbF (by omega)) | exact (Int.sub_zero _).symm), zlI rfl (by first | rfl | omega | (push_cast; omega) | exact congrArg (_ + ·) (zbT (by assumption)) | exact congrArg (_ + ·) (zbF (by assumption)) | exact congrArg (_ + ·) (zbT (by omega)) | exact congrArg (_ + ·) (zbF (by omega)) | exact congrArg (_ + ·) (if_pos (by omega)).symm | exact congrArg (_ + ·) (if_neg (by omega)).symm | exact (if_pos (by omega)).symm | exact (if_neg (by omega)).symm | exact zsub_s (if_pos (by omega)).symm | exact zsub_s0 (if_neg (by omega)).symm | exact zadd0 (if_neg (by omega)).symm | exact zadd0 (zbF (by omega)) | exact (Int.sub_zero _).symm), rfl, rfl, rfl, trivial⟩ ih10
    · show zF G mX10_printsNeeded (d + 2) 10 [(4, zI ((7 : Nat) : Int)), (3, zI (mNeedN N p f 7)), (0, zR (B 300)), (1, zI f), (2, zI p)] [] σ _
      refine zF_iload 12 dX10_printsNeeded_10 rfl rfl ?_
      refine zF_bipush 14 dX10_printsNeeded_12 rfl (by decide) ?_
      refine zF_icmp_ge 36 17 dX10_printsNeeded_14 rfl rfl (by first | decide | assumption | exact hb _ | exact mSh_rg hb _ _ | exact zb_rg _ | (constructor <;> omega)) (by first | decide | assumption | exact hb _ | exact mSh_rg hb _ _ | exact zb_rg _ | (constructor <;> omega)) (fun c3 => ?_) (fun c3 => ?_)
      · refine zF_iload_n 37 dX10_printsNeeded_36 rfl rfl ?_
        exact zF_iretP dX10_printsNeeded_37 rfl (by first | exact (if_pos (by omega)).symm | exact (if_neg (by omega)).symm)
      · exact absurd c3 (by omega)
theorem zt_X10_isShownIn {h f : Int} (hB : cM σ B) (hR : cR N σ B) (hV : mV N) (hX : mX N) (h2 : zrg f) (a0 : 0 ≤ h) (a1 : h < N 0) : zP1 G mX10_isShownIn (d + 3) [zR (B 300), zI h, zI f] σ (zb (0 < mNeed N h f)) := by
  refine zE_of rfl (by simp [zcat]) (Nat.le_of_ble_eq_true rfl) ?_
  show zF G mX10_isShownIn (d + 3) 0 [(0, zR (B 300)), (1, zI h), (2, zI f)] [] σ _
  have hb := hV.b
  have hn := hV.n
  have q1 := mNeed_b hV h f 7
  have q2 : mNeed N h f = mNeedN N h f 7 := rfl
  have q3 : (if h = -1 then 0 else mNeed N h f) = mNeed N h f := if_neg (by omega)
  refine zF_aload_n 1 dX10_isShownIn_0 rfl rfl ?_
  refine zF_iload_n 2 dX10_isShownIn_1 rfl rfl ?_
  refine zF_iload_n 3 dX10_isShownIn_2 rfl rfl ?_
  refine zF_callVi 6 (d2 := (d + 2)) (as := [zI f, zI h]) dX10_isShownIn_3 rfl kX10_124 iX10_printsNeeded (ci := 10) rfl eX10_printsNeeded (Nat.le_refl _) hB.wk.1 hB.wk.2.1 rfl rfl (Nat.le_of_ble_eq_true rfl) (zt_X10_printsNeeded hB hR hV hX (by first | assumption | (rw [q3]; constructor <;> omega) | (constructor <;> omega)) (by first | decide | assumption | exact hb _ | exact mSh_rg hb _ _ | exact zb_rg _ | (constructor <;> omega))) ?_
  refine zF_if_le 13 9 dX10_isShownIn_6 rfl rfl (by first | assumption | (rw [q3]; constructor <;> omega) | (constructor <;> omega)) (fun c1 => ?_) (fun c1 => ?_)
  · refine zF_iconst 14 dX10_isShownIn_13 rfl ?_
    exact zF_zretP dX10_isShownIn_14 rfl (by decide) (by first | exact zbT (by omega) | exact zbF (by omega))
  · refine zF_iconst 10 dX10_isShownIn_9 rfl ?_
    refine zF_goto 14 dX10_isShownIn_10 rfl ?_
    exact zF_zretP dX10_isShownIn_14 rfl (by decide) (by first | exact zbT (by omega) | exact zbF (by omega))
def cBkN (N : Int → Int) (n : Nat) : Int := zsum (fun s => zb (mS N s 4 ≠ -1)) n
def cHdN (N : Int → Int) (n : Nat) : Int := zsum (fun s => mS N s 7) n
theorem zt_X8_countBooked {a : Int} (hB : cM σ B) (hR : cR N σ B) (hV : mV N) (ea : a = N 1) : zP1 G mX8_countBooked d [zR (B 200), zI a] σ (cBkN N (nS N)) := by
  refine zE_of rfl (by simp [zcat]) (Nat.le_of_ble_eq_true rfl) ?_
  show zF G mX8_countBooked d 0 [(0, zR (B 200)), (1, zI a)] [] σ _
  have hb := hV.b
  have hn := hV.n
  have hs := nS_eq hV
  refine zF_iconst 1 dX8_countBooked_0 rfl ?_
  refine zF_istore_n 2 (ls' := [(2, zI 0), (0, zR (B 200)), (1, zI a)]) dX8_countBooked_1 rfl (by decide) rfl ?_
  refine zF_iconst 3 dX8_countBooked_2 rfl ?_
  refine zF_istore_n 4 (ls' := [(3, zI 0), (2, zI 0), (0, zR (B 200)), (1, zI a)]) dX8_countBooked_3 rfl (by decide) rfl ?_
  refine zF_locs (ls' := (fun (i : Nat) => [(3, zI (i : Int)), (2, zI (cBkN N i)), (0, zR (B 200)), (1, zI a)]) 0) ⟨zlI rfl (by first | rfl | omega | (push_cast; omega) | exact congrArg (_ + ·) (zbT (by assumption)) | exact congrArg (_ + ·) (zbF (by assumption)) | exact congrArg (_ + ·) (zbT (by omega)) | exact congrArg (_ + ·) (zbF (by omega)) | exact congrArg (_ + ·) (if_pos (by omega)).symm | exact congrArg (_ + ·) (if_neg (by omega)).symm | exact (if_pos (by omega)).symm | exact (if_neg (by omega)).symm | exact zsub_s (if_pos (by omega)).symm | exact zsub_s0 (if_neg (by omega)).symm | exact zadd0 (if_neg (by omega)).symm | exact zadd0 (zbF (by omega)) | exact (Int.sub_zero _).symm), zlI rfl (by first | rfl | omega | (push_cast; omega) | exact congrArg (_ + ·) (zbT (by assumption)) | exact congrArg (_ + ·) (zbF (by assumption)) | exact congrArg (_ + ·) (zbT (by omega)) | exact congrArg (_ + ·) (zbF (by omega)) | exact congrArg (_ + ·) (if_pos (by omega)).symm | exact congrArg (_ + ·) (if_neg (by omega)).symm | exact (if_pos (by omega)).symm | exact (if_neg (by omega)).symm | exact zsub_s (if_pos (by omega)).symm | exact zsub_s0 (if_neg (by omega)).symm | exact zadd0 (if_neg (by omega)).symm | exact zadd0 (zbF (by omega)) | exact (Int.sub_zero _).symm), rfl, rfl, trivial⟩ ?_
  refine zF_loop (n := (nS N)) (fun (i : Nat) => [(3, zI (i : Int)), (2, zI (cBkN N i)), (0, zR (B 200)), (1, zI a)]) (fun _ => σ) (fun i hi ih4 => ?_) ?_
  · show zF G mX8_countBooked d 4 [(3, zI (i : Int)), (2, zI (cBkN N i)), (0, zR (B 200)), (1, zI a)] [] σ _
    refine zF_iload_n 5 dX8_countBooked_4 rfl rfl ?_
    refine zF_iload_n 6 dX8_countBooked_5 rfl rfl ?_
    refine zF_icmp_ge 28 9 dX8_countBooked_6 rfl rfl (by first | decide | assumption | exact hb _ | exact mSh_rg hb _ _ | exact zb_rg _ | (constructor <;> omega)) (by first | decide | assumption | exact hb _ | exact mSh_rg hb _ _ | exact zb_rg _ | (constructor <;> omega)) (fun c1 => ?_) (fun c1 => ?_)
    · exact absurd c1 (by omega)
    · refine zF_aload_n 10 dX8_countBooked_9 rfl rfl ?_
      refine zF_getR 13 dX8_countBooked_10 rfl gX8_21 hB.st.1 hB.st.2.1 (cB_206 hB).1 ?_
      refine zF_iload_n 14 dX8_countBooked_13 rfl rfl ?_
      refine zF_iaload 15 dX8_countBooked_14 rfl (cB_206 hB).2.2 (cB_206 hB).2.1 (by omega) (by omega) (hR.s.2.2.1 _ (by omega) (by omega)).2.1 ?_
      refine zF_iconst 16 dX8_countBooked_15 rfl ?_
      refine zF_icmp_eq 22 19 dX8_countBooked_16 rfl rfl (by first | decide | assumption | exact hb _ | exact mSh_rg hb _ _ | exact zb_rg _ | (constructor <;> omega)) (by first | decide | assumption | exact hb _ | exact mSh_rg hb _ _ | exact zb_rg _ | (constructor <;> omega)) (fun c2 => ?_) (fun c2 => ?_)
      · refine zF_iinc 25 (ls' := [(3, zI ((i : Int) + 1)), (2, zI (cBkN N i)), (0, zR (B 200)), (1, zI a)]) dX8_countBooked_22 rfl rfl rfl (by decide) rfl ?_
        refine zF_goto 4 dX8_countBooked_25 rfl ?_
        exact zF_locs (ls' := [(3, zI ((i + 1 : Nat) : Int)), (2, zI (cBkN N (i + 1))), (0, zR (B 200)), (1, zI a)]) ⟨zlI rfl (by first | rfl | omega | (push_cast; omega) | exact congrArg (_ + ·) (zbT (by assumption)) | exact congrArg (_ + ·) (zbF (by assumption)) | exact congrArg (_ + ·) (zbT (by omega)) | exact congrArg (_ + ·) (zbF (by omega)) | exact congrArg (_ + ·) (if_pos (by omega)).symm | exact congrArg (_ + ·) (if_neg (by omega)).symm | exact (if_pos (by omega)).symm | exact (if_neg (by omega)).symm | exact zsub_s (if_pos (by omega)).symm | exact zsub_s0 (if_neg (by omega)).symm | exact zadd0 (if_neg (by omega)).symm | exact zadd0 (zbF (by omega)) | exact (Int.sub_zero _).symm), zlI rfl (by first | rfl | omega | (push_cast; omega) | exact congrArg (_ + ·) (zbT (by assumption)) | exact congrArg (_ + ·) (zbF (by assumption)) | exact congrArg (_ + ·) (zbT (by omega)) | exact congrArg (_ + ·) (zbF (by omega)) | exact congrArg (_ + ·) (if_pos (by omega)).symm | exact congrArg (_ + ·) (if_neg (by omega)).symm | exact (if_pos (by omega)).symm | exact (if_neg (by omega)).symm | exact zsub_s (if_pos (by omega)).symm | exact zsub_s0 (if_neg (by omega)).symm | exact zadd0 (if_neg (by omega)).symm | exact zadd0 (zbF (by omega)) | exact (Int.sub_zero _).symm), rfl, rfl, trivial⟩ ih4
      · refine zF_iinc 22 (ls' := [(2, zI ((cBkN N i) + 1)), (3, zI (i : Int)), (0, zR (B 200)), (1, zI a)]) dX8_countBooked_19 rfl rfl rfl (by decide) rfl ?_
        refine zF_iinc 25 (ls' := [(3, zI ((i : Int) + 1)), (2, zI ((cBkN N i) + 1)), (0, zR (B 200)), (1, zI a)]) dX8_countBooked_22 rfl rfl rfl (by decide) rfl ?_
        refine zF_goto 4 dX8_countBooked_25 rfl ?_
        exact zF_locs (ls' := [(3, zI ((i + 1 : Nat) : Int)), (2, zI (cBkN N (i + 1))), (0, zR (B 200)), (1, zI a)]) ⟨zlI rfl (by first | rfl | omega | (push_cast; omega) | exact congrArg (_ + ·) (zbT (by assumption)) | exact congrArg (_ + ·) (zbF (by assumption)) | exact congrArg (_ + ·) (zbT (by omega)) | exact congrArg (_ + ·) (zbF (by omega)) | exact congrArg (_ + ·) (if_pos (by omega)).symm | exact congrArg (_ + ·) (if_neg (by omega)).symm | exact (if_pos (by omega)).symm | exact (if_neg (by omega)).symm | exact zsub_s (if_pos (by omega)).symm | exact zsub_s0 (if_neg (by omega)).symm | exact zadd0 (if_neg (by omega)).symm | exact zadd0 (zbF (by omega)) | exact (Int.sub_zero _).symm), zlI rfl (by first | rfl | omega | (push_cast; omega) | exact congrArg (_ + ·) (zbT (by assumption)) | exact congrArg (_ + ·) (zbF (by assumption)) | exact congrArg (_ + ·) (zbT (by omega)) | exact congrArg (_ + ·) (zbF (by omega)) | exact congrArg (_ + ·) (if_pos (by omega)).symm | exact congrArg (_ + ·) (if_neg (by omega)).symm | exact (if_pos (by omega)).symm | exact (if_neg (by omega)).symm | exact zsub_s (if_pos (by omega)).symm | exact zsub_s0 (if_neg (by omega)).symm | exact zadd0 (if_neg (by omega)).symm | exact zadd0 (zbF (by omega)) | exact (Int.sub_zero _).symm), rfl, rfl, trivial⟩ ih4
  · show zF G mX8_countBooked d 4 [(3, zI (((nS N) : Nat) : Int)), (2, zI (cBkN N (nS N))), (0, zR (B 200)), (1, zI a)] [] σ _
    refine zF_iload_n 5 dX8_countBooked_4 rfl rfl ?_
    refine zF_iload_n 6 dX8_countBooked_5 rfl rfl ?_
    refine zF_icmp_ge 28 9 dX8_countBooked_6 rfl rfl (by first | decide | assumption | exact hb _ | exact mSh_rg hb _ _ | exact zb_rg _ | (constructor <;> omega)) (by first | decide | assumption | exact hb _ | exact mSh_rg hb _ _ | exact zb_rg _ | (constructor <;> omega)) (fun c3 => ?_) (fun c3 => ?_)
    · refine zF_iload_n 29 dX8_countBooked_28 rfl rfl ?_
      exact zF_iretP dX8_countBooked_29 rfl (rfl)
    · exact absurd c3 (by omega)
theorem zt_X8_countHeld {a : Int} (hB : cM σ B) (hR : cR N σ B) (hV : mV N) (ea : a = N 1) : zP1 G mX8_countHeld d [zR (B 200), zI a] σ (cHdN N (nS N)) := by
  refine zE_of rfl (by simp [zcat]) (Nat.le_of_ble_eq_true rfl) ?_
  show zF G mX8_countHeld d 0 [(0, zR (B 200)), (1, zI a)] [] σ _
  have hb := hV.b
  have hn := hV.n
  have hs := nS_eq hV
  refine zF_iconst 1 dX8_countHeld_0 rfl ?_
  refine zF_istore_n 2 (ls' := [(2, zI 0), (0, zR (B 200)), (1, zI a)]) dX8_countHeld_1 rfl (by decide) rfl ?_
  refine zF_iconst 3 dX8_countHeld_2 rfl ?_
  refine zF_istore_n 4 (ls' := [(3, zI 0), (2, zI 0), (0, zR (B 200)), (1, zI a)]) dX8_countHeld_3 rfl (by decide) rfl ?_
  refine zF_locs (ls' := (fun (i : Nat) => [(3, zI (i : Int)), (2, zI (cHdN N i)), (0, zR (B 200)), (1, zI a)]) 0) ⟨zlI rfl (by first | rfl | omega | (push_cast; omega) | exact congrArg (_ + ·) (zbT (by assumption)) | exact congrArg (_ + ·) (zbF (by assumption)) | exact congrArg (_ + ·) (zbT (by omega)) | exact congrArg (_ + ·) (zbF (by omega)) | exact congrArg (_ + ·) (if_pos (by omega)).symm | exact congrArg (_ + ·) (if_neg (by omega)).symm | exact (if_pos (by omega)).symm | exact (if_neg (by omega)).symm | exact zsub_s (if_pos (by omega)).symm | exact zsub_s0 (if_neg (by omega)).symm | exact zadd0 (if_neg (by omega)).symm | exact zadd0 (zbF (by omega)) | exact (Int.sub_zero _).symm), zlI rfl (by first | rfl | omega | (push_cast; omega) | exact congrArg (_ + ·) (zbT (by assumption)) | exact congrArg (_ + ·) (zbF (by assumption)) | exact congrArg (_ + ·) (zbT (by omega)) | exact congrArg (_ + ·) (zbF (by omega)) | exact congrArg (_ + ·) (if_pos (by omega)).symm | exact congrArg (_ + ·) (if_neg (by omega)).symm | exact (if_pos (by omega)).symm | exact (if_neg (by omega)).symm | exact zsub_s (if_pos (by omega)).symm | exact zsub_s0 (if_neg (by omega)).symm | exact zadd0 (if_neg (by omega)).symm | exact zadd0 (zbF (by omega)) | exact (Int.sub_zero _).symm), rfl, rfl, trivial⟩ ?_
  refine zF_loop (n := (nS N)) (fun (i : Nat) => [(3, zI (i : Int)), (2, zI (cHdN N i)), (0, zR (B 200)), (1, zI a)]) (fun _ => σ) (fun i hi ih4 => ?_) ?_
  · show zF G mX8_countHeld d 4 [(3, zI (i : Int)), (2, zI (cHdN N i)), (0, zR (B 200)), (1, zI a)] [] σ _
    refine zF_iload_n 5 dX8_countHeld_4 rfl rfl ?_
    refine zF_iload_n 6 dX8_countHeld_5 rfl rfl ?_
    refine zF_icmp_ge 24 9 dX8_countHeld_6 rfl rfl (by first | decide | assumption | exact hb _ | exact mSh_rg hb _ _ | exact zb_rg _ | (constructor <;> omega)) (by first | decide | assumption | exact hb _ | exact mSh_rg hb _ _ | exact zb_rg _ | (constructor <;> omega)) (fun c1 => ?_) (fun c1 => ?_)
    · exact absurd c1 (by omega)
    · refine zF_iload_n 10 dX8_countHeld_9 rfl rfl ?_
      refine zF_aload_n 11 dX8_countHeld_10 rfl rfl ?_
      refine zF_getR 14 dX8_countHeld_11 rfl gX8_30 hB.st.1 hB.st.2.1 (cB_209 hB).1 ?_
      refine zF_iload_n 15 dX8_countHeld_14 rfl rfl ?_
      refine zF_iaload 16 dX8_countHeld_15 rfl (cB_209 hB).2.2 (cB_209 hB).2.1 (by omega) (by omega) (hR.s.2.2.1 _ (by omega) (by omega)).2.2.2.2 ?_
      refine zF_iadd 17 dX8_countHeld_16 rfl ?_
      refine zF_istore_n 18 (ls' := [(2, zI ((cHdN N i) + (mS N (i : Int) 7))), (3, zI (i : Int)), (0, zR (B 200)), (1, zI a)]) dX8_countHeld_17 rfl (by decide) rfl ?_
      refine zF_iinc 21 (ls' := [(3, zI ((i : Int) + 1)), (2, zI ((cHdN N i) + (mS N (i : Int) 7))), (0, zR (B 200)), (1, zI a)]) dX8_countHeld_18 rfl rfl rfl (by decide) rfl ?_
      refine zF_goto 4 dX8_countHeld_21 rfl ?_
      exact zF_locs (ls' := [(3, zI ((i + 1 : Nat) : Int)), (2, zI (cHdN N (i + 1))), (0, zR (B 200)), (1, zI a)]) ⟨zlI rfl (by first | rfl | omega | (push_cast; omega) | exact congrArg (_ + ·) (zbT (by assumption)) | exact congrArg (_ + ·) (zbF (by assumption)) | exact congrArg (_ + ·) (zbT (by omega)) | exact congrArg (_ + ·) (zbF (by omega)) | exact congrArg (_ + ·) (if_pos (by omega)).symm | exact congrArg (_ + ·) (if_neg (by omega)).symm | exact (if_pos (by omega)).symm | exact (if_neg (by omega)).symm | exact zsub_s (if_pos (by omega)).symm | exact zsub_s0 (if_neg (by omega)).symm | exact zadd0 (if_neg (by omega)).symm | exact zadd0 (zbF (by omega)) | exact (Int.sub_zero _).symm), zlI rfl (by first | rfl | omega | (push_cast; omega) | exact congrArg (_ + ·) (zbT (by assumption)) | exact congrArg (_ + ·) (zbF (by assumption)) | exact congrArg (_ + ·) (zbT (by omega)) | exact congrArg (_ + ·) (zbF (by omega)) | exact congrArg (_ + ·) (if_pos (by omega)).symm | exact congrArg (_ + ·) (if_neg (by omega)).symm | exact (if_pos (by omega)).symm | exact (if_neg (by omega)).symm | exact zsub_s (if_pos (by omega)).symm | exact zsub_s0 (if_neg (by omega)).symm | exact zadd0 (if_neg (by omega)).symm | exact zadd0 (zbF (by omega)) | exact (Int.sub_zero _).symm), rfl, rfl, trivial⟩ ih4
  · show zF G mX8_countHeld d 4 [(3, zI (((nS N) : Nat) : Int)), (2, zI (cHdN N (nS N))), (0, zR (B 200)), (1, zI a)] [] σ _
    refine zF_iload_n 5 dX8_countHeld_4 rfl rfl ?_
    refine zF_iload_n 6 dX8_countHeld_5 rfl rfl ?_
    refine zF_icmp_ge 24 9 dX8_countHeld_6 rfl rfl (by first | decide | assumption | exact hb _ | exact mSh_rg hb _ _ | exact zb_rg _ | (constructor <;> omega)) (by first | decide | assumption | exact hb _ | exact mSh_rg hb _ _ | exact zb_rg _ | (constructor <;> omega)) (fun c2 => ?_) (fun c2 => ?_)
    · refine zF_iload_n 25 dX8_countHeld_24 rfl rfl ?_
      exact zF_iretP dX8_countHeld_25 rfl (rfl)
    · exact absurd c2 (by omega)
end ZC2
