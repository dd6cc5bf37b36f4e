/-! the class, asked by the law; all that it answers, in one number -/
section ZQ1
variable {G : zG} {M : zMeth} {d pc : Nat} {ls : List (Nat × zV)} {st : List zV} {σ σ1 : zMem} {Q : zRes → zMem → Prop} {E : Nat → Nat} {N : Int → Int} {T : Int} {as : List zV}
/-- the class with its numbers, between the calls -/
def cK (T : Int) (N : Int → Int) (σ : zMem) : Prop := pSh σ ∧ cR N σ B0 ∧ gN T N ∧ zia σ (B0 408) 0 = 0
theorem cK.V (h : cK T N σ) : mV N := h.2.2.1.1
theorem cK.W (h : cK T N σ) : mW N := h.2.2.1.2.1
theorem cK.X (h : cK T N σ) : mX N := h.2.2.1.2.2.1
theorem cK.mq (h : cK T N σ) : mQ N := h.2.2.1.2.2.2.1
theorem zop_0 {k v : Int} (h : zE G M d as σ (zop k v σ)) (hk : k = 0) : zP1 G M d as σ v := h.mono fun ro σ1 z => by
  rcases z with ⟨_, e1, e2⟩ | ⟨c, _⟩ | ⟨c, _⟩
  · exact ⟨e2, e1⟩
  · omega
  · omega
theorem qL_size {w : Int} (hG : zGd G) (k : cK T N σ) (w0 : 0 ≤ w) (w1 : w ≤ 7) : zP1 G mX11_size (d + 8) [zR (B0 0), zI w] σ (sSize N w) := zop_0 (zt_X11_size hG k.1.cO k.2.1 k.V (by constructor <;> omega)) (by rw [if_pos ⟨w0, w1⟩])
theorem qL_screen {s w : Int} (hG : zGd G) (k : cK T N σ) (s0 : 0 ≤ s) (s1 : s < N 1) (w0 : 0 ≤ w) (w1 : w ≤ 8) : zP1 G mX11_screen (d + 8) [zR (B0 0), zI s, zI w] σ (sScreen N s w) := by
  have := k.V.n
  exact zop_0 (zt_X11_screen hG k.1.cO k.2.1 k.V k.W (by constructor <;> omega) (by constructor <;> omega)) (by rw [if_pos ⟨s0, s1⟩, if_pos ⟨w0, w1⟩])
theorem qL_house {s w : Int} (hG : zGd G) (k : cK T N σ) (s0 : 0 ≤ s) (s1 : s < N 0) (w0 : 0 ≤ w) (w1 : w ≤ 5) : zP1 G mX11_house (d + 8) [zR (B0 0), zI s, zI w] σ (sHouse N s w) := by
  have := k.V.n
  exact zop_0 (zt_X11_house hG k.1.cO k.2.1 k.V k.W k.X (by constructor <;> omega) (by constructor <;> omega)) (by rw [if_pos ⟨s0, s1⟩, if_pos ⟨w0, w1⟩])
theorem qL_film {s w : Int} (hG : zGd G) (k : cK T N σ) (s0 : 0 ≤ s) (s1 : s < N 2) (w0 : 0 ≤ w) (w1 : w ≤ 7) : zP1 G mX11_film (d + 8) [zR (B0 0), zI s, zI w] σ (sFilm N s w) := by
  have := k.V.n
  exact zop_0 (zt_X11_film hG k.1.cO k.2.1 k.V k.X (by constructor <;> omega) (by constructor <;> omega)) (by rw [if_pos ⟨s0, s1⟩, if_pos ⟨w0, w1⟩])
theorem qL_prints {s w : Int} (hG : zGd G) (k : cK T N σ) (s0 : 0 ≤ s) (s1 : s < N 2) (w0 : -1 ≤ w) (w1 : w < N 0) : zP1 G mX11_prints (d + 8) [zR (B0 0), zI s, zI w] σ (mP N s w) := by
  have := k.V.n
  exact zop_0 (zt_X11_prints hG k.1.cO k.2.1 k.V (by constructor <;> omega) (by constructor <;> omega)) (by rw [if_pos ⟨s0, s1⟩, if_pos ⟨w0, w1⟩])
theorem qL_run {s w : Int} (hG : zGd G) (k : cK T N σ) (s0 : 0 ≤ s) (s1 : s < N 0) (w0 : 0 ≤ w) (w1 : w < N 2) : zP1 G mX11_run (d + 8) [zR (B0 0), zI s, zI w] σ (mR N s w) := by
  have := k.V.n
  exact zop_0 (zt_X11_run hG k.1.cO k.2.1 k.V (by constructor <;> omega) (by constructor <;> omega)) (by rw [if_pos ⟨s0, s1⟩, if_pos ⟨w0, w1⟩])
theorem qL_total {w : Int} (hG : zGd G) (k : cK T N σ) (w0 : 0 ≤ w) (w1 : w ≤ 4) : zP1 G mX11_total (d + 8) [zR (B0 0), zI w] σ (sTotal N w) := zop_0 (zt_X11_total hG k.1.cO k.2.1 k.V (by constructor <;> omega)) (by rw [if_pos ⟨w0, w1⟩])
theorem qL_visitors {s w : Int} (hG : zGd G) (k : cK T N σ) (s0 : 0 ≤ s) (s1 : s < N 1) (w0 : 0 ≤ w) (w1 : w < 7) : zP1 G mX11_visitors (d + 8) [zR (B0 0), zI s, zI w] σ (gv N s w) := by
  have := k.V.n
  exact zop_0 (zt_X11_visitors hG k.1.cO k.2.1 k.V (by constructor <;> omega) (by constructor <;> omega)) (by rw [if_pos ⟨s0, s1⟩, if_pos ⟨w0, w1⟩])
theorem qL_shown {s w : Int} (hG : zGd G) (k : cK T N σ) (s0 : 0 ≤ s) (s1 : s < N 1) (w0 : 0 ≤ w) (w1 : w < 7) : zP1 G mX11_shown (d + 8) [zR (B0 0), zI s, zI w] σ (mSh N s w) := by
  have := k.V.n
  exact zop_0 (zt_X11_shown hG k.1.cO k.2.1 k.V k.X (by constructor <;> omega) (by constructor <;> omega)) (by rw [if_pos ⟨s0, s1⟩, if_pos ⟨w0, w1⟩])
theorem qL_share {s w : Int} (hG : zGd G) (k : cK T N σ) (s0 : 0 ≤ s) (s1 : s < N 0) (w0 : 0 ≤ w) (w1 : w < N 2) : zP1 G mX11_share (d + 8) [zR (B0 0), zI s, zI w] σ (mShare N s w (cFi N s w)) := by
  have := k.V.n
  exact zop_0 (zt_X11_share hG k.1.cO k.2.1 k.V k.X (by constructor <;> omega) (by constructor <;> omega)) (by rw [if_pos ⟨s0, s1⟩, if_pos ⟨w0, w1⟩])
theorem qL_wouldHold {s : Int} (hG : zGd G) (k : cK T N σ) (s0 : 0 ≤ s) (s1 : s < N 1) : zP1 G mX11_wouldHold (d + 8) [zR (B0 0), zI s] σ (zb (mHold N s)) := by
  have := k.V.n
  exact zop_0 (zt_X11_wouldHold hG k.1.cO k.2.1 k.V k.W k.X k.mq (by constructor <;> omega)) (by rw [if_pos ⟨s0, s1⟩])
theorem qL_closed {s w : Int} (hG : zGd G) (k : cK T N σ) (s0 : 0 ≤ s) (s1 : s < min 20 (N 3)) (w0 : 0 ≤ w) (w1 : w < 5) : zP1 G mX11_closed (d + 8) [zR (B0 0), zI s, zI w] σ (N (212 + 5 * s + w)) := by
  exact zop_0 (zt_X11_closed hG k.1.cO k.2.1 k.V (by constructor <;> omega) (by constructor <;> omega)) (by rw [if_pos ⟨s0, s1⟩, if_pos ⟨w0, w1⟩])
/-- an int as it lies in a word -/
def w32 (z : Int) : Int := (Int32.ofInt z).toInt
theorem w32_rg (z : Int) : zrg (w32 z) := zrg_x _
theorem zF_Iw {z : Int} (kk : zF G M d pc ls (zI (w32 z) :: st) σ Q) : zF G M d pc ls (zI z :: st) σ Q := by
  obtain ⟨r, σ', hq, hu, hS⟩ := kk
  refine ⟨r, σ', hq, hu, fun ρ p e R s m args below meth c hC H locs cells slots lsA hSt h1 h2 => ?_⟩
  have k := hS ρ p e R s m args below meth c hC H locs cells slots lsA hSt h1 h2
  have e1 : (zI (w32 z) :: st).map (ztr ρ) = (zI z :: st).map (ztr ρ) := by
    show Value.int (Int32.ofInt (w32 z)) :: _ = Value.int (Int32.ofInt z) :: _
    unfold w32
    rw [Int32.ofInt_toInt]
  rw [e1] at k
  exact k
def ia (f : Nat → Int) (v : Int) : Nat → Int
  | 0 => v
  | n + 1 => 31 * ia f v n + w32 (f n)
def aV1 (N : Int → Int) : Int := ia (fun k => sSize N k) ((((0 : Fin 2) : Nat) : Int)) 8
def aV2 (N : Int → Int) : Nat → Int
  | 0 => aV1 N
  | n + 1 => ia (fun k => sScreen N n k) (aV2 N n) 9
def aV3 (N : Int → Int) : Nat → Int
  | 0 => aV2 N (N 1).toNat
  | n + 1 => ia (fun k => sHouse N n k) (aV3 N n) 6
def aV4 (N : Int → Int) : Nat → Int
  | 0 => aV3 N (N 0).toNat
  | n + 1 => ia (fun k => mR N k n) (ia (fun k => mP N n ((k : Int) + -1)) (ia (fun k => sFilm N n k) (aV4 N n) 8) ((N 0).toNat + 1)) (N 0).toNat
/-- all that the class answers, in one number -/
def aV (N : Int → Int) : Int := ia (fun k => sTotal N k) (aV4 N (N 2).toNat) 5
set_option maxRecDepth 20000 in
theorem zt_L_all  (hGd : zGd G) (hK : cK T N σ) : zE G mL_all (d + 9) [zR (B0 0)] σ (fun ro σ1 => σ1 = σ ∧ ro = .inl (some (zL (aV N)))) := by
  refine zE_of rfl (by simp [zcat]) (Nat.le_of_ble_eq_true rfl) ?_
  show zF G mL_all (d + 9) 0 [(0, zR (B0 0))] [] σ _
  have hn := hK.V.n
  refine zF_lconst 1 dL_all_0 rfl ?_
  refine zF_lstore_n 2 (ls' := [(1, zL (((0 : Fin 2) : Nat) : Int)), (0, zR (B0 0))]) dL_all_1 rfl (by decide) rfl ?_
  refine zF_iconst 3 dL_all_2 rfl ?_
  refine zF_istore_n 4 (ls' := [(3, zI 0), (1, zL (((0 : Fin 2) : Nat) : Int)), (0, zR (B0 0))]) dL_all_3 rfl (by decide) rfl ?_
  refine zF_locs (ls' := (fun (i1 : Nat) => [(3, zI (i1 : Int)), (1, zL (ia (fun k => sSize N k) ((((0 : Fin 2) : Nat) : Int)) i1)), (0, zR (B0 0))]) 0) ⟨zlI rfl (by first | rfl | omega | (push_cast; omega) | exact congrArg (_ + ·) (zbT (by assumption)) | exact congrArg (_ + ·) (zbF (by assumption)) | exact congrArg (_ + ·) (zbT (by omega)) | exact congrArg (_ + ·) (zbF (by omega)) | exact congrArg (_ + ·) (if_pos (by omega)).symm | exact congrArg (_ + ·) (if_neg (by omega)).symm | exact (if_pos (by omega)).symm | exact (if_neg (by omega)).symm | exact zsub_s (if_pos (by omega)).symm | exact zsub_s0 (if_neg (by omega)).symm | exact zadd0 (if_neg (by omega)).symm | exact zadd0 (zbF (by omega)) | exact (Int.sub_zero _).symm), rfl, rfl, trivial⟩ ?_
  refine zF_loop (n := 8) (fun (i1 : Nat) => [(3, zI (i1 : Int)), (1, zL (ia (fun k => sSize N k) ((((0 : Fin 2) : Nat) : Int)) i1)), (0, zR (B0 0))]) (fun _ => σ) (fun i1 hi1 ih4 => ?_) ?_
  · show zF G mL_all (d + 9) 4 [(3, zI (i1 : Int)), (1, zL (ia (fun k => sSize N k) ((((0 : Fin 2) : Nat) : Int)) i1)), (0, zR (B0 0))] [] σ _
    refine zF_iload_n 5 dL_all_4 rfl rfl ?_
    refine zF_bipush 7 dL_all_5 rfl (by decide) ?_
    refine zF_icmp_ge 29 10 dL_all_7 rfl rfl (by first | decide | assumption | exact w32_rg _ | (constructor <;> omega)) (by first | decide | assumption | exact w32_rg _ | (constructor <;> omega)) (fun c1 => ?_) (fun c1 => ?_)
    · exact absurd c1 (by omega)
    · refine zF_ldc2 13 dL_all_10 rfl oL_192 ?_
      refine zF_lload_n 14 dL_all_13 rfl rfl ?_
      refine zF_lmul 15 dL_all_14 rfl ?_
      refine zF_aload_n 16 dL_all_15 rfl rfl ?_
      refine zF_iload_n 17 dL_all_16 rfl rfl ?_
      refine zF_callVi 20 (d2 := (d + 8)) (as := [zI (i1 : Int)]) dL_all_17 rfl kL_110 iX11_size (ci := 11) rfl eX11_size (Nat.le_refl _) hK.1.bk hK.1.bl rfl rfl (Nat.le_of_ble_eq_true rfl) ((show zP1 G mX11_size _ _ σ (sSize N (i1 : Int)) from qL_size (d := d + 0) hGd hK (by omega) (by omega))) ?_
      refine zF_Iw ?_
      refine zF_i2l 21 dL_all_20 rfl (by first | decide | assumption | exact w32_rg _ | (constructor <;> omega)) ?_
      refine zF_ladd 22 dL_all_21 rfl ?_
      refine zF_lstore_n 23 (ls' := [(1, zL (((31) * (ia (fun k => sSize N k) ((((0 : Fin 2) : Nat) : Int)) i1)) + (w32 (sSize N (i1 : Int))))), (3, zI (i1 : Int)), (0, zR (B0 0))]) dL_all_22 rfl (by decide) rfl ?_
      refine zF_iinc 26 (ls' := [(3, zI ((i1 : Int) + 1)), (1, zL (((31) * (ia (fun k => sSize N k) ((((0 : Fin 2) : Nat) : Int)) i1)) + (w32 (sSize N (i1 : Int))))), (0, zR (B0 0))]) dL_all_23 rfl rfl rfl (by decide) rfl ?_
      refine zF_goto 4 dL_all_26 rfl ?_
      exact zF_locs (ls' := [(3, zI ((i1 + 1 : Nat) : Int)), (1, zL (ia (fun k => sSize N k) ((((0 : Fin 2) : Nat) : Int)) (i1 + 1))), (0, zR (B0 0))]) ⟨zlI rfl (by first | rfl | omega | (push_cast; omega) | exact congrArg (_ + ·) (zbT (by assumption)) | exact congrArg (_ + ·) (zbF (by assumption)) | exact congrArg (_ + ·) (zbT (by omega)) | exact congrArg (_ + ·) (zbF (by omega)) | exact congrArg (_ + ·) (if_pos (by omega)).symm | exact congrArg (_ + ·) (if_neg (by omega)).symm | exact (if_pos (by omega)).symm | exact (if_neg (by omega)).symm | exact zsub_s (if_pos (by omega)).symm | exact zsub_s0 (if_neg (by omega)).symm | exact zadd0 (if_neg (by omega)).symm | exact zadd0 (zbF (by omega)) | exact (Int.sub_zero _).symm), rfl, rfl, trivial⟩ ih4
  · show zF G mL_all (d + 9) 4 [(3, zI ((8 : Nat) : Int)), (1, zL (ia (fun k => sSize N k) ((((0 : Fin 2) : Nat) : Int)) 8)), (0, zR (B0 0))] [] σ _
    refine zF_iload_n 5 dL_all_4 rfl rfl ?_
    refine zF_bipush 7 dL_all_5 rfl (by decide) ?_
    refine zF_icmp_ge 29 10 dL_all_7 rfl rfl (by first | decide | assumption | exact w32_rg _ | (constructor <;> omega)) (by first | decide | assumption | exact w32_rg _ | (constructor <;> omega)) (fun c2 => ?_) (fun c2 => ?_)
    · refine zF_iconst 30 dL_all_29 rfl ?_
      refine zF_istore_n 31 (ls' := [(3, zI 0), (1, zL (ia (fun k => sSize N k) ((((0 : Fin 2) : Nat) : Int)) 8)), (0, zR (B0 0))]) dL_all_30 rfl (by decide) rfl ?_
      refine zF_locs (ls' := (fun (i2 : Nat) => [(3, zI (i2 : Int)), (1, zL (aV2 N i2)), (0, zR (B0 0))]) 0) ⟨zlI rfl (by first | rfl | omega | (push_cast; omega) | exact congrArg (_ + ·) (zbT (by assumption)) | exact congrArg (_ + ·) (zbF (by assumption)) | exact congrArg (_ + ·) (zbT (by omega)) | exact congrArg (_ + ·) (zbF (by omega)) | exact congrArg (_ + ·) (if_pos (by omega)).symm | exact congrArg (_ + ·) (if_neg (by omega)).symm | exact (if_pos (by omega)).symm | exact (if_neg (by omega)).symm | exact zsub_s (if_pos (by omega)).symm | exact zsub_s0 (if_neg (by omega)).symm | exact zadd0 (if_neg (by omega)).symm | exact zadd0 (zbF (by omega)) | exact (Int.sub_zero _).symm), rfl, rfl, trivial⟩ ?_
      refine zF_loop (n := (N 1).toNat) (fun (i2 : Nat) => [(3, zI (i2 : Int)), (1, zL (aV2 N i2)), (0, zR (B0 0))]) (fun _ => σ) (fun i2 hi2 ih31 => ?_) ?_
      · show zF G mL_all (d + 9) 31 [(3, zI (i2 : Int)), (1, zL (aV2 N i2)), (0, zR (B0 0))] [] σ _
        refine zF_iload_n 32 dL_all_31 rfl rfl ?_
        refine zF_aload_n 33 dL_all_32 rfl rfl ?_
        refine zF_iconst 34 dL_all_33 rfl ?_
        refine zF_callVi 37 (d2 := (d + 8)) (as := [zI 1]) dL_all_34 rfl kL_110 iX11_size (ci := 11) rfl eX11_size (Nat.le_refl _) hK.1.bk hK.1.bl rfl rfl (Nat.le_of_ble_eq_true rfl) ((show zP1 G mX11_size _ _ σ (N 1) from qL_size (d := d + 0) hGd hK (by omega) (by omega))) ?_
        refine zF_icmp_ge 77 40 dL_all_37 rfl rfl (by first | decide | assumption | exact w32_rg _ | (constructor <;> omega)) (by first | decide | assumption | exact w32_rg _ | (constructor <;> omega)) (fun c3 => ?_) (fun c3 => ?_)
        · exact absurd c3 (by omega)
        · refine zF_iconst 41 dL_all_40 rfl ?_
          refine zF_istore 43 (ls' := [(4, zI 0), (3, zI (i2 : Int)), (1, zL (aV2 N i2)), (0, zR (B0 0))]) dL_all_41 rfl (by decide) rfl ?_
          refine zF_locs (ls' := (fun (i3 : Nat) => [(4, zI (i3 : Int)), (1, zL (ia (fun k => sScreen N i2 k) (aV2 N i2) i3)), (3, zI (i2 : Int)), (0, zR (B0 0))]) 0) ⟨zlI rfl (by first | rfl | omega | (push_cast; omega) | exact congrArg (_ + ·) (zbT (by assumption)) | exact congrArg (_ + ·) (zbF (by assumption)) | exact congrArg (_ + ·) (zbT (by omega)) | exact congrArg (_ + ·) (zbF (by omega)) | exact congrArg (_ + ·) (if_pos (by omega)).symm | exact congrArg (_ + ·) (if_neg (by omega)).symm | exact (if_pos (by omega)).symm | exact (if_neg (by omega)).symm | exact zsub_s (if_pos (by omega)).symm | exact zsub_s0 (if_neg (by omega)).symm | exact zadd0 (if_neg (by omega)).symm | exact zadd0 (zbF (by omega)) | exact (Int.sub_zero _).symm), rfl, rfl, rfl, trivial⟩ ?_
          refine zF_loop (n := 9) (fun (i3 : Nat) => [(4, zI (i3 : Int)), (1, zL (ia (fun k => sScreen N i2 k) (aV2 N i2) i3)), (3, zI (i2 : Int)), (0, zR (B0 0))]) (fun _ => σ) (fun i3 hi3 ih43 => ?_) ?_
          · show zF G mL_all (d + 9) 43 [(4, zI (i3 : Int)), (1, zL (ia (fun k => sScreen N i2 k) (aV2 N i2) i3)), (3, zI (i2 : Int)), (0, zR (B0 0))] [] σ _
            refine zF_iload 45 dL_all_43 rfl rfl ?_
            refine zF_bipush 47 dL_all_45 rfl (by decide) ?_
            refine zF_icmp_ge 71 50 dL_all_47 rfl rfl (by first | decide | assumption | exact w32_rg _ | (constructor <;> omega)) (by first | decide | assumption | exact w32_rg _ | (constructor <;> omega)) (fun c4 => ?_) (fun c4 => ?_)
            · exact absurd c4 (by omega)
            · refine zF_ldc2 53 dL_all_50 rfl oL_192 ?_
              refine zF_lload_n 54 dL_all_53 rfl rfl ?_
              refine zF_lmul 55 dL_all_54 rfl ?_
              refine zF_aload_n 56 dL_all_55 rfl rfl ?_
              refine zF_iload_n 57 dL_all_56 rfl rfl ?_
              refine zF_iload 59 dL_all_57 rfl rfl ?_
              refine zF_callVi 62 (d2 := (d + 8)) (as := [zI (i2 : Int), zI (i3 : Int)]) dL_all_59 rfl kL_108 iX11_screen (ci := 11) rfl eX11_screen (Nat.le_refl _) hK.1.bk hK.1.bl rfl rfl (Nat.le_of_ble_eq_true rfl) ((show zP1 G mX11_screen _ _ σ (sScreen N (i2 : Int) (i3 : Int)) from qL_screen (d := d + 0) hGd hK (by omega) (by omega) (by omega) (by omega))) ?_
              refine zF_Iw ?_
              refine zF_i2l 63 dL_all_62 rfl (by first | decide | assumption | exact w32_rg _ | (constructor <;> omega)) ?_
              refine zF_ladd 64 dL_all_63 rfl ?_
              refine zF_lstore_n 65 (ls' := [(1, zL (((31) * (ia (fun k => sScreen N i2 k) (aV2 N i2) i3)) + (w32 (sScreen N (i2 : Int) (i3 : Int))))), (4, zI (i3 : Int)), (3, zI (i2 : Int)), (0, zR (B0 0))]) dL_all_64 rfl (by decide) rfl ?_
              refine zF_iinc 68 (ls' := [(4, zI ((i3 : Int) + 1)), (1, zL (((31) * (ia (fun k => sScreen N i2 k) (aV2 N i2) i3)) + (w32 (sScreen N (i2 : Int) (i3 : Int))))), (3, zI (i2 : Int)), (0, zR (B0 0))]) dL_all_65 rfl rfl rfl (by decide) rfl ?_
              refine zF_goto 43 dL_all_68 rfl ?_
              exact zF_locs (ls' := [(4, zI ((i3 + 1 : Nat) : Int)), (1, zL (ia (fun k => sScreen N i2 k) (aV2 N i2) (i3 + 1))), (3, zI (i2 : Int)), (0, zR (B0 0))]) ⟨zlI rfl (by first | rfl | omega | (push_cast; omega) | exact congrArg (_ + ·) (zbT (by assumption)) | exact congrArg (_ + ·) (zbF (by assumption)) | exact congrArg (_ + ·) (zbT (by omega)) | exact congrArg (_ + ·) (zbF (by omega)) | exact congrArg (_ + ·) (if_pos (by omega)).symm | exact congrArg (_ + ·) (if_neg (by omega)).symm | exact (if_pos (by omega)).symm | exact (if_neg (by omega)).symm | exact zsub_s (if_pos (by omega)).symm | exact zsub_s0 (if_neg (by omega)).symm | exact zadd0 (if_neg (by omega)).symm | exact zadd0 (zbF (by omega)) | exact (Int.sub_zero _).symm), rfl, rfl, rfl, trivial⟩ ih43
          · show zF G mL_all (d + 9) 43 [(4, zI ((9 : Nat) : Int)), (1, zL (ia (fun k => sScreen N i2 k) (aV2 N i2) 9)), (3, zI (i2 : Int)), (0, zR (B0 0))] [] σ _
            refine zF_iload 45 dL_all_43 rfl rfl ?_
            refine zF_bipush 47 dL_all_45 rfl (by decide) ?_
            refine zF_icmp_ge 71 50 dL_all_47 rfl rfl (by first | decide | assumption | exact w32_rg _ | (constructor <;> omega)) (by first | decide | assumption | exact w32_rg _ | (constructor <;> omega)) (fun c5 => ?_) (fun c5 => ?_)
            · refine zF_iinc 74 (ls' := [(3, zI ((i2 : Int) + 1)), (4, zI ((9 : Nat) : Int)), (1, zL (ia (fun k => sScreen N i2 k) (aV2 N i2) 9)), (0, zR (B0 0))]) dL_all_71 rfl rfl rfl (by decide) rfl ?_
              refine zF_goto 31 dL_all_74 rfl ?_
              exact zF_locs (ls' := [(3, zI ((i2 + 1 : Nat) : Int)), (1, zL (aV2 N (i2 + 1))), (0, zR (B0 0))]) ⟨zlI rfl (by first | rfl | omega | (push_cast; omega) | exact congrArg (_ + ·) (zbT (by assumption)) | exact congrArg (_ + ·) (zbF (by assumption)) | exact congrArg (_ + ·) (zbT (by omega)) | exact congrArg (_ + ·) (zbF (by omega)) | exact congrArg (_ + ·) (if_pos (by omega)).symm | exact congrArg (_ + ·) (if_neg (by omega)).symm | exact (if_pos (by omega)).symm | exact (if_neg (by omega)).symm | exact zsub_s (if_pos (by omega)).symm | exact zsub_s0 (if_neg (by omega)).symm | exact zadd0 (if_neg (by omega)).symm | exact zadd0 (zbF (by omega)) | exact (Int.sub_zero _).symm), rfl, rfl, trivial⟩ ih31
            · exact absurd c5 (by omega)
      · show zF G mL_all (d + 9) 31 [(3, zI (((N 1).toNat : Nat) : Int)), (1, zL (aV2 N ((N 1).toNat))), (0, zR (B0 0))] [] σ _
        refine zF_iload_n 32 dL_all_31 rfl rfl ?_
        refine zF_aload_n 33 dL_all_32 rfl rfl ?_
        refine zF_iconst 34 dL_all_33 rfl ?_
        refine zF_callVi 37 (d2 := (d + 8)) (as := [zI 1]) dL_all_34 rfl kL_110 iX11_size (ci := 11) rfl eX11_size (Nat.le_refl _) hK.1.bk hK.1.bl rfl rfl (Nat.le_of_ble_eq_true rfl) ((show zP1 G mX11_size _ _ σ (N 1) from qL_size (d := d + 0) hGd hK (by omega) (by omega))) ?_
        refine zF_icmp_ge 77 40 dL_all_37 rfl rfl (by first | decide | assumption | exact w32_rg _ | (constructor <;> omega)) (by first | decide | assumption | exact w32_rg _ | (constructor <;> omega)) (fun c6 => ?_) (fun c6 => ?_)
        · refine zF_iconst 78 dL_all_77 rfl ?_
          refine zF_istore_n 79 (ls' := [(3, zI 0), (1, zL (aV2 N ((N 1).toNat))), (0, zR (B0 0))]) dL_all_78 rfl (by decide) rfl ?_
          refine zF_locs (ls' := (fun (i4 : Nat) => [(3, zI (i4 : Int)), (1, zL (aV3 N i4)), (0, zR (B0 0))]) 0) ⟨zlI rfl (by first | rfl | omega | (push_cast; omega) | exact congrArg (_ + ·) (zbT (by assumption)) | exact congrArg (_ + ·) (zbF (by assumption)) | exact congrArg (_ + ·) (zbT (by omega)) | exact congrArg (_ + ·) (zbF (by omega)) | exact congrArg (_ + ·) (if_pos (by omega)).symm | exact congrArg (_ + ·) (if_neg (by omega)).symm | exact (if_pos (by omega)).symm | exact (if_neg (by omega)).symm | exact zsub_s (if_pos (by omega)).symm | exact zsub_s0 (if_neg (by omega)).symm | exact zadd0 (if_neg (by omega)).symm | exact zadd0 (zbF (by omega)) | exact (Int.sub_zero _).symm), rfl, rfl, trivial⟩ ?_
          refine zF_loop (n := (N 0).toNat) (fun (i4 : Nat) => [(3, zI (i4 : Int)), (1, zL (aV3 N i4)), (0, zR (B0 0))]) (fun _ => σ) (fun i4 hi4 ih79 => ?_) ?_
          · show zF G mL_all (d + 9) 79 [(3, zI (i4 : Int)), (1, zL (aV3 N i4)), (0, zR (B0 0))] [] σ _
            refine zF_iload_n 80 dL_all_79 rfl rfl ?_
            refine zF_aload_n 81 dL_all_80 rfl rfl ?_
            refine zF_iconst 82 dL_all_81 rfl ?_
            refine zF_callVi 85 (d2 := (d + 8)) (as := [zI 0]) dL_all_82 rfl kL_110 iX11_size (ci := 11) rfl eX11_size (Nat.le_refl _) hK.1.bk hK.1.bl rfl rfl (Nat.le_of_ble_eq_true rfl) ((show zP1 G mX11_size _ _ σ (N 0) from qL_size (d := d + 0) hGd hK (by omega) (by omega))) ?_
            refine zF_icmp_ge 125 88 dL_all_85 rfl rfl (by first | decide | assumption | exact w32_rg _ | (constructor <;> omega)) (by first | decide | assumption | exact w32_rg _ | (constructor <;> omega)) (fun c7 => ?_) (fun c7 => ?_)
            · exact absurd c7 (by omega)
            · refine zF_iconst 89 dL_all_88 rfl ?_
              refine zF_istore 91 (ls' := [(4, zI 0), (3, zI (i4 : Int)), (1, zL (aV3 N i4)), (0, zR (B0 0))]) dL_all_89 rfl (by decide) rfl ?_
              refine zF_locs (ls' := (fun (i5 : Nat) => [(4, zI (i5 : Int)), (1, zL (ia (fun k => sHouse N i4 k) (aV3 N i4) i5)), (3, zI (i4 : Int)), (0, zR (B0 0))]) 0) ⟨zlI rfl (by first | rfl | omega | (push_cast; omega) | exact congrArg (_ + ·) (zbT (by assumption)) | exact congrArg (_ + ·) (zbF (by assumption)) | exact congrArg (_ + ·) (zbT (by omega)) | exact congrArg (_ + ·) (zbF (by omega)) | exact congrArg (_ + ·) (if_pos (by omega)).symm | exact congrArg (_ + ·) (if_neg (by omega)).symm | exact (if_pos (by omega)).symm | exact (if_neg (by omega)).symm | exact zsub_s (if_pos (by omega)).symm | exact zsub_s0 (if_neg (by omega)).symm | exact zadd0 (if_neg (by omega)).symm | exact zadd0 (zbF (by omega)) | exact (Int.sub_zero _).symm), rfl, rfl, rfl, trivial⟩ ?_
              refine zF_loop (n := 6) (fun (i5 : Nat) => [(4, zI (i5 : Int)), (1, zL (ia (fun k => sHouse N i4 k) (aV3 N i4) i5)), (3, zI (i4 : Int)), (0, zR (B0 0))]) (fun _ => σ) (fun i5 hi5 ih91 => ?_) ?_
              · show zF G mL_all (d + 9) 91 [(4, zI (i5 : Int)), (1, zL (ia (fun k => sHouse N i4 k) (aV3 N i4) i5)), (3, zI (i4 : Int)), (0, zR (B0 0))] [] σ _
                refine zF_iload 93 dL_all_91 rfl rfl ?_
                refine zF_bipush 95 dL_all_93 rfl (by decide) ?_
                refine zF_icmp_ge 119 98 dL_all_95 rfl rfl (by first | decide | assumption | exact w32_rg _ | (constructor <;> omega)) (by first | decide | assumption | exact w32_rg _ | (constructor <;> omega)) (fun c8 => ?_) (fun c8 => ?_)
                · exact absurd c8 (by omega)
                · refine zF_ldc2 101 dL_all_98 rfl oL_192 ?_
                  refine zF_lload_n 102 dL_all_101 rfl rfl ?_
                  refine zF_lmul 103 dL_all_102 rfl ?_
                  refine zF_aload_n 104 dL_all_103 rfl rfl ?_
                  refine zF_iload_n 105 dL_all_104 rfl rfl ?_
                  refine zF_iload 107 dL_all_105 rfl rfl ?_
                  refine zF_callVi 110 (d2 := (d + 8)) (as := [zI (i4 : Int), zI (i5 : Int)]) dL_all_107 rfl kL_113 iX11_house (ci := 11) rfl eX11_house (Nat.le_refl _) hK.1.bk hK.1.bl rfl rfl (Nat.le_of_ble_eq_true rfl) ((show zP1 G mX11_house _ _ σ (sHouse N (i4 : Int) (i5 : Int)) from qL_house (d := d + 0) hGd hK (by omega) (by omega) (by omega) (by omega))) ?_
                  refine zF_Iw ?_
                  refine zF_i2l 111 dL_all_110 rfl (by first | decide | assumption | exact w32_rg _ | (constructor <;> omega)) ?_
                  refine zF_ladd 112 dL_all_111 rfl ?_
                  refine zF_lstore_n 113 (ls' := [(1, zL (((31) * (ia (fun k => sHouse N i4 k) (aV3 N i4) i5)) + (w32 (sHouse N (i4 : Int) (i5 : Int))))), (4, zI (i5 : Int)), (3, zI (i4 : Int)), (0, zR (B0 0))]) dL_all_112 rfl (by decide) rfl ?_
                  refine zF_iinc 116 (ls' := [(4, zI ((i5 : Int) + 1)), (1, zL (((31) * (ia (fun k => sHouse N i4 k) (aV3 N i4) i5)) + (w32 (sHouse N (i4 : Int) (i5 : Int))))), (3, zI (i4 : Int)), (0, zR (B0 0))]) dL_all_113 rfl rfl rfl (by decide) rfl ?_
                  refine zF_goto 91 dL_all_116 rfl ?_
                  exact zF_locs (ls' := [(4, zI ((i5 + 1 : Nat) : Int)), (1, zL (ia (fun k => sHouse N i4 k) (aV3 N i4) (i5 + 1))), (3, zI (i4 : Int)), (0, zR (B0 0))]) ⟨zlI rfl (by first | rfl | omega | (push_cast; omega) | exact congrArg (_ + ·) (zbT (by assumption)) | exact congrArg (_ + ·) (zbF (by assumption)) | exact congrArg (_ + ·) (zbT (by omega)) | exact congrArg (_ + ·) (zbF (by omega)) | exact congrArg (_ + ·) (if_pos (by omega)).symm | exact congrArg (_ + ·) (if_neg (by omega)).symm | exact (if_pos (by omega)).symm | exact (if_neg (by omega)).symm | exact zsub_s (if_pos (by omega)).symm | exact zsub_s0 (if_neg (by omega)).symm | exact zadd0 (if_neg (by omega)).symm | exact zadd0 (zbF (by omega)) | exact (Int.sub_zero _).symm), rfl, rfl, rfl, trivial⟩ ih91
              · show zF G mL_all (d + 9) 91 [(4, zI ((6 : Nat) : Int)), (1, zL (ia (fun k => sHouse N i4 k) (aV3 N i4) 6)), (3, zI (i4 : Int)), (0, zR (B0 0))] [] σ _
                refine zF_iload 93 dL_all_91 rfl rfl ?_
                refine zF_bipush 95 dL_all_93 rfl (by decide) ?_
                refine zF_icmp_ge 119 98 dL_all_95 rfl rfl (by first | decide | assumption | exact w32_rg _ | (constructor <;> omega)) (by first | decide | assumption | exact w32_rg _ | (constructor <;> omega)) (fun c9 => ?_) (fun c9 => ?_)
                · refine zF_iinc 122 (ls' := [(3, zI ((i4 : Int) + 1)), (4, zI ((6 : Nat) : Int)), (1, zL (ia (fun k => sHouse N i4 k) (aV3 N i4) 6)), (0, zR (B0 0))]) dL_all_119 rfl rfl rfl (by decide) rfl ?_
                  refine zF_goto 79 dL_all_122 rfl ?_
                  exact zF_locs (ls' := [(3, zI ((i4 + 1 : Nat) : Int)), (1, zL (aV3 N (i4 + 1))), (0, zR (B0 0))]) ⟨zlI rfl (by first | rfl | omega | (push_cast; omega) | exact congrArg (_ + ·) (zbT (by assumption)) | exact congrArg (_ + ·) (zbF (by assumption)) | exact congrArg (_ + ·) (zbT (by omega)) | exact congrArg (_ + ·) (zbF (by omega)) | exact congrArg (_ + ·) (if_pos (by omega)).symm | exact congrArg (_ + ·) (if_neg (by omega)).symm | exact (if_pos (by omega)).symm | exact (if_neg (by omega)).symm | exact zsub_s (if_pos (by omega)).symm | exact zsub_s0 (if_neg (by omega)).symm | exact zadd0 (if_neg (by omega)).symm | exact zadd0 (zbF (by omega)) | exact (Int.sub_zero _).symm), rfl, rfl, trivial⟩ ih79
                · exact absurd c9 (by omega)
          · show zF G mL_all (d + 9) 79 [(3, zI (((N 0).toNat : Nat) : Int)), (1, zL (aV3 N ((N 0).toNat))), (0, zR (B0 0))] [] σ _
            refine zF_iload_n 80 dL_all_79 rfl rfl ?_
            refine zF_aload_n 81 dL_all_80 rfl rfl ?_
            refine zF_iconst 82 dL_all_81 rfl ?_
            refine zF_callVi 85 (d2 := (d + 8)) (as := [zI 0]) dL_all_82 rfl kL_110 iX11_size (ci := 11) rfl eX11_size (Nat.le_refl _) hK.1.bk hK.1.bl rfl rfl (Nat.le_of_ble_eq_true rfl) ((show zP1 G mX11_size _ _ σ (N 0) from qL_size (d := d + 0) hGd hK (by omega) (by omega))) ?_
            refine zF_icmp_ge 125 88 dL_all_85 rfl rfl (by first | decide | assumption | exact w32_rg _ | (constructor <;> omega)) (by first | decide | assumption | exact w32_rg _ | (constructor <;> omega)) (fun c10 => ?_) (fun c10 => ?_)
            · refine zF_iconst 126 dL_all_125 rfl ?_
              refine zF_istore_n 127 (ls' := [(3, zI 0), (1, zL (aV3 N ((N 0).toNat))), (0, zR (B0 0))]) dL_all_126 rfl (by decide) rfl ?_
              refine zF_locs (ls' := (fun (i6 : Nat) => [(3, zI (i6 : Int)), (1, zL (aV4 N i6)), (0, zR (B0 0))]) 0) ⟨zlI rfl (by first | rfl | omega | (push_cast; omega) | exact congrArg (_ + ·) (zbT (by assumption)) | exact congrArg (_ + ·) (zbF (by assumption)) | exact congrArg (_ + ·) (zbT (by omega)) | exact congrArg (_ + ·) (zbF (by omega)) | exact congrArg (_ + ·) (if_pos (by omega)).symm | exact congrArg (_ + ·) (if_neg (by omega)).symm | exact (if_pos (by omega)).symm | exact (if_neg (by omega)).symm | exact zsub_s (if_pos (by omega)).symm | exact zsub_s0 (if_neg (by omega)).symm | exact zadd0 (if_neg (by omega)).symm | exact zadd0 (zbF (by omega)) | exact (Int.sub_zero _).symm), rfl, rfl, trivial⟩ ?_
              refine zF_loop (n := (N 2).toNat) (fun (i6 : Nat) => [(3, zI (i6 : Int)), (1, zL (aV4 N i6)), (0, zR (B0 0))]) (fun _ => σ) (fun i6 hi6 ih127 => ?_) ?_
              · show zF G mL_all (d + 9) 127 [(3, zI (i6 : Int)), (1, zL (aV4 N i6)), (0, zR (B0 0))] [] σ _
                refine zF_iload_n 128 dL_all_127 rfl rfl ?_
                refine zF_aload_n 129 dL_all_128 rfl rfl ?_
                refine zF_iconst 130 dL_all_129 rfl ?_
                refine zF_callVi 133 (d2 := (d + 8)) (as := [zI 2]) dL_all_130 rfl kL_110 iX11_size (ci := 11) rfl eX11_size (Nat.le_refl _) hK.1.bk hK.1.bl rfl rfl (Nat.le_of_ble_eq_true rfl) ((show zP1 G mX11_size _ _ σ (N 2) from qL_size (d := d + 0) hGd hK (by omega) (by omega))) ?_
                refine zF_icmp_ge 241 136 dL_all_133 rfl rfl (by first | decide | assumption | exact w32_rg _ | (constructor <;> omega)) (by first | decide | assumption | exact w32_rg _ | (constructor <;> omega)) (fun c11 => ?_) (fun c11 => ?_)
                · exact absurd c11 (by omega)
                · refine zF_iconst 137 dL_all_136 rfl ?_
                  refine zF_istore 139 (ls' := [(4, zI 0), (3, zI (i6 : Int)), (1, zL (aV4 N i6)), (0, zR (B0 0))]) dL_all_137 rfl (by decide) rfl ?_
                  refine zF_locs (ls' := (fun (i7 : Nat) => [(4, zI (i7 : Int)), (1, zL (ia (fun k => sFilm N i6 k) (aV4 N i6) i7)), (3, zI (i6 : Int)), (0, zR (B0 0))]) 0) ⟨zlI rfl (by first | rfl | omega | (push_cast; omega) | exact congrArg (_ + ·) (zbT (by assumption)) | exact congrArg (_ + ·) (zbF (by assumption)) | exact congrArg (_ + ·) (zbT (by omega)) | exact congrArg (_ + ·) (zbF (by omega)) | exact congrArg (_ + ·) (if_pos (by omega)).symm | exact congrArg (_ + ·) (if_neg (by omega)).symm | exact (if_pos (by omega)).symm | exact (if_neg (by omega)).symm | exact zsub_s (if_pos (by omega)).symm | exact zsub_s0 (if_neg (by omega)).symm | exact zadd0 (if_neg (by omega)).symm | exact zadd0 (zbF (by omega)) | exact (Int.sub_zero _).symm), rfl, rfl, rfl, trivial⟩ ?_
                  refine zF_loop (n := 8) (fun (i7 : Nat) => [(4, zI (i7 : Int)), (1, zL (ia (fun k => sFilm N i6 k) (aV4 N i6) i7)), (3, zI (i6 : Int)), (0, zR (B0 0))]) (fun _ => σ) (fun i7 hi7 ih139 => ?_) ?_
                  · show zF G mL_all (d + 9) 139 [(4, zI (i7 : Int)), (1, zL (ia (fun k => sFilm N i6 k) (aV4 N i6) i7)), (3, zI (i6 : Int)), (0, zR (B0 0))] [] σ _
                    refine zF_iload 141 dL_all_139 rfl rfl ?_
                    refine zF_bipush 143 dL_all_141 rfl (by decide) ?_
                    refine zF_icmp_ge 167 146 dL_all_143 rfl rfl (by first | decide | assumption | exact w32_rg _ | (constructor <;> omega)) (by first | decide | assumption | exact w32_rg _ | (constructor <;> omega)) (fun c12 => ?_) (fun c12 => ?_)
                    · exact absurd c12 (by omega)
                    · refine zF_ldc2 149 dL_all_146 rfl oL_192 ?_
                      refine zF_lload_n 150 dL_all_149 rfl rfl ?_
                      refine zF_lmul 151 dL_all_150 rfl ?_
                      refine zF_aload_n 152 dL_all_151 rfl rfl ?_
                      refine zF_iload_n 153 dL_all_152 rfl rfl ?_
                      refine zF_iload 155 dL_all_153 rfl rfl ?_
                      refine zF_callVi 158 (d2 := (d + 8)) (as := [zI (i6 : Int), zI (i7 : Int)]) dL_all_155 rfl kL_120 iX11_film (ci := 11) rfl eX11_film (Nat.le_refl _) hK.1.bk hK.1.bl rfl rfl (Nat.le_of_ble_eq_true rfl) ((show zP1 G mX11_film _ _ σ (sFilm N (i6 : Int) (i7 : Int)) from qL_film (d := d + 0) hGd hK (by omega) (by omega) (by omega) (by omega))) ?_
                      refine zF_Iw ?_
                      refine zF_i2l 159 dL_all_158 rfl (by first | decide | assumption | exact w32_rg _ | (constructor <;> omega)) ?_
                      refine zF_ladd 160 dL_all_159 rfl ?_
                      refine zF_lstore_n 161 (ls' := [(1, zL (((31) * (ia (fun k => sFilm N i6 k) (aV4 N i6) i7)) + (w32 (sFilm N (i6 : Int) (i7 : Int))))), (4, zI (i7 : Int)), (3, zI (i6 : Int)), (0, zR (B0 0))]) dL_all_160 rfl (by decide) rfl ?_
                      refine zF_iinc 164 (ls' := [(4, zI ((i7 : Int) + 1)), (1, zL (((31) * (ia (fun k => sFilm N i6 k) (aV4 N i6) i7)) + (w32 (sFilm N (i6 : Int) (i7 : Int))))), (3, zI (i6 : Int)), (0, zR (B0 0))]) dL_all_161 rfl rfl rfl (by decide) rfl ?_
                      refine zF_goto 139 dL_all_164 rfl ?_
                      exact zF_locs (ls' := [(4, zI ((i7 + 1 : Nat) : Int)), (1, zL (ia (fun k => sFilm N i6 k) (aV4 N i6) (i7 + 1))), (3, zI (i6 : Int)), (0, zR (B0 0))]) ⟨zlI rfl (by first | rfl | omega | (push_cast; omega) | exact congrArg (_ + ·) (zbT (by assumption)) | exact congrArg (_ + ·) (zbF (by assumption)) | exact congrArg (_ + ·) (zbT (by omega)) | exact congrArg (_ + ·) (zbF (by omega)) | exact congrArg (_ + ·) (if_pos (by omega)).symm | exact congrArg (_ + ·) (if_neg (by omega)).symm | exact (if_pos (by omega)).symm | exact (if_neg (by omega)).symm | exact zsub_s (if_pos (by omega)).symm | exact zsub_s0 (if_neg (by omega)).symm | exact zadd0 (if_neg (by omega)).symm | exact zadd0 (zbF (by omega)) | exact (Int.sub_zero _).symm), rfl, rfl, rfl, trivial⟩ ih139
                  · show zF G mL_all (d + 9) 139 [(4, zI ((8 : Nat) : Int)), (1, zL (ia (fun k => sFilm N i6 k) (aV4 N i6) 8)), (3, zI (i6 : Int)), (0, zR (B0 0))] [] σ _
                    refine zF_iload 141 dL_all_139 rfl rfl ?_
                    refine zF_bipush 143 dL_all_141 rfl (by decide) ?_
                    refine zF_icmp_ge 167 146 dL_all_143 rfl rfl (by first | decide | assumption | exact w32_rg _ | (constructor <;> omega)) (by first | decide | assumption | exact w32_rg _ | (constructor <;> omega)) (fun c13 => ?_) (fun c13 => ?_)
                    · refine zF_iconst 168 dL_all_167 rfl ?_
                      refine zF_istore 170 (ls' := [(4, zI (-1)), (1, zL (ia (fun k => sFilm N i6 k) (aV4 N i6) 8)), (3, zI (i6 : Int)), (0, zR (B0 0))]) dL_all_168 rfl (by decide) rfl ?_
                      refine zF_locs (ls' := (fun (i8 : Nat) => [(4, zI ((i8 : Int) + -1)), (1, zL (ia (fun k => mP N i6 ((k : Int) + -1)) (ia (fun k => sFilm N i6 k) (aV4 N i6) 8) i8)), (3, zI (i6 : Int)), (0, zR (B0 0))]) 0) ⟨zlI rfl (by first | rfl | omega | (push_cast; omega) | exact congrArg (_ + ·) (zbT (by assumption)) | exact congrArg (_ + ·) (zbF (by assumption)) | exact congrArg (_ + ·) (zbT (by omega)) | exact congrArg (_ + ·) (zbF (by omega)) | exact congrArg (_ + ·) (if_pos (by omega)).symm | exact congrArg (_ + ·) (if_neg (by omega)).symm | exact (if_pos (by omega)).symm | exact (if_neg (by omega)).symm | exact zsub_s (if_pos (by omega)).symm | exact zsub_s0 (if_neg (by omega)).symm | exact zadd0 (if_neg (by omega)).symm | exact zadd0 (zbF (by omega)) | exact (Int.sub_zero _).symm), rfl, rfl, rfl, trivial⟩ ?_
                      refine zF_loop (n := ((N 0).toNat + 1)) (fun (i8 : Nat) => [(4, zI ((i8 : Int) + -1)), (1, zL (ia (fun k => mP N i6 ((k : Int) + -1)) (ia (fun k => sFilm N i6 k) (aV4 N i6) 8) i8)), (3, zI (i6 : Int)), (0, zR (B0 0))]) (fun _ => σ) (fun i8 hi8 ih170 => ?_) ?_
                      · show zF G mL_all (d + 9) 170 [(4, zI ((i8 : Int) + -1)), (1, zL (ia (fun k => mP N i6 ((k : Int) + -1)) (ia (fun k => sFilm N i6 k) (aV4 N i6) 8) i8)), (3, zI (i6 : Int)), (0, zR (B0 0))] [] σ _
                        refine zF_iload 172 dL_all_170 rfl rfl ?_
                        refine zF_aload_n 173 dL_all_172 rfl rfl ?_
                        refine zF_iconst 174 dL_all_173 rfl ?_
                        refine zF_callVi 177 (d2 := (d + 8)) (as := [zI 0]) dL_all_174 rfl kL_110 iX11_size (ci := 11) rfl eX11_size (Nat.le_refl _) hK.1.bk hK.1.bl rfl rfl (Nat.le_of_ble_eq_true rfl) ((show zP1 G mX11_size _ _ σ (N 0) from qL_size (d := d + 0) hGd hK (by omega) (by omega))) ?_
                        refine zF_icmp_ge 201 180 dL_all_177 rfl rfl (by first | decide | assumption | exact w32_rg _ | (constructor <;> omega)) (by first | decide | assumption | exact w32_rg _ | (constructor <;> omega)) (fun c14 => ?_) (fun c14 => ?_)
                        · exact absurd c14 (by omega)
                        · refine zF_ldc2 183 dL_all_180 rfl oL_192 ?_
                          refine zF_lload_n 184 dL_all_183 rfl rfl ?_
                          refine zF_lmul 185 dL_all_184 rfl ?_
                          refine zF_aload_n 186 dL_all_185 rfl rfl ?_
                          refine zF_iload_n 187 dL_all_186 rfl rfl ?_
                          refine zF_iload 189 dL_all_187 rfl rfl ?_
                          refine zF_callVi 192 (d2 := (d + 8)) (as := [zI (i6 : Int), zI ((i8 : Int) + -1)]) dL_all_189 rfl kL_125 iX11_prints (ci := 11) rfl eX11_prints (Nat.le_refl _) hK.1.bk hK.1.bl rfl rfl (Nat.le_of_ble_eq_true rfl) ((show zP1 G mX11_prints _ _ σ (mP N (i6 : Int) ((i8 : Int) + -1)) from qL_prints (d := d + 0) hGd hK (by omega) (by omega) (by omega) (by omega))) ?_
                          refine zF_Iw ?_
                          refine zF_i2l 193 dL_all_192 rfl (by first | decide | assumption | exact w32_rg _ | (constructor <;> omega)) ?_
                          refine zF_ladd 194 dL_all_193 rfl ?_
                          refine zF_lstore_n 195 (ls' := [(1, zL (((31) * (ia (fun k => mP N i6 ((k : Int) + -1)) (ia (fun k => sFilm N i6 k) (aV4 N i6) 8) i8)) + (w32 (mP N (i6 : Int) ((i8 : Int) + -1))))), (4, zI ((i8 : Int) + -1)), (3, zI (i6 : Int)), (0, zR (B0 0))]) dL_all_194 rfl (by decide) rfl ?_
                          refine zF_iinc 198 (ls' := [(4, zI (((i8 : Int) + -1) + 1)), (1, zL (((31) * (ia (fun k => mP N i6 ((k : Int) + -1)) (ia (fun k => sFilm N i6 k) (aV4 N i6) 8) i8)) + (w32 (mP N (i6 : Int) ((i8 : Int) + -1))))), (3, zI (i6 : Int)), (0, zR (B0 0))]) dL_all_195 rfl rfl rfl (by decide) rfl ?_
                          refine zF_goto 170 dL_all_198 rfl ?_
                          exact zF_locs (ls' := [(4, zI (((i8 + 1 : Nat) : Int) + -1)), (1, zL (ia (fun k => mP N i6 ((k : Int) + -1)) (ia (fun k => sFilm N i6 k) (aV4 N i6) 8) (i8 + 1))), (3, zI (i6 : Int)), (0, zR (B0 0))]) ⟨zlI rfl (by first | rfl | omega | (push_cast; omega) | exact congrArg (_ + ·) (zbT (by assumption)) | exact congrArg (_ + ·) (zbF (by assumption)) | exact congrArg (_ + ·) (zbT (by omega)) | exact congrArg (_ + ·) (zbF (by omega)) | exact congrArg (_ + ·) (if_pos (by omega)).symm | exact congrArg (_ + ·) (if_neg (by omega)).symm | exact (if_pos (by omega)).symm | exact (if_neg (by omega)).symm | exact zsub_s (if_pos (by omega)).symm | exact zsub_s0 (if_neg (by omega)).symm | exact zadd0 (if_neg (by omega)).symm | exact zadd0 (zbF (by omega)) | exact (Int.sub_zero _).symm), rfl, rfl, rfl, trivial⟩ ih170
                      · show zF G mL_all (d + 9) 170 [(4, zI (((((N 0).toNat + 1) : Nat) : Int) + -1)), (1, zL (ia (fun k => mP N i6 ((k : Int) + -1)) (ia (fun k => sFilm N i6 k) (aV4 N i6) 8) ((N 0).toNat + 1))), (3, zI (i6 : Int)), (0, zR (B0 0))] [] σ _
                        refine zF_iload 172 dL_all_170 rfl rfl ?_
                        refine zF_aload_n 173 dL_all_172 rfl rfl ?_
                        refine zF_iconst 174 dL_all_173 rfl ?_
                        refine zF_callVi 177 (d2 := (d + 8)) (as := [zI 0]) dL_all_174 rfl kL_110 iX11_size (ci := 11) rfl eX11_size (Nat.le_refl _) hK.1.bk hK.1.bl rfl rfl (Nat.le_of_ble_eq_true rfl) ((show zP1 G mX11_size _ _ σ (N 0) from qL_size (d := d + 0) hGd hK (by omega) (by omega))) ?_
                        refine zF_icmp_ge 201 180 dL_all_177 rfl rfl (by first | decide | assumption | exact w32_rg _ | (constructor <;> omega)) (by first | decide | assumption | exact w32_rg _ | (constructor <;> omega)) (fun c15 => ?_) (fun c15 => ?_)
                        · refine zF_iconst 202 dL_all_201 rfl ?_
                          refine zF_istore 204 (ls' := [(4, zI 0), (1, zL (ia (fun k => mP N i6 ((k : Int) + -1)) (ia (fun k => sFilm N i6 k) (aV4 N i6) 8) ((N 0).toNat + 1))), (3, zI (i6 : Int)), (0, zR (B0 0))]) dL_all_202 rfl (by decide) rfl ?_
                          refine zF_locs (ls' := (fun (i9 : Nat) => [(4, zI (i9 : Int)), (1, zL (ia (fun k => mR N k i6) (ia (fun k => mP N i6 ((k : Int) + -1)) (ia (fun k => sFilm N i6 k) (aV4 N i6) 8) ((N 0).toNat + 1)) i9)), (3, zI (i6 : Int)), (0, zR (B0 0))]) 0) ⟨zlI rfl (by first | rfl | omega | (push_cast; omega) | exact congrArg (_ + ·) (zbT (by assumption)) | exact congrArg (_ + ·) (zbF (by assumption)) | exact congrArg (_ + ·) (zbT (by omega)) | exact congrArg (_ + ·) (zbF (by omega)) | exact congrArg (_ + ·) (if_pos (by omega)).symm | exact congrArg (_ + ·) (if_neg (by omega)).symm | exact (if_pos (by omega)).symm | exact (if_neg (by omega)).symm | exact zsub_s (if_pos (by omega)).symm | exact zsub_s0 (if_neg (by omega)).symm | exact zadd0 (if_neg (by omega)).symm | exact zadd0 (zbF (by omega)) | exact (Int.sub_zero _).symm), rfl, rfl, rfl, trivial⟩ ?_
                          refine zF_loop (n := (N 0).toNat) (fun (i9 : Nat) => [(4, zI (i9 : Int)), (1, zL (ia (fun k => mR N k i6) (ia (fun k => mP N i6 ((k : Int) + -1)) (ia (fun k => sFilm N i6 k) (aV4 N i6) 8) ((N 0).toNat + 1)) i9)), (3, zI (i6 : Int)), (0, zR (B0 0))]) (fun _ => σ) (fun i9 hi9 ih204 => ?_) ?_
                          · show zF G mL_all (d + 9) 204 [(4, zI (i9 : Int)), (1, zL (ia (fun k => mR N k i6) (ia (fun k => mP N i6 ((k : Int) + -1)) (ia (fun k => sFilm N i6 k) (aV4 N i6) 8) ((N 0).toNat + 1)) i9)), (3, zI (i6 : Int)), (0, zR (B0 0))] [] σ _
                            refine zF_iload 206 dL_all_204 rfl rfl ?_
                            refine zF_aload_n 207 dL_all_206 rfl rfl ?_
                            refine zF_iconst 208 dL_all_207 rfl ?_
                            refine zF_callVi 211 (d2 := (d + 8)) (as := [zI 0]) dL_all_208 rfl kL_110 iX11_size (ci := 11) rfl eX11_size (Nat.le_refl _) hK.1.bk hK.1.bl rfl rfl (Nat.le_of_ble_eq_true rfl) ((show zP1 G mX11_size _ _ σ (N 0) from qL_size (d := d + 0) hGd hK (by omega) (by omega))) ?_
                            refine zF_icmp_ge 235 214 dL_all_211 rfl rfl (by first | decide | assumption | exact w32_rg _ | (constructor <;> omega)) (by first | decide | assumption | exact w32_rg _ | (constructor <;> omega)) (fun c16 => ?_) (fun c16 => ?_)
                            · exact absurd c16 (by omega)
                            · refine zF_ldc2 217 dL_all_214 rfl oL_192 ?_
                              refine zF_lload_n 218 dL_all_217 rfl rfl ?_
                              refine zF_lmul 219 dL_all_218 rfl ?_
                              refine zF_aload_n 220 dL_all_219 rfl rfl ?_
                              refine zF_iload 222 dL_all_220 rfl rfl ?_
                              refine zF_iload_n 223 dL_all_222 rfl rfl ?_
                              refine zF_callVi 226 (d2 := (d + 8)) (as := [zI (i9 : Int), zI (i6 : Int)]) dL_all_223 rfl kL_115 iX11_run (ci := 11) rfl eX11_run (Nat.le_refl _) hK.1.bk hK.1.bl rfl rfl (Nat.le_of_ble_eq_true rfl) ((show zP1 G mX11_run _ _ σ (mR N (i9 : Int) (i6 : Int)) from qL_run (d := d + 0) hGd hK (by omega) (by omega) (by omega) (by omega))) ?_
                              refine zF_Iw ?_
                              refine zF_i2l 227 dL_all_226 rfl (by first | decide | assumption | exact w32_rg _ | (constructor <;> omega)) ?_
                              refine zF_ladd 228 dL_all_227 rfl ?_
                              refine zF_lstore_n 229 (ls' := [(1, zL (((31) * (ia (fun k => mR N k i6) (ia (fun k => mP N i6 ((k : Int) + -1)) (ia (fun k => sFilm N i6 k) (aV4 N i6) 8) ((N 0).toNat + 1)) i9)) + (w32 (mR N (i9 : Int) (i6 : Int))))), (4, zI (i9 : Int)), (3, zI (i6 : Int)), (0, zR (B0 0))]) dL_all_228 rfl (by decide) rfl ?_
                              refine zF_iinc 232 (ls' := [(4, zI ((i9 : Int) + 1)), (1, zL (((31) * (ia (fun k => mR N k i6) (ia (fun k => mP N i6 ((k : Int) + -1)) (ia (fun k => sFilm N i6 k) (aV4 N i6) 8) ((N 0).toNat + 1)) i9)) + (w32 (mR N (i9 : Int) (i6 : Int))))), (3, zI (i6 : Int)), (0, zR (B0 0))]) dL_all_229 rfl rfl rfl (by decide) rfl ?_
                              refine zF_goto 204 dL_all_232 rfl ?_
                              exact zF_locs (ls' := [(4, zI ((i9 + 1 : Nat) : Int)), (1, zL (ia (fun k => mR N k i6) (ia (fun k => mP N i6 ((k : Int) + -1)) (ia (fun k => sFilm N i6 k) (aV4 N i6) 8) ((N 0).toNat + 1)) (i9 + 1))), (3, zI (i6 : Int)), (0, zR (B0 0))]) ⟨zlI rfl (by first | rfl | omega | (push_cast; omega) | exact congrArg (_ + ·) (zbT (by assumption)) | exact congrArg (_ + ·) (zbF (by assumption)) | exact congrArg (_ + ·) (zbT (by omega)) | exact congrArg (_ + ·) (zbF (by omega)) | exact congrArg (_ + ·) (if_pos (by omega)).symm | exact congrArg (_ + ·) (if_neg (by omega)).symm | exact (if_pos (by omega)).symm | exact (if_neg (by omega)).symm | exact zsub_s (if_pos (by omega)).symm | exact zsub_s0 (if_neg (by omega)).symm | exact zadd0 (if_neg (by omega)).symm | exact zadd0 (zbF (by omega)) | exact (Int.sub_zero _).symm), rfl, rfl, rfl, trivial⟩ ih204
                          · show zF G mL_all (d + 9) 204 [(4, zI (((N 0).toNat : Nat) : Int)), (1, zL (ia (fun k => mR N k i6) (ia (fun k => mP N i6 ((k : Int) + -1)) (ia (fun k => sFilm N i6 k) (aV4 N i6) 8) ((N 0).toNat + 1)) ((N 0).toNat))), (3, zI (i6 : Int)), (0, zR (B0 0))] [] σ _
                            refine zF_iload 206 dL_all_204 rfl rfl ?_
                            refine zF_aload_n 207 dL_all_206 rfl rfl ?_
                            refine zF_iconst 208 dL_all_207 rfl ?_
                            refine zF_callVi 211 (d2 := (d + 8)) (as := [zI 0]) dL_all_208 rfl kL_110 iX11_size (ci := 11) rfl eX11_size (Nat.le_refl _) hK.1.bk hK.1.bl rfl rfl (Nat.le_of_ble_eq_true rfl) ((show zP1 G mX11_size _ _ σ (N 0) from qL_size (d := d + 0) hGd hK (by omega) (by omega))) ?_
                            refine zF_icmp_ge 235 214 dL_all_211 rfl rfl (by first | decide | assumption | exact w32_rg _ | (constructor <;> omega)) (by first | decide | assumption | exact w32_rg _ | (constructor <;> omega)) (fun c17 => ?_) (fun c17 => ?_)
                            · refine zF_iinc 238 (ls' := [(3, zI ((i6 : Int) + 1)), (4, zI (((N 0).toNat : Nat) : Int)), (1, zL (ia (fun k => mR N k i6) (ia (fun k => mP N i6 ((k : Int) + -1)) (ia (fun k => sFilm N i6 k) (aV4 N i6) 8) ((N 0).toNat + 1)) ((N 0).toNat))), (0, zR (B0 0))]) dL_all_235 rfl rfl rfl (by decide) rfl ?_
                              refine zF_goto 127 dL_all_238 rfl ?_
                              exact zF_locs (ls' := [(3, zI ((i6 + 1 : Nat) : Int)), (1, zL (aV4 N (i6 + 1))), (0, zR (B0 0))]) ⟨zlI rfl (by first | rfl | omega | (push_cast; omega) | exact congrArg (_ + ·) (zbT (by assumption)) | exact congrArg (_ + ·) (zbF (by assumption)) | exact congrArg (_ + ·) (zbT (by omega)) | exact congrArg (_ + ·) (zbF (by omega)) | exact congrArg (_ + ·) (if_pos (by omega)).symm | exact congrArg (_ + ·) (if_neg (by omega)).symm | exact (if_pos (by omega)).symm | exact (if_neg (by omega)).symm | exact zsub_s (if_pos (by omega)).symm | exact zsub_s0 (if_neg (by omega)).symm | exact zadd0 (if_neg (by omega)).symm | exact zadd0 (zbF (by omega)) | exact (Int.sub_zero _).symm), rfl, rfl, trivial⟩ ih127
                            · exact absurd c17 (by omega)
                        · exact absurd c15 (by omega)
                    · exact absurd c13 (by omega)
              · show zF G mL_all (d + 9) 127 [(3, zI (((N 2).toNat : Nat) : Int)), (1, zL (aV4 N ((N 2).toNat))), (0, zR (B0 0))] [] σ _
                refine zF_iload_n 128 dL_all_127 rfl rfl ?_
                refine zF_aload_n 129 dL_all_128 rfl rfl ?_
                refine zF_iconst 130 dL_all_129 rfl ?_
                refine zF_callVi 133 (d2 := (d + 8)) (as := [zI 2]) dL_all_130 rfl kL_110 iX11_size (ci := 11) rfl eX11_size (Nat.le_refl _) hK.1.bk hK.1.bl rfl rfl (Nat.le_of_ble_eq_true rfl) ((show zP1 G mX11_size _ _ σ (N 2) from qL_size (d := d + 0) hGd hK (by omega) (by omega))) ?_
                refine zF_icmp_ge 241 136 dL_all_133 rfl rfl (by first | decide | assumption | exact w32_rg _ | (constructor <;> omega)) (by first | decide | assumption | exact w32_rg _ | (constructor <;> omega)) (fun c18 => ?_) (fun c18 => ?_)
                · refine zF_iconst 242 dL_all_241 rfl ?_
                  refine zF_istore_n 243 (ls' := [(3, zI 0), (1, zL (aV4 N ((N 2).toNat))), (0, zR (B0 0))]) dL_all_242 rfl (by decide) rfl ?_
                  refine zF_locs (ls' := (fun (i10 : Nat) => [(3, zI (i10 : Int)), (1, zL (ia (fun k => sTotal N k) (aV4 N (N 2).toNat) i10)), (0, zR (B0 0))]) 0) ⟨zlI rfl (by first | rfl | omega | (push_cast; omega) | exact congrArg (_ + ·) (zbT (by assumption)) | exact congrArg (_ + ·) (zbF (by assumption)) | exact congrArg (_ + ·) (zbT (by omega)) | exact congrArg (_ + ·) (zbF (by omega)) | exact congrArg (_ + ·) (if_pos (by omega)).symm | exact congrArg (_ + ·) (if_neg (by omega)).symm | exact (if_pos (by omega)).symm | exact (if_neg (by omega)).symm | exact zsub_s (if_pos (by omega)).symm | exact zsub_s0 (if_neg (by omega)).symm | exact zadd0 (if_neg (by omega)).symm | exact zadd0 (zbF (by omega)) | exact (Int.sub_zero _).symm), rfl, rfl, trivial⟩ ?_
                  refine zF_loop (n := 5) (fun (i10 : Nat) => [(3, zI (i10 : Int)), (1, zL (ia (fun k => sTotal N k) (aV4 N (N 2).toNat) i10)), (0, zR (B0 0))]) (fun _ => σ) (fun i10 hi10 ih243 => ?_) ?_
                  · show zF G mL_all (d + 9) 243 [(3, zI (i10 : Int)), (1, zL (ia (fun k => sTotal N k) (aV4 N (N 2).toNat) i10)), (0, zR (B0 0))] [] σ _
                    refine zF_iload_n 244 dL_all_243 rfl rfl ?_
                    refine zF_iconst 245 dL_all_244 rfl ?_
                    refine zF_icmp_ge 267 248 dL_all_245 rfl rfl (by first | decide | assumption | exact w32_rg _ | (constructor <;> omega)) (by first | decide | assumption | exact w32_rg _ | (constructor <;> omega)) (fun c19 => ?_) (fun c19 => ?_)
                    · exact absurd c19 (by omega)
                    · refine zF_ldc2 251 dL_all_248 rfl oL_192 ?_
                      refine zF_lload_n 252 dL_all_251 rfl rfl ?_
                      refine zF_lmul 253 dL_all_252 rfl ?_
                      refine zF_aload_n 254 dL_all_253 rfl rfl ?_
                      refine zF_iload_n 255 dL_all_254 rfl rfl ?_
                      refine zF_callVi 258 (d2 := (d + 8)) (as := [zI (i10 : Int)]) dL_all_255 rfl kL_134 iX11_total (ci := 11) rfl eX11_total (Nat.le_refl _) hK.1.bk hK.1.bl rfl rfl (Nat.le_of_ble_eq_true rfl) ((show zP1 G mX11_total _ _ σ (sTotal N (i10 : Int)) from qL_total (d := d + 0) hGd hK (by omega) (by omega))) ?_
                      refine zF_Iw ?_
                      refine zF_i2l 259 dL_all_258 rfl (by first | decide | assumption | exact w32_rg _ | (constructor <;> omega)) ?_
                      refine zF_ladd 260 dL_all_259 rfl ?_
                      refine zF_lstore_n 261 (ls' := [(1, zL (((31) * (ia (fun k => sTotal N k) (aV4 N (N 2).toNat) i10)) + (w32 (sTotal N (i10 : Int))))), (3, zI (i10 : Int)), (0, zR (B0 0))]) dL_all_260 rfl (by decide) rfl ?_
                      refine zF_iinc 264 (ls' := [(3, zI ((i10 : Int) + 1)), (1, zL (((31) * (ia (fun k => sTotal N k) (aV4 N (N 2).toNat) i10)) + (w32 (sTotal N (i10 : Int))))), (0, zR (B0 0))]) dL_all_261 rfl rfl rfl (by decide) rfl ?_
                      refine zF_goto 243 dL_all_264 rfl ?_
                      exact zF_locs (ls' := [(3, zI ((i10 + 1 : Nat) : Int)), (1, zL (ia (fun k => sTotal N k) (aV4 N (N 2).toNat) (i10 + 1))), (0, zR (B0 0))]) ⟨zlI rfl (by first | rfl | omega | (push_cast; omega) | exact congrArg (_ + ·) (zbT (by assumption)) | exact congrArg (_ + ·) (zbF (by assumption)) | exact congrArg (_ + ·) (zbT (by omega)) | exact congrArg (_ + ·) (zbF (by omega)) | exact congrArg (_ + ·) (if_pos (by omega)).symm | exact congrArg (_ + ·) (if_neg (by omega)).symm | exact (if_pos (by omega)).symm | exact (if_neg (by omega)).symm | exact zsub_s (if_pos (by omega)).symm | exact zsub_s0 (if_neg (by omega)).symm | exact zadd0 (if_neg (by omega)).symm | exact zadd0 (zbF (by omega)) | exact (Int.sub_zero _).symm), rfl, rfl, trivial⟩ ih243
                  · show zF G mL_all (d + 9) 243 [(3, zI ((5 : Nat) : Int)), (1, zL (ia (fun k => sTotal N k) (aV4 N (N 2).toNat) 5)), (0, zR (B0 0))] [] σ _
                    refine zF_iload_n 244 dL_all_243 rfl rfl ?_
                    refine zF_iconst 245 dL_all_244 rfl ?_
                    refine zF_icmp_ge 267 248 dL_all_245 rfl rfl (by first | decide | assumption | exact w32_rg _ | (constructor <;> omega)) (by first | decide | assumption | exact w32_rg _ | (constructor <;> omega)) (fun c20 => ?_) (fun c20 => ?_)
                    · refine zF_lload_n 268 dL_all_267 rfl rfl ?_
                      exact zF_lreturn dL_all_268 rfl (⟨rfl, rfl⟩)
                    · exact absurd c20 (by omega)
                · exact absurd c18 (by omega)
            · exact absurd c10 (by omega)
        · exact absurd c6 (by omega)
    · exact absurd c2 (by omega)
end ZQ1
