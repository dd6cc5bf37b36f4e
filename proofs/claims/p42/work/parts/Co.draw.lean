/-! the law's own chain, drawn from the script -/
section ZI4
variable {G : zG} {M : zMeth} {d pc : Nat} {ls : List (Nat × zV)} {st : List zV} {σ σ1 : zMem} {Q : zRes → zMem → Prop} {E : Nat → Nat} {N : Int → Int} {a b c e : Int} {h : Nat}
theorem nwR.lt {s1 : zMem} {mm : Nat} (r : nwR σ s1 mm) : zn σ < zn s1 := by have := r.1.1; omega
theorem nwR.upl {s1 : zMem} {mm x : Nat} (r : nwR σ s1 mm) (hx : x < zn σ) : x < zn s1 := Nat.lt_trans hx r.lt
theorem dI.wk {σ0 : zMem} {m m2 : Nat} (d : dI σ0 h a b c N E m σ) (hm : m ≤ m2) : dI σ0 h a b c N E m2 σ := ⟨d.1, d.2.1, d.2.2.1, d.2.2.2.1, d.2.2.2.2.1, d.2.2.2.2.2.wk hm⟩
theorem zwO {n k : Nat} : zwv n (zR (zbg + k)) := fun x hx => by
  have : zbg + k = x := Option.some.inj hx
  omega
theorem dC.eq (g : dC σ h a b c e) (k : ∀ j, zia σ1 h j = zia σ h j) : dC σ1 h a b c e := ⟨(k _).trans g.1, (k _).trans g.2.1, (k _).trans g.2.2.1, (k _).trans g.2.2.2.1, (k _).trans g.2.2.2.2.1, (k _).trans g.2.2.2.2.2⟩
theorem dC.si (g : dC σ h a b c e) {x : Nat} {j v : Int} (hx : h ≠ x) : dC (zsi σ x j v) h a b c e := g.eq fun k => by rw [zia_si, if_neg (fun z => hx z.1)]
theorem zia_n {j k : Nat} {v : Int} (q : k ≠ j) : zia (zsi σ h ((j : Nat) : Int) v) h ((k : Nat) : Int) = zia σ h ((k : Nat) : Int) := by rw [zia_si, if_neg (fun z => q (by have := z.2; omega))]
theorem dC.s0 (g : dC σ h a b c e) {v : Int} : dC (zsi σ h ((0 : Nat) : Int) v) h v b c e := ⟨zsi_same _ _ _ _, (zia_n (by decide)).trans g.2.1, (zia_n (by decide)).trans g.2.2.1, (zia_n (by decide)).trans g.2.2.2.1, (zia_n (by decide)).trans g.2.2.2.2.1, (zia_n (by decide)).trans g.2.2.2.2.2⟩
theorem dC.s1 (g : dC σ h a b c e) {v : Int} : dC (zsi σ h ((1 : Nat) : Int) v) h a v c e := ⟨(zia_n (by decide)).trans g.1, zsi_same _ _ _ _, (zia_n (by decide)).trans g.2.2.1, (zia_n (by decide)).trans g.2.2.2.1, (zia_n (by decide)).trans g.2.2.2.2.1, (zia_n (by decide)).trans g.2.2.2.2.2⟩
theorem dC.s2 (g : dC σ h a b c e) {v : Int} : dC (zsi σ h ((2 : Nat) : Int) v) h a b v e := ⟨(zia_n (by decide)).trans g.1, (zia_n (by decide)).trans g.2.1, zsi_same _ _ _ _, (zia_n (by decide)).trans g.2.2.2.1, (zia_n (by decide)).trans g.2.2.2.2.1, (zia_n (by decide)).trans g.2.2.2.2.2⟩
theorem dC.s4 (g : dC σ h a b c e) {v : Int} : dC (zsi σ h ((4 : Nat) : Int) v) h a b c v := ⟨(zia_n (by decide)).trans g.1, (zia_n (by decide)).trans g.2.1, (zia_n (by decide)).trans g.2.2.1, (zia_n (by decide)).trans g.2.2.2.1, zsi_same _ _ _ _, (zia_n (by decide)).trans g.2.2.2.2.2⟩
theorem dI_0 {M : zMem} (hz : zn σ + 18 < zbg) (e : M = kO7 (znw σ 0 12 13) (zn σ)) : dI σ (zn σ) 0 0 0 (fun _ => 0) (eE0 (zn σ) (zn σ + 1)) 18 M ∧ dC M (zn σ) 0 0 0 0 := by
  subst e
  have h0 : zn σ < zn (znw σ 0 12 13) := Nat.lt_succ_self _
  have z : ∀ j, zia (kO7 (znw σ 0 12 13) (zn σ)) (zn σ) j = 0 := fun j => by
    have q := kO_ia (znw σ 0 12 13) (zn σ) (zn σ) j
    rw [zn_nw] at q
    rw [q]
    repeat rw [if_neg (by omega)]
    rw [zia_nw, if_pos rfl]
  refine ⟨⟨rfl, eQ_0 (σ := znw σ 0 12 13) (by rw [zkd_nw, if_pos rfl]) h0 (by rw [zn_nw]; omega), (eE0_u (h := zn σ) (n := zn σ + 1) (by omega)).wk (by rw [(kO_n _ _).2.2.2.2.2.2, zn_nw]; exact Nat.le_refl _), dQ_0, ⟨by rw [(kO_n _ _).2.2.2.2.2.2, zn_nw]; omega, fun x hx => ⟨?_, fun j => ⟨?_, ?_⟩⟩⟩, ⟨?_, ?_, ?_⟩⟩, z _, z _, z _, z _, z _, z _⟩
  · rw [kO_kd, zn_nw]
    repeat rw [if_neg (by omega)]
    rw [zkd_nw, if_neg (by omega)]
  · rw [kO_ra, zn_nw]
    repeat rw [if_neg (by omega)]
    rw [zra_nw, if_neg (by omega)]
  · rw [kO_ia, zn_nw]
    repeat rw [if_neg (by omega)]
    rw [zia_nw, if_neg (by omega)]
  · rw [(kO_n _ _).2.2.2.2.2.2, zn_nw]; omega
  · show zcs σ + 1 + 1 + 1 + 1 + (1 + 6) + (1 + 4) + 1 + 1 ≤ _; omega
  · show zss σ + 13 + 4 + 10 + 6 + (6 + 6 * 5) + (4 + 4 * 6) + 4 + 60 ≤ _; omega
theorem fN_Cn {N' : Int → Int} {bn : Nat} {z : Int} (h3 : ∀ x, mCn (fN N a bn c e) x bn ≤ 3) (hq : mCn (fN N a bn c e) z bn ≤ 2) (ho : ∀ j, 14 ≤ j → j < 14 + 8 * (bn : Int) → N' j = N j) (hv : N' (14 + 8 * (bn : Int) + 0) = z) : ∀ x, mCn (fN N' a ((bn + 1 : Nat) : Int) c e) x (bn + 1) ≤ 3 := fun x => by
  have e1 : mCn (fN N' a ((bn + 1 : Nat) : Int) c e) x bn = mCn (fN N a bn c e) x bn := mCn_cg fun i hi => by
    rw [fN_S (by omega) (by omega), fN_S (by omega) (by omega)]
    exact ho _ (by omega) (by omega)
  rw [mCn_s, e1, fN_S (by omega) (by omega)]
  have e2 : mS N' bn 0 = z := hv
  rw [e2]
  by_cases w : z = x
  · subst w
    have := zb01 (z = z)
    omega
  · rw [← zbF w]
    have := h3 x
    omega
theorem zt_L_cellI {L : Nat} {xs : Nat → Int32} {z : Int} (hX : zSx G L xs) (h0 : 0 ≤ z) (h1 : z < 1000) : zE G mL_cell d [zR (zbg + 500), zI z] σ (fun ro σ1 => σ1 = σ ∧ ∃ z : Int, ro = .inl (some (zI z)) ∧ zrg z) := by
  obtain ⟨k, ek⟩ := Int.eq_ofNat_of_zero_le h0
  subst ek
  exact zt_L_cell hX (by omega)
theorem drawn_end {σ0 : zMem} {b5 m : Nat} (d : dI σ0 h a (b5 : Int) c N E m σ) (g : dC σ h a (b5 : Int) c 0) (m5 : ∀ y, mCn (fN N a (b5 : Int) c 0) y b5 ≤ 3) (a0 : 1 ≤ a ∧ a ≤ 3) (b0 : b5 ≤ 6) (c0 : 1 ≤ c ∧ c ≤ 4) (e0 : 0 ≤ e ∧ e ≤ 999) (hm : m ≤ 60) : (Sum.inl (some (zR h)) : zRes) = .inl (some (zR h)) ∧ ∃ N E, dN N ∧ mV N ∧ E 0 = h ∧ eO N (zsi σ h ((4 : Nat) : Int) e) E ∧ eU E h (zn (zsi σ h ((4 : Nat) : Int) e)) ∧ zGw h σ0 (zsi σ h ((4 : Nat) : Int) e) ∧ zB σ0 (zsi σ h ((4 : Nat) : Int) e) 60 := by
  refine ⟨rfl, fN N a (b5 : Int) c e, E, fN_dN d.2.2.2.1 (by omega) (by omega) (by omega) (by omega) (fun y => ?_), fN_mV d.2.2.2.1 (by omega) (by omega) (by omega) (by omega), d.1, fN_eO d.i0 g.s4 (by omega) (by omega), d.2.2.1, d.i0.2.2.2.2.1, d.2.2.2.2.2.wk hm⟩
  have h1 : nS (fN N a (b5 : Int) c e) = b5 := by show ((b5 : Int)).toNat = b5; exact Int.toNat_natCast _
  rw [h1, mCn_cg (D' := fN N a (b5 : Int) c e) (D := fN N a (b5 : Int) c 0) (fun i hi => by rw [fN_S (by omega) (by omega), fN_S (by omega) (by omega)])]
  exact m5 y
set_option maxRecDepth 20000 in
theorem zt_L_drawn {L : Nat} {xs : Nat → Int32} (hX : zSx G L xs) (hAO : zAO G) (hbg : zn σ + 80 < zbg) : zE G mL_drawn (d + 2) [zR (zbg + 500), zI 0] σ (fun ro σ1 => ro = .inl (some (zR (zn σ))) ∧ ∃ N E, dN N ∧ mV N ∧ E 0 = (zn σ) ∧ eO N σ1 E ∧ eU E (zn σ) (zn σ1) ∧ zGw (zn σ) σ σ1 ∧ zB σ σ1 60) := by
  refine zE_of rfl (by simp [zcat]) (Nat.le_of_ble_eq_true rfl) ?_
  show zF G mL_drawn (d + 2) 0 [(0, zR (zbg + 500)), (1, zI 0)] [] σ _
  refine zF_new 3 dL_drawn_0 rfl nL_20 rfl (by omega) (zwl_q (by exact (⟨zwO, trivial, trivial⟩ : _ ∧ _ ∧ True))) (zwl_m (by exact trivial)) ?_
  refine zF_dup 4 dL_drawn_3 rfl rfl ?_
  refine zF_callINn 7 (d2 := d + 1) (as := []) (rest := [zR (zn σ)]) dL_drawn_4 rfl knL_22 rfl iX12_init (by omega) rfl rfl (Nat.le_of_ble_eq_true rfl) (by exact (⟨zwO, trivial, trivial⟩ : _ ∧ _ ∧ True)) (by exact (⟨zwR (Nat.lt_succ_self _), trivial⟩ : _ ∧ True)) (zE.mono (zt_X12_init (d := d) (σ := znw σ 0 12 13) hAO (by rw [zn_nw]; omega) (by rw [zkd_nw, if_pos rfl]) (Nat.lt_succ_self _)) fun r σi hh => ⟨hh.1, ?_⟩)
  obtain ⟨I0, C0⟩ := dI_0 (by omega) hh.2
  show zF G mL_drawn (d + 2) 7 [(0, zR (zbg + 500)), (1, zI 0)] [zR (zn σ)] σi _
  refine zF_astore_n 8 (ls' := [(2, zR (zn σ)), (0, zR (zbg + 500)), (1, zI 0)]) dL_drawn_7 rfl (by decide) rfl ?_
  refine zF_aload_n 9 dL_drawn_8 rfl rfl ?_
  refine zF_iload_n 10 dL_drawn_9 rfl rfl ?_
  refine zF_callS 13 (d2 := (d + 1)) (as := [zR (zbg + 500), zI 0]) dL_drawn_10 rfl kL_23 sL_cell (Nat.le_refl _) rfl rfl (Nat.le_of_ble_eq_true rfl) (zE.mono (zt_L_cellI hX (by omega) (by omega)) fun ro σx10 hh10 => ?_)
  obtain ⟨es10, z10, er10, zl10, zu10⟩ := hh10
  replace es10 := es10.symm
  subst es10
  subst er10
  refine ⟨rfl, ?_⟩
  show zF G mL_drawn (d + 2) 13 [(2, zR (zn σ)), (0, zR (zbg + 500)), (1, zI 0)] [zI z10] σi _
  refine zF_istore_n 14 (ls' := [(3, zI z10), (2, zR (zn σ)), (0, zR (zbg + 500)), (1, zI 0)]) dL_drawn_13 rfl (by decide) rfl ?_
  refine zF_aload_n 15 dL_drawn_14 rfl rfl ?_
  refine zF_iconst 16 dL_drawn_15 rfl ?_
  refine zF_iload_n 17 dL_drawn_16 rfl rfl ?_
  refine zF_iconst 18 dL_drawn_17 rfl ?_
  refine zF_callS 21 (d2 := (d + 1)) (as := [zI z10, zI 3]) dL_drawn_18 rfl kL_27 sL_most (Nat.le_refl _) rfl rfl (Nat.le_of_ble_eq_true rfl) (zE.mono (zt_L_most (by omega) (by constructor <;> omega)) fun ro σx18 hh18 => ?_)
  obtain ⟨es18, z18, er18, zl18, zu18⟩ := hh18
  replace es18 := es18.symm
  subst es18
  subst er18
  refine ⟨rfl, ?_⟩
  show zF G mL_drawn (d + 2) 21 [(3, zI z10), (2, zR (zn σ)), (0, zR (zbg + 500)), (1, zI 0)] [zI z18, zI 1, zR (zn σ)] σi _
  refine zF_iadd 22 dL_drawn_21 rfl ?_
  refine zF_putIN 25 dL_drawn_22 rfl pnL_31 (show zkd σi (zn σ) = (0, 12) from I0.k0) (show (zn σ) < zn σi from I0.l0) ?_
  refine zF_iconst 26 dL_drawn_25 rfl ?_
  refine zF_istore 28 (ls' := [(4, zI 0), (3, zI z10), (2, zR (zn σ)), (0, zR (zbg + 500)), (1, zI 0)]) dL_drawn_26 rfl (by decide) rfl ?_
  refine zF_locs (ls' := [(4, zI ((0 : Nat) : Int)), (3, zI z10), (2, zR (zn σ)), (0, zR (zbg + 500)), (1, zI 0)]) ⟨zlI rfl (by first | rfl | omega | (push_cast; omega) | exact congrArg (_ + ·) (zbT (by assumption)) | exact congrArg (_ + ·) (zbF (by assumption)) | exact congrArg (_ + ·) (zbT (by omega)) | exact congrArg (_ + ·) (zbF (by omega)) | exact congrArg (_ + ·) (if_pos (by omega)).symm | exact congrArg (_ + ·) (if_neg (by omega)).symm | exact (if_pos (by omega)).symm | exact (if_neg (by omega)).symm | exact zsub_s (if_pos (by omega)).symm | exact zsub_s0 (if_neg (by omega)).symm | exact zadd0 (if_neg (by omega)).symm | exact zadd0 (zbF (by omega)) | exact (Int.sub_zero _).symm), rfl, rfl, rfl, rfl, trivial⟩ ?_
  refine zF_while (X := Nat) (fun x => ((1 + z18)).toNat - x) (fun x σ28 => ∃ N E, ((x : Nat) : Int) ≤ (1 + z18) ∧ dI σ (zn σ) ((x : Nat) : Int) 0 0 N E (18 + x) σ28 ∧ dC σ28 (zn σ) (1 + z18) 0 0 0) (fun x => [(4, zI ((x : Nat) : Int)), (3, zI z10), (2, zR (zn σ)), (0, zR (zbg + 500)), (1, zI 0)]) ?_ 0 (zsi σi (zn σ) ((0 : Nat) : Int) (1 + z18)) (⟨_, _, by omega, I0.i0, C0.s0⟩)
  intro x σ28 hI28 ih28
  show zF G mL_drawn (d + 2) 28 [(4, zI ((x : Nat) : Int)), (3, zI z10), (2, zR (zn σ)), (0, zR (zbg + 500)), (1, zI 0)] [] σ28 _
  obtain ⟨N1, E1, hx28, I1, C1⟩ := hI28
  have B1 := I1.2.2.2.2.2.1
  refine zF_iload 30 dL_drawn_28 rfl rfl ?_
  refine zF_aload_n 31 dL_drawn_30 rfl rfl ?_
  refine zF_getIN 34 dL_drawn_31 rfl gnL_31 (by decide) (by decide) (show zkd σ28 (zn σ) = (0, 12) from I1.k0) (show (zn σ) < zn σ28 from I1.l0) C1.1 ?_
  refine zF_icmp_ge 89 37 dL_drawn_34 rfl rfl (by first | decide | assumption | (constructor <;> omega)) (by first | decide | assumption | (constructor <;> omega)) (fun c1 => ?_) (fun c1 => ?_)
  · refine zF_aload_n 90 dL_drawn_89 rfl rfl ?_
    refine zF_iconst 91 dL_drawn_90 rfl ?_
    refine zF_iload_n 92 dL_drawn_91 rfl rfl ?_
    refine zF_bipush 94 dL_drawn_92 rfl (by decide) ?_
    refine zF_ishr 95 dL_drawn_94 rfl ?_
    refine zF_iconst 96 dL_drawn_95 rfl ?_
    refine zF_callS 99 (d2 := (d + 1)) (as := [zI ((Int32.ofInt z10 >>> (Int32.ofInt 9 &&& 31)).toInt), zI 4]) dL_drawn_96 rfl kL_27 sL_most (Nat.le_refl _) rfl rfl (Nat.le_of_ble_eq_true rfl) (zE.mono (zt_L_most (by omega) (by constructor <;> omega)) fun ro σx96 hh96 => ?_)
    obtain ⟨es96, z96, er96, zl96, zu96⟩ := hh96
    replace es96 := es96.symm
    subst es96
    subst er96
    refine ⟨rfl, ?_⟩
    show zF G mL_drawn (d + 2) 99 [(4, zI ((x : Nat) : Int)), (3, zI z10), (2, zR (zn σ)), (0, zR (zbg + 500)), (1, zI 0)] [zI z96, zI 1, zR (zn σ)] σ28 _
    refine zF_iadd 100 dL_drawn_99 rfl ?_
    refine zF_putIN 103 dL_drawn_100 rfl pnL_39 (show zkd σ28 (zn σ) = (0, 12) from I1.k0) (show (zn σ) < zn σ28 from I1.l0) ?_
    refine zF_iconst 104 dL_drawn_103 rfl ?_
    refine zF_istore 106 (ls' := [(4, zI 0), (3, zI z10), (2, zR (zn σ)), (0, zR (zbg + 500)), (1, zI 0)]) dL_drawn_104 rfl (by decide) rfl ?_
    refine zF_locs (ls' := [(4, zI ((0 : Nat) : Int)), (3, zI z10), (2, zR (zn σ)), (0, zR (zbg + 500)), (1, zI 0)]) ⟨zlI rfl (by first | rfl | omega | (push_cast; omega) | exact congrArg (_ + ·) (zbT (by assumption)) | exact congrArg (_ + ·) (zbF (by assumption)) | exact congrArg (_ + ·) (zbT (by omega)) | exact congrArg (_ + ·) (zbF (by omega)) | exact congrArg (_ + ·) (if_pos (by omega)).symm | exact congrArg (_ + ·) (if_neg (by omega)).symm | exact (if_pos (by omega)).symm | exact (if_neg (by omega)).symm | exact zsub_s (if_pos (by omega)).symm | exact zsub_s0 (if_neg (by omega)).symm | exact zadd0 (if_neg (by omega)).symm | exact zadd0 (zbF (by omega)) | exact (Int.sub_zero _).symm), rfl, rfl, rfl, rfl, trivial⟩ ?_
    refine zF_while (X := Nat) (fun x => ((1 + z96)).toNat - x) (fun x σ106 => ∃ N E, ((x : Nat) : Int) ≤ (1 + z96) ∧ dI σ (zn σ) (1 + z18) 0 ((x : Nat) : Int) N E (21 + x) σ106 ∧ dC σ106 (zn σ) (1 + z18) 0 (1 + z96) 0) (fun x => [(4, zI ((x : Nat) : Int)), (3, zI z10), (2, zR (zn σ)), (0, zR (zbg + 500)), (1, zI 0)]) ?_ 0 (zsi σ28 (zn σ) ((2 : Nat) : Int) (1 + z96)) (⟨N1, E1, by omega, by have e1 : ((x : Nat) : Int) = 1 + z18 := (by omega); have q := I1.i0 (j := ((2 : Nat) : Int)) (v := 1 + z96); rw [e1] at q; exact ⟨q.1, q.2.1, q.2.2.1, q.2.2.2.1, q.2.2.2.2.1, q.2.2.2.2.2.wk (by omega)⟩, C1.s2⟩)
    intro x2 σ106 hI106 ih106
    show zF G mL_drawn (d + 2) 106 [(4, zI ((x2 : Nat) : Int)), (3, zI z10), (2, zR (zn σ)), (0, zR (zbg + 500)), (1, zI 0)] [] σ106 _
    obtain ⟨N2, E2, hx106, I2, C2⟩ := hI106
    have B2 := I2.2.2.2.2.2.1
    refine zF_iload 108 dL_drawn_106 rfl rfl ?_
    refine zF_aload_n 109 dL_drawn_108 rfl rfl ?_
    refine zF_getIN 112 dL_drawn_109 rfl gnL_39 (by decide) (by decide) (show zkd σ106 (zn σ) = (0, 12) from I2.k0) (show (zn σ) < zn σ106 from I2.l0) C2.2.2.1 ?_
    refine zF_icmp_ge 344 115 dL_drawn_112 rfl rfl (by first | decide | assumption | (constructor <;> omega)) (by first | decide | assumption | (constructor <;> omega)) (fun c2 => ?_) (fun c2 => ?_)
    · refine zF_iload_n 345 dL_drawn_344 rfl rfl ?_
      refine zF_bipush 347 dL_drawn_345 rfl (by decide) ?_
      refine zF_ishr 348 dL_drawn_347 rfl ?_
      refine zF_bipush 350 dL_drawn_348 rfl (by decide) ?_
      refine zF_callS 353 (d2 := (d + 1)) (as := [zI ((Int32.ofInt z10 >>> (Int32.ofInt 11 &&& 31)).toInt), zI 7]) dL_drawn_350 rfl kL_27 sL_most (Nat.le_refl _) rfl rfl (Nat.le_of_ble_eq_true rfl) (zE.mono (zt_L_most (by omega) (by constructor <;> omega)) fun ro σx350 hh350 => ?_)
      obtain ⟨es350, z350, er350, zl350, zu350⟩ := hh350
      replace es350 := es350.symm
      subst es350
      subst er350
      refine ⟨rfl, ?_⟩
      show zF G mL_drawn (d + 2) 353 [(4, zI ((x2 : Nat) : Int)), (3, zI z10), (2, zR (zn σ)), (0, zR (zbg + 500)), (1, zI 0)] [zI z350] σ106 _
      refine zF_istore 355 (ls' := [(4, zI z350), (3, zI z10), (2, zR (zn σ)), (0, zR (zbg + 500)), (1, zI 0)]) dL_drawn_353 rfl (by decide) rfl ?_
      refine zF_iconst 356 dL_drawn_355 rfl ?_
      refine zF_istore 358 (ls' := [(5, zI 0), (4, zI z350), (3, zI z10), (2, zR (zn σ)), (0, zR (zbg + 500)), (1, zI 0)]) dL_drawn_356 rfl (by decide) rfl ?_
      refine zF_locs (ls' := [(5, zI ((0 : Nat) : Int)), (4, zI z350), (3, zI z10), (2, zR (zn σ)), (0, zR (zbg + 500)), (1, zI 0)]) ⟨zlI rfl (by first | rfl | omega | (push_cast; omega) | exact congrArg (_ + ·) (zbT (by assumption)) | exact congrArg (_ + ·) (zbF (by assumption)) | exact congrArg (_ + ·) (zbT (by omega)) | exact congrArg (_ + ·) (zbF (by omega)) | exact congrArg (_ + ·) (if_pos (by omega)).symm | exact congrArg (_ + ·) (if_neg (by omega)).symm | exact (if_pos (by omega)).symm | exact (if_neg (by omega)).symm | exact zsub_s (if_pos (by omega)).symm | exact zsub_s0 (if_neg (by omega)).symm | exact zadd0 (if_neg (by omega)).symm | exact zadd0 (zbF (by omega)) | exact (Int.sub_zero _).symm), rfl, rfl, rfl, rfl, rfl, trivial⟩ ?_
      refine zF_while (X := Nat) (fun x => (z350).toNat - x) (fun x σ358 => ∃ N E, ∃ bb : Nat, bb ≤ x ∧ ((x : Nat) : Int) ≤ z350 ∧ dI σ (zn σ) (1 + z18) (bb : Int) (1 + z96) N E (25 + 2 * x) σ358 ∧ dC σ358 (zn σ) (1 + z18) (bb : Int) (1 + z96) 0 ∧ ∀ y, mCn (fN N (1 + z18) (bb : Int) (1 + z96) 0) y bb ≤ 3) (fun x => [(5, zI ((x : Nat) : Int)), (4, zI z350), (3, zI z10), (2, zR (zn σ)), (0, zR (zbg + 500)), (1, zI 0)]) ?_ 0 σ106 (⟨N2, E2, 0, by omega, by omega, by have e1 : ((x2 : Nat) : Int) = 1 + z96 := (by omega); have q := I2; rw [e1] at q; exact ⟨q.1, q.2.1, q.2.2.1, q.2.2.2.1, q.2.2.2.2.1, q.2.2.2.2.2.wk (by omega)⟩, C2, fun y => (by show (0 : Int) ≤ 3; decide)⟩)
      intro x5 σ358 hI358 ih358
      show zF G mL_drawn (d + 2) 358 [(5, zI ((x5 : Nat) : Int)), (4, zI z350), (3, zI z10), (2, zR (zn σ)), (0, zR (zbg + 500)), (1, zI 0)] [] σ358 _
      obtain ⟨N5, E5, b5, hb5, hx358, I5, C5, m5⟩ := hI358
      have B5 := I5.2.2.2.2.2.1
      refine zF_iload 360 dL_drawn_358 rfl rfl ?_
      refine zF_iload 362 dL_drawn_360 rfl rfl ?_
      refine zF_icmp_ge 502 365 dL_drawn_362 rfl rfl (by first | decide | assumption | (constructor <;> omega)) (by first | decide | assumption | (constructor <;> omega)) (fun c3 => ?_) (fun c3 => ?_)
      · refine zF_aload_n 503 dL_drawn_502 rfl rfl ?_
        refine zF_iload_n 504 dL_drawn_503 rfl rfl ?_
        refine zF_bipush 506 dL_drawn_504 rfl (by decide) ?_
        refine zF_ishr 507 dL_drawn_506 rfl ?_
        refine zF_iconst 508 dL_drawn_507 rfl ?_
        refine zF_callS 511 (d2 := (d + 1)) (as := [zI ((Int32.ofInt z10 >>> (Int32.ofInt 13 &&& 31)).toInt), zI 2]) dL_drawn_508 rfl kL_27 sL_most (Nat.le_refl _) rfl rfl (Nat.le_of_ble_eq_true rfl) (zE.mono (zt_L_most (by omega) (by constructor <;> omega)) fun ro σx508 hh508 => ?_)
        obtain ⟨es508, z508, er508, zl508, zu508⟩ := hh508
        replace es508 := es508.symm
        subst es508
        subst er508
        refine ⟨rfl, ?_⟩
        show zF G mL_drawn (d + 2) 511 [(5, zI ((x5 : Nat) : Int)), (4, zI z350), (3, zI z10), (2, zR (zn σ)), (0, zR (zbg + 500)), (1, zI 0)] [zI z508, zR (zn σ)] σ358 _
        refine zF_if_ne 527 514 dL_drawn_511 rfl rfl (by first | decide | assumption | (constructor <;> omega)) (fun c4 => ?_) (fun c4 => ?_)
        · refine zF_iconst 528 dL_drawn_527 rfl ?_
          refine zF_putIN 531 dL_drawn_528 rfl pnL_58 (show zkd σ358 (zn σ) = (0, 12) from I5.k0) (show (zn σ) < zn σ358 from I5.l0) ?_
          refine zF_aload_n 532 dL_drawn_531 rfl rfl ?_
          exact zF_areturn dL_drawn_532 rfl (drawn_end (e := 0) I5 C5 m5 (by omega) (by omega) (by omega) (by omega) (by omega))
        · refine zF_iload_n 515 dL_drawn_514 rfl rfl ?_
          refine zF_bipush 517 dL_drawn_515 rfl (by decide) ?_
          refine zF_ishr 518 dL_drawn_517 rfl ?_
          refine zF_sipush 521 dL_drawn_518 rfl (by decide) ?_
          refine zF_callS 524 (d2 := (d + 1)) (as := [zI ((Int32.ofInt z10 >>> (Int32.ofInt 14 &&& 31)).toInt), zI 1000]) dL_drawn_521 rfl kL_27 sL_most (Nat.le_refl _) rfl rfl (Nat.le_of_ble_eq_true rfl) (zE.mono (zt_L_most (by omega) (by constructor <;> omega)) fun ro σx521 hh521 => ?_)
          obtain ⟨es521, z521, er521, zl521, zu521⟩ := hh521
          replace es521 := es521.symm
          subst es521
          subst er521
          refine ⟨rfl, ?_⟩
          show zF G mL_drawn (d + 2) 524 [(5, zI ((x5 : Nat) : Int)), (4, zI z350), (3, zI z10), (2, zR (zn σ)), (0, zR (zbg + 500)), (1, zI 0)] [zI z521, zR (zn σ)] σ358 _
          refine zF_goto 528 dL_drawn_524 rfl ?_
          refine zF_putIN 531 dL_drawn_528 rfl pnL_58 (show zkd σ358 (zn σ) = (0, 12) from I5.k0) (show (zn σ) < zn σ358 from I5.l0) ?_
          refine zF_aload_n 532 dL_drawn_531 rfl rfl ?_
          exact zF_areturn dL_drawn_532 rfl (drawn_end (e := z521) I5 C5 m5 (by omega) (by omega) (by omega) (by omega) (by omega))
      · refine zF_aload_n 366 dL_drawn_365 rfl rfl ?_
        refine zF_iload_n 367 dL_drawn_366 rfl rfl ?_
        refine zF_iconst 368 dL_drawn_367 rfl ?_
        refine zF_iadd 369 dL_drawn_368 rfl ?_
        refine zF_iload 371 dL_drawn_369 rfl rfl ?_
        refine zF_iconst 372 dL_drawn_371 rfl ?_
        refine zF_irem 373 dL_drawn_372 rfl (by omega) (by omega) (by omega) (by omega) ?_
        refine zF_iadd 374 dL_drawn_373 rfl ?_
        refine zF_callS 377 (d2 := (d + 1)) (as := [zR (zbg + 500), zI ((0 + 5) + (((x5 : Nat) : Int) % 3))]) dL_drawn_374 rfl kL_23 sL_cell (Nat.le_refl _) rfl rfl (Nat.le_of_ble_eq_true rfl) (zE.mono (zt_L_cellI hX (by omega) (by omega)) fun ro σx374 hh374 => ?_)
        obtain ⟨es374, z374, er374, zl374, zu374⟩ := hh374
        replace es374 := es374.symm
        subst es374
        subst er374
        refine ⟨rfl, ?_⟩
        show zF G mL_drawn (d + 2) 377 [(5, zI ((x5 : Nat) : Int)), (4, zI z350), (3, zI z10), (2, zR (zn σ)), (0, zR (zbg + 500)), (1, zI 0)] [zI z374] σ358 _
        refine zF_iload 379 dL_drawn_377 rfl rfl ?_
        refine zF_iconst 380 dL_drawn_379 rfl ?_
        refine zF_idiv 381 dL_drawn_380 rfl (by omega) (by omega) (by omega) (by omega) ?_
        refine zF_iconst 382 dL_drawn_381 rfl ?_
        refine zF_imul 383 dL_drawn_382 rfl ?_
        refine zF_ishr 384 dL_drawn_383 rfl ?_
        refine zF_istore 386 (ls' := [(6, zI ((Int32.ofInt z374 >>> (Int32.ofInt ((((x5 : Nat) : Int) / 3) * 4) &&& 31)).toInt)), (5, zI ((x5 : Nat) : Int)), (4, zI z350), (3, zI z10), (2, zR (zn σ)), (0, zR (zbg + 500)), (1, zI 0)]) dL_drawn_384 rfl (by decide) rfl ?_
        refine zF_iload 388 dL_drawn_386 rfl rfl ?_
        refine zF_aload_n 389 dL_drawn_388 rfl rfl ?_
        refine zF_getIN 392 dL_drawn_389 rfl gnL_31 (by decide) (by decide) (show zkd σ358 (zn σ) = (0, 12) from I5.k0) (show (zn σ) < zn σ358 from I5.l0) C5.1 ?_
        refine zF_callS 395 (d2 := (d + 1)) (as := [zI ((Int32.ofInt z374 >>> (Int32.ofInt ((((x5 : Nat) : Int) / 3) * 4) &&& 31)).toInt), zI (1 + z18)]) dL_drawn_392 rfl kL_27 sL_most (Nat.le_refl _) rfl rfl (Nat.le_of_ble_eq_true rfl) (zE.mono (zt_L_most (by omega) (by constructor <;> omega)) fun ro σx392 hh392 => ?_)
        obtain ⟨es392, z392, er392, zl392, zu392⟩ := hh392
        replace es392 := es392.symm
        subst es392
        subst er392
        refine ⟨rfl, ?_⟩
        show zF G mL_drawn (d + 2) 395 [(6, zI ((Int32.ofInt z374 >>> (Int32.ofInt ((((x5 : Nat) : Int) / 3) * 4) &&& 31)).toInt)), (5, zI ((x5 : Nat) : Int)), (4, zI z350), (3, zI z10), (2, zR (zn σ)), (0, zR (zbg + 500)), (1, zI 0)] [zI z392] σ358 _
        refine zF_istore 397 (ls' := [(7, zI z392), (6, zI ((Int32.ofInt z374 >>> (Int32.ofInt ((((x5 : Nat) : Int) / 3) * 4) &&& 31)).toInt)), (5, zI ((x5 : Nat) : Int)), (4, zI z350), (3, zI z10), (2, zR (zn σ)), (0, zR (zbg + 500)), (1, zI 0)]) dL_drawn_395 rfl (by decide) rfl ?_
        refine zF_aload_n 398 dL_drawn_397 rfl rfl ?_
        refine zF_iload 400 dL_drawn_398 rfl rfl ?_
        have hVr : mV (fN N5 (1 + z18) (b5 : Int) (1 + z96) 0) := fN_mV I5.2.2.2.1 (by omega) (by omega) (by omega) (by omega)
        have hnS : nS (fN N5 (1 + z18) (b5 : Int) (1 + z96) 0) = b5 := by show ((b5 : Int)).toNat = b5; exact Int.toNat_natCast _
        have hC4 : mC4 (fN N5 (1 + z18) (b5 : Int) (1 + z96) 0) := fun y => by rw [hnS]; have := m5 y; omega
        have hnn := nn_eq hC4 z392
        rw [hnS] at hnn
        have hRo := zt_X12_roster (G := G) (d := d + 1) (h := z392) (fN_eO I5 C5 (by omega) (by omega)) hVr hC4 (by constructor <;> omega) (by omega)
        rw [I5.1] at hRo
        refine zF_callVN 403 (d2 := (d + 1)) (as := [zI z392]) dL_drawn_400 rfl knL_48 iX12_roster (ci := 12) rfl eX12_roster (Nat.le_refl _) (show zkd σ358 (zn σ) = (0, 12) from I5.k0) (show (zn σ) < zn σ358 from I5.l0) rfl rfl (Nat.le_of_ble_eq_true rfl) (by exact (⟨trivial, trivial, trivial, trivial, trivial, zwR (show (zn σ) < zn σ358 from I5.l0), zwO, trivial, trivial⟩ : _ ∧ _ ∧ _ ∧ _ ∧ _ ∧ _ ∧ _ ∧ _ ∧ True)) (by exact trivial) (zE.mono hRo fun ro σr hh400 => ⟨_, hh400.1, ?_⟩)
        obtain ⟨-, gr, ⟨rn, rc, rs⟩, rk, -⟩ := hh400
        have Ir := I5.gw (σ' := σr) (by omega) (by omega) (by omega) gr (by have := I5.2.2.2.2.2; unfold zB at this ⊢; omega)
        have Cr : dC σr (zn σ) (1 + z18) (b5 : Int) (1 + z96) 0 := C5.eq fun j => ((gr.2 _ I5.l0).2 j).2
        show zF G mL_drawn (d + 2) 403 [(7, zI z392), (6, zI ((Int32.ofInt z374 >>> (Int32.ofInt ((((x5 : Nat) : Int) / 3) * 4) &&& 31)).toInt)), (5, zI ((x5 : Nat) : Int)), (4, zI z350), (3, zI z10), (2, zR (zn σ)), (0, zR (zbg + 500)), (1, zI 0)] [zR (zn σ358)] σr _
        refine zF_alen 404 dL_drawn_403 rfl (by decide) rk (show (zn σ358) < zn σr by omega) ?_
        refine zF_iconst 405 dL_drawn_404 rfl ?_
        refine zF_icmp_ne 411 408 dL_drawn_405 rfl rfl (by first | decide | assumption | (constructor <;> omega)) (by first | decide | assumption | (constructor <;> omega)) (fun c5 => ?_) (fun c5 => ?_)
        · refine zF_aload_n 412 dL_drawn_411 rfl rfl ?_
          refine zF_getRN 415 dL_drawn_412 rfl gnL_52 (show zkd σr (zn σ) = (0, 12) from Ir.k0) (show (zn σ) < zn σr from Ir.l0) (Ir.f 7 6 10 (by decide)).1 ?_
          refine zF_aload_n 416 dL_drawn_415 rfl rfl ?_
          refine zF_dup 417 dL_drawn_416 rfl rfl ?_
          refine zF_getIN 420 dL_drawn_417 rfl gnL_55 (by decide) (by decide) (show zkd σr (zn σ) = (0, 12) from Ir.k0) (show (zn σ) < zn σr from Ir.l0) Cr.2.1 ?_
          refine zF_dup_x1 421 dL_drawn_420 rfl rfl rfl ?_
          refine zF_iconst 422 dL_drawn_421 rfl ?_
          refine zF_iadd 423 dL_drawn_422 rfl ?_
          refine zF_putIN 426 dL_drawn_423 rfl pnL_55 (show zkd σr (zn σ) = (0, 12) from Ir.k0) (show (zn σ) < zn σr from Ir.l0) ?_
          refine zF_bipush 428 dL_drawn_426 rfl (by decide) ?_
          refine zF_newarray 430 dL_drawn_428 rfl (Or.inl ⟨rfl, rfl⟩) (zi1 152 rfl rfl) (by omega) (by omega) (by show zn σr < zbg; omega) (zwl_q (by exact (⟨trivial, trivial, trivial, trivial, trivial, zwR (show (zn σ) < zn (zsi σr (zn σ) ((1 : Nat) : Int) ((b5 : Int) + 1)) from Ir.l0), zwO, trivial, trivial⟩ : _ ∧ _ ∧ _ ∧ _ ∧ _ ∧ _ ∧ _ ∧ _ ∧ True))) (zwl_m (by exact (⟨trivial, zwR (show (E5 7) < zn (zsi σr (zn σ) ((1 : Nat) : Int) ((b5 : Int) + 1)) from (Ir.f 7 6 10 (by decide)).2.1), trivial⟩ : _ ∧ _ ∧ True))) ?_
          show zF G mL_drawn (d + 2) 430 [(7, zI z392), (6, zI ((Int32.ofInt z374 >>> (Int32.ofInt ((((x5 : Nat) : Int) / 3) * 4) &&& 31)).toInt)), (5, zI ((x5 : Nat) : Int)), (4, zI z350), (3, zI z10), (2, zR (zn σ)), (0, zR (zbg + 500)), (1, zI 0)] [zR (zn (zsi σr (zn σ) ((1 : Nat) : Int) ((b5 : Int) + 1))), zI (b5 : Int), zR (E5 7)] (znw (zsi σr (zn σ) ((1 : Nat) : Int) ((b5 : Int) + 1)) 1 8 8) _
          refine zF_dup 431 dL_drawn_430 rfl rfl ?_
          refine zF_iconst 432 dL_drawn_431 rfl ?_
          refine zF_iload 434 dL_drawn_432 rfl rfl ?_
          refine zF_iastore 435 dL_drawn_434 rfl (((nwR_0 (zsi σr (zn σ) ((1 : Nat) : Int) ((b5 : Int) + 1)) 8).2.1 _).trans (if_pos rfl)) (show (zn (zsi σr (zn σ) ((1 : Nat) : Int) ((b5 : Int) + 1))) < zn (znw (zsi σr (zn σ) ((1 : Nat) : Int) ((b5 : Int) + 1)) 1 8 8) from nwR.lt (nwR_0 (zsi σr (zn σ) ((1 : Nat) : Int) ((b5 : Int) + 1)) 8)) (by omega) (by omega) ?_
          refine zF_dup 436 dL_drawn_435 rfl rfl ?_
          refine zF_iconst 437 dL_drawn_436 rfl ?_
          refine zF_iconst 438 dL_drawn_437 rfl ?_
          refine zF_iload 440 dL_drawn_438 rfl rfl ?_
          refine zF_iconst 441 dL_drawn_440 rfl ?_
          refine zF_ishr 442 dL_drawn_441 rfl ?_
          refine zF_bipush 444 dL_drawn_442 rfl (by decide) ?_
          refine zF_callS 447 (d2 := (d + 1)) (as := [zI ((Int32.ofInt ((Int32.ofInt z374 >>> (Int32.ofInt ((((x5 : Nat) : Int) / 3) * 4) &&& 31)).toInt) >>> (Int32.ofInt 2 &&& 31)).toInt), zI 60]) dL_drawn_444 rfl kL_27 sL_most (Nat.le_refl _) rfl rfl (Nat.le_of_ble_eq_true rfl) (zE.mono (zt_L_most (by omega) (by constructor <;> omega)) fun ro σx444 hh444 => ?_)
          obtain ⟨es444, z444, er444, zl444, zu444⟩ := hh444
          replace es444 := es444.symm
          subst es444
          subst er444
          refine ⟨rfl, ?_⟩
          show zF G mL_drawn (d + 2) 447 [(7, zI z392), (6, zI ((Int32.ofInt z374 >>> (Int32.ofInt ((((x5 : Nat) : Int) / 3) * 4) &&& 31)).toInt)), (5, zI ((x5 : Nat) : Int)), (4, zI z350), (3, zI z10), (2, zR (zn σ)), (0, zR (zbg + 500)), (1, zI 0)] [zI z444, zI 1, zI 1, zR (zn (zsi σr (zn σ) ((1 : Nat) : Int) ((b5 : Int) + 1))), zR (zn (zsi σr (zn σ) ((1 : Nat) : Int) ((b5 : Int) + 1))), zI (b5 : Int), zR (E5 7)] (zsi (znw (zsi σr (zn σ) ((1 : Nat) : Int) ((b5 : Int) + 1)) 1 8 8) (zn (zsi σr (zn σ) ((1 : Nat) : Int) ((b5 : Int) + 1))) 0 z392) _
          refine zF_iadd 448 dL_drawn_447 rfl ?_
          refine zF_iastore 449 dL_drawn_448 rfl (((nwR_0 (zsi σr (zn σ) ((1 : Nat) : Int) ((b5 : Int) + 1)) 8).si.2.1 _).trans (if_pos rfl)) (show (zn (zsi σr (zn σ) ((1 : Nat) : Int) ((b5 : Int) + 1))) < zn (zsi (znw (zsi σr (zn σ) ((1 : Nat) : Int) ((b5 : Int) + 1)) 1 8 8) (zn (zsi σr (zn σ) ((1 : Nat) : Int) ((b5 : Int) + 1))) 0 z392) from nwR.lt (nwR_0 (zsi σr (zn σ) ((1 : Nat) : Int) ((b5 : Int) + 1)) 8).si) (by omega) (by omega) ?_
          refine zF_dup 450 dL_drawn_449 rfl rfl ?_
          refine zF_iconst 451 dL_drawn_450 rfl ?_
          refine zF_iconst 452 dL_drawn_451 rfl ?_
          refine zF_iload 454 dL_drawn_452 rfl rfl ?_
          refine zF_iconst 455 dL_drawn_454 rfl ?_
          refine zF_ishr 456 dL_drawn_455 rfl ?_
          refine zF_bipush 458 dL_drawn_456 rfl (by decide) ?_
          refine zF_callS 461 (d2 := (d + 1)) (as := [zI ((Int32.ofInt ((Int32.ofInt z374 >>> (Int32.ofInt ((((x5 : Nat) : Int) / 3) * 4) &&& 31)).toInt) >>> (Int32.ofInt 5 &&& 31)).toInt), zI 6]) dL_drawn_458 rfl kL_27 sL_most (Nat.le_refl _) rfl rfl (Nat.le_of_ble_eq_true rfl) (zE.mono (zt_L_most (by omega) (by constructor <;> omega)) fun ro σx458 hh458 => ?_)
          obtain ⟨es458, z458, er458, zl458, zu458⟩ := hh458
          replace es458 := es458.symm
          subst es458
          subst er458
          refine ⟨rfl, ?_⟩
          show zF G mL_drawn (d + 2) 461 [(7, zI z392), (6, zI ((Int32.ofInt z374 >>> (Int32.ofInt ((((x5 : Nat) : Int) / 3) * 4) &&& 31)).toInt)), (5, zI ((x5 : Nat) : Int)), (4, zI z350), (3, zI z10), (2, zR (zn σ)), (0, zR (zbg + 500)), (1, zI 0)] [zI z458, zI 1, zI 2, zR (zn (zsi σr (zn σ) ((1 : Nat) : Int) ((b5 : Int) + 1))), zR (zn (zsi σr (zn σ) ((1 : Nat) : Int) ((b5 : Int) + 1))), zI (b5 : Int), zR (E5 7)] (zsi (zsi (znw (zsi σr (zn σ) ((1 : Nat) : Int) ((b5 : Int) + 1)) 1 8 8) (zn (zsi σr (zn σ) ((1 : Nat) : Int) ((b5 : Int) + 1))) 0 z392) (zn (zsi σr (zn σ) ((1 : Nat) : Int) ((b5 : Int) + 1))) 1 (1 + z444)) _
          refine zF_iadd 462 dL_drawn_461 rfl ?_
          refine zF_iastore 463 dL_drawn_462 rfl (((nwR_0 (zsi σr (zn σ) ((1 : Nat) : Int) ((b5 : Int) + 1)) 8).si.si.2.1 _).trans (if_pos rfl)) (show (zn (zsi σr (zn σ) ((1 : Nat) : Int) ((b5 : Int) + 1))) < zn (zsi (zsi (znw (zsi σr (zn σ) ((1 : Nat) : Int) ((b5 : Int) + 1)) 1 8 8) (zn (zsi σr (zn σ) ((1 : Nat) : Int) ((b5 : Int) + 1))) 0 z392) (zn (zsi σr (zn σ) ((1 : Nat) : Int) ((b5 : Int) + 1))) 1 (1 + z444)) from nwR.lt (nwR_0 (zsi σr (zn σ) ((1 : Nat) : Int) ((b5 : Int) + 1)) 8).si.si) (by omega) (by omega) ?_
          refine zF_dup 464 dL_drawn_463 rfl rfl ?_
          refine zF_iconst 465 dL_drawn_464 rfl ?_
          refine zF_iload 467 dL_drawn_465 rfl rfl ?_
          refine zF_bipush 469 dL_drawn_467 rfl (by decide) ?_
          refine zF_ishr 470 dL_drawn_469 rfl ?_
          refine zF_sipush 473 dL_drawn_470 rfl (by decide) ?_
          refine zF_callS 476 (d2 := (d + 1)) (as := [zI ((Int32.ofInt ((Int32.ofInt z374 >>> (Int32.ofInt ((((x5 : Nat) : Int) / 3) * 4) &&& 31)).toInt) >>> (Int32.ofInt 7 &&& 31)).toInt), zI 200]) dL_drawn_473 rfl kL_27 sL_most (Nat.le_refl _) rfl rfl (Nat.le_of_ble_eq_true rfl) (zE.mono (zt_L_most (by omega) (by constructor <;> omega)) fun ro σx473 hh473 => ?_)
          obtain ⟨es473, z473, er473, zl473, zu473⟩ := hh473
          replace es473 := es473.symm
          subst es473
          subst er473
          refine ⟨rfl, ?_⟩
          show zF G mL_drawn (d + 2) 476 [(7, zI z392), (6, zI ((Int32.ofInt z374 >>> (Int32.ofInt ((((x5 : Nat) : Int) / 3) * 4) &&& 31)).toInt)), (5, zI ((x5 : Nat) : Int)), (4, zI z350), (3, zI z10), (2, zR (zn σ)), (0, zR (zbg + 500)), (1, zI 0)] [zI z473, zI 3, zR (zn (zsi σr (zn σ) ((1 : Nat) : Int) ((b5 : Int) + 1))), zR (zn (zsi σr (zn σ) ((1 : Nat) : Int) ((b5 : Int) + 1))), zI (b5 : Int), zR (E5 7)] (zsi (zsi (zsi (znw (zsi σr (zn σ) ((1 : Nat) : Int) ((b5 : Int) + 1)) 1 8 8) (zn (zsi σr (zn σ) ((1 : Nat) : Int) ((b5 : Int) + 1))) 0 z392) (zn (zsi σr (zn σ) ((1 : Nat) : Int) ((b5 : Int) + 1))) 1 (1 + z444)) (zn (zsi σr (zn σ) ((1 : Nat) : Int) ((b5 : Int) + 1))) 2 (1 + z458)) _
          refine zF_iastore 477 dL_drawn_476 rfl (((nwR_0 (zsi σr (zn σ) ((1 : Nat) : Int) ((b5 : Int) + 1)) 8).si.si.si.2.1 _).trans (if_pos rfl)) (show (zn (zsi σr (zn σ) ((1 : Nat) : Int) ((b5 : Int) + 1))) < zn (zsi (zsi (zsi (znw (zsi σr (zn σ) ((1 : Nat) : Int) ((b5 : Int) + 1)) 1 8 8) (zn (zsi σr (zn σ) ((1 : Nat) : Int) ((b5 : Int) + 1))) 0 z392) (zn (zsi σr (zn σ) ((1 : Nat) : Int) ((b5 : Int) + 1))) 1 (1 + z444)) (zn (zsi σr (zn σ) ((1 : Nat) : Int) ((b5 : Int) + 1))) 2 (1 + z458)) from nwR.lt (nwR_0 (zsi σr (zn σ) ((1 : Nat) : Int) ((b5 : Int) + 1)) 8).si.si.si) (by omega) (by omega) ?_
          refine zF_dup 478 dL_drawn_477 rfl rfl ?_
          refine zF_iconst 479 dL_drawn_478 rfl ?_
          refine zF_iconst 480 dL_drawn_479 rfl ?_
          refine zF_iastore 481 dL_drawn_480 rfl (((nwR_0 (zsi σr (zn σ) ((1 : Nat) : Int) ((b5 : Int) + 1)) 8).si.si.si.si.2.1 _).trans (if_pos rfl)) (show (zn (zsi σr (zn σ) ((1 : Nat) : Int) ((b5 : Int) + 1))) < zn (zsi (zsi (zsi (zsi (znw (zsi σr (zn σ) ((1 : Nat) : Int) ((b5 : Int) + 1)) 1 8 8) (zn (zsi σr (zn σ) ((1 : Nat) : Int) ((b5 : Int) + 1))) 0 z392) (zn (zsi σr (zn σ) ((1 : Nat) : Int) ((b5 : Int) + 1))) 1 (1 + z444)) (zn (zsi σr (zn σ) ((1 : Nat) : Int) ((b5 : Int) + 1))) 2 (1 + z458)) (zn (zsi σr (zn σ) ((1 : Nat) : Int) ((b5 : Int) + 1))) 3 z473) from nwR.lt (nwR_0 (zsi σr (zn σ) ((1 : Nat) : Int) ((b5 : Int) + 1)) 8).si.si.si.si) (by omega) (by omega) ?_
          refine zF_dup 482 dL_drawn_481 rfl rfl ?_
          refine zF_iconst 483 dL_drawn_482 rfl ?_
          refine zF_iconst 484 dL_drawn_483 rfl ?_
          refine zF_iastore 485 dL_drawn_484 rfl (((nwR_0 (zsi σr (zn σ) ((1 : Nat) : Int) ((b5 : Int) + 1)) 8).si.si.si.si.si.2.1 _).trans (if_pos rfl)) (show (zn (zsi σr (zn σ) ((1 : Nat) : Int) ((b5 : Int) + 1))) < zn (zsi (zsi (zsi (zsi (zsi (znw (zsi σr (zn σ) ((1 : Nat) : Int) ((b5 : Int) + 1)) 1 8 8) (zn (zsi σr (zn σ) ((1 : Nat) : Int) ((b5 : Int) + 1))) 0 z392) (zn (zsi σr (zn σ) ((1 : Nat) : Int) ((b5 : Int) + 1))) 1 (1 + z444)) (zn (zsi σr (zn σ) ((1 : Nat) : Int) ((b5 : Int) + 1))) 2 (1 + z458)) (zn (zsi σr (zn σ) ((1 : Nat) : Int) ((b5 : Int) + 1))) 3 z473) (zn (zsi σr (zn σ) ((1 : Nat) : Int) ((b5 : Int) + 1))) 4 (-1)) from nwR.lt (nwR_0 (zsi σr (zn σ) ((1 : Nat) : Int) ((b5 : Int) + 1)) 8).si.si.si.si.si) (by omega) (by omega) ?_
          refine zF_dup 486 dL_drawn_485 rfl rfl ?_
          refine zF_bipush 488 dL_drawn_486 rfl (by decide) ?_
          refine zF_iconst 489 dL_drawn_488 rfl ?_
          refine zF_iastore 490 dL_drawn_489 rfl (((nwR_0 (zsi σr (zn σ) ((1 : Nat) : Int) ((b5 : Int) + 1)) 8).si.si.si.si.si.si.2.1 _).trans (if_pos rfl)) (show (zn (zsi σr (zn σ) ((1 : Nat) : Int) ((b5 : Int) + 1))) < zn (zsi (zsi (zsi (zsi (zsi (zsi (znw (zsi σr (zn σ) ((1 : Nat) : Int) ((b5 : Int) + 1)) 1 8 8) (zn (zsi σr (zn σ) ((1 : Nat) : Int) ((b5 : Int) + 1))) 0 z392) (zn (zsi σr (zn σ) ((1 : Nat) : Int) ((b5 : Int) + 1))) 1 (1 + z444)) (zn (zsi σr (zn σ) ((1 : Nat) : Int) ((b5 : Int) + 1))) 2 (1 + z458)) (zn (zsi σr (zn σ) ((1 : Nat) : Int) ((b5 : Int) + 1))) 3 z473) (zn (zsi σr (zn σ) ((1 : Nat) : Int) ((b5 : Int) + 1))) 4 (-1)) (zn (zsi σr (zn σ) ((1 : Nat) : Int) ((b5 : Int) + 1))) 5 (-1)) from nwR.lt (nwR_0 (zsi σr (zn σ) ((1 : Nat) : Int) ((b5 : Int) + 1)) 8).si.si.si.si.si.si) (by omega) (by omega) ?_
          refine zF_dup 491 dL_drawn_490 rfl rfl ?_
          refine zF_bipush 493 dL_drawn_491 rfl (by decide) ?_
          refine zF_iconst 494 dL_drawn_493 rfl ?_
          refine zF_iastore 495 dL_drawn_494 rfl (((nwR_0 (zsi σr (zn σ) ((1 : Nat) : Int) ((b5 : Int) + 1)) 8).si.si.si.si.si.si.si.2.1 _).trans (if_pos rfl)) (show (zn (zsi σr (zn σ) ((1 : Nat) : Int) ((b5 : Int) + 1))) < zn (zsi (zsi (zsi (zsi (zsi (zsi (zsi (znw (zsi σr (zn σ) ((1 : Nat) : Int) ((b5 : Int) + 1)) 1 8 8) (zn (zsi σr (zn σ) ((1 : Nat) : Int) ((b5 : Int) + 1))) 0 z392) (zn (zsi σr (zn σ) ((1 : Nat) : Int) ((b5 : Int) + 1))) 1 (1 + z444)) (zn (zsi σr (zn σ) ((1 : Nat) : Int) ((b5 : Int) + 1))) 2 (1 + z458)) (zn (zsi σr (zn σ) ((1 : Nat) : Int) ((b5 : Int) + 1))) 3 z473) (zn (zsi σr (zn σ) ((1 : Nat) : Int) ((b5 : Int) + 1))) 4 (-1)) (zn (zsi σr (zn σ) ((1 : Nat) : Int) ((b5 : Int) + 1))) 5 (-1)) (zn (zsi σr (zn σ) ((1 : Nat) : Int) ((b5 : Int) + 1))) 6 0) from nwR.lt (nwR_0 (zsi σr (zn σ) ((1 : Nat) : Int) ((b5 : Int) + 1)) 8).si.si.si.si.si.si.si) (by omega) (by omega) ?_
          have w0 : zia (zsi (zsi (zsi (zsi (zsi (zsi (zsi (zsi (znw (zsi σr (zn σ) ((1 : Nat) : Int) ((b5 : Int) + 1)) 1 8 8) (zn (zsi σr (zn σ) ((1 : Nat) : Int) ((b5 : Int) + 1))) 0 z392) (zn (zsi σr (zn σ) ((1 : Nat) : Int) ((b5 : Int) + 1))) 1 (1 + z444)) (zn (zsi σr (zn σ) ((1 : Nat) : Int) ((b5 : Int) + 1))) 2 (1 + z458)) (zn (zsi σr (zn σ) ((1 : Nat) : Int) ((b5 : Int) + 1))) 3 z473) (zn (zsi σr (zn σ) ((1 : Nat) : Int) ((b5 : Int) + 1))) 4 (-1)) (zn (zsi σr (zn σ) ((1 : Nat) : Int) ((b5 : Int) + 1))) 5 (-1)) (zn (zsi σr (zn σ) ((1 : Nat) : Int) ((b5 : Int) + 1))) 6 0) (zn (zsi σr (zn σ) ((1 : Nat) : Int) ((b5 : Int) + 1))) 7 0) (zn (zsi σr (zn σ) ((1 : Nat) : Int) ((b5 : Int) + 1))) 0 = z392 := by repeat (first | rw [zia_si, if_pos ⟨rfl, rfl⟩] | rw [zia_si, if_neg (fun z => absurd z.2 (by decide))])
          have w1 : zia (zsi (zsi (zsi (zsi (zsi (zsi (zsi (zsi (znw (zsi σr (zn σ) ((1 : Nat) : Int) ((b5 : Int) + 1)) 1 8 8) (zn (zsi σr (zn σ) ((1 : Nat) : Int) ((b5 : Int) + 1))) 0 z392) (zn (zsi σr (zn σ) ((1 : Nat) : Int) ((b5 : Int) + 1))) 1 (1 + z444)) (zn (zsi σr (zn σ) ((1 : Nat) : Int) ((b5 : Int) + 1))) 2 (1 + z458)) (zn (zsi σr (zn σ) ((1 : Nat) : Int) ((b5 : Int) + 1))) 3 z473) (zn (zsi σr (zn σ) ((1 : Nat) : Int) ((b5 : Int) + 1))) 4 (-1)) (zn (zsi σr (zn σ) ((1 : Nat) : Int) ((b5 : Int) + 1))) 5 (-1)) (zn (zsi σr (zn σ) ((1 : Nat) : Int) ((b5 : Int) + 1))) 6 0) (zn (zsi σr (zn σ) ((1 : Nat) : Int) ((b5 : Int) + 1))) 7 0) (zn (zsi σr (zn σ) ((1 : Nat) : Int) ((b5 : Int) + 1))) 1 = (1 + z444) := by repeat (first | rw [zia_si, if_pos ⟨rfl, rfl⟩] | rw [zia_si, if_neg (fun z => absurd z.2 (by decide))])
          have w2 : zia (zsi (zsi (zsi (zsi (zsi (zsi (zsi (zsi (znw (zsi σr (zn σ) ((1 : Nat) : Int) ((b5 : Int) + 1)) 1 8 8) (zn (zsi σr (zn σ) ((1 : Nat) : Int) ((b5 : Int) + 1))) 0 z392) (zn (zsi σr (zn σ) ((1 : Nat) : Int) ((b5 : Int) + 1))) 1 (1 + z444)) (zn (zsi σr (zn σ) ((1 : Nat) : Int) ((b5 : Int) + 1))) 2 (1 + z458)) (zn (zsi σr (zn σ) ((1 : Nat) : Int) ((b5 : Int) + 1))) 3 z473) (zn (zsi σr (zn σ) ((1 : Nat) : Int) ((b5 : Int) + 1))) 4 (-1)) (zn (zsi σr (zn σ) ((1 : Nat) : Int) ((b5 : Int) + 1))) 5 (-1)) (zn (zsi σr (zn σ) ((1 : Nat) : Int) ((b5 : Int) + 1))) 6 0) (zn (zsi σr (zn σ) ((1 : Nat) : Int) ((b5 : Int) + 1))) 7 0) (zn (zsi σr (zn σ) ((1 : Nat) : Int) ((b5 : Int) + 1))) 2 = (1 + z458) := by repeat (first | rw [zia_si, if_pos ⟨rfl, rfl⟩] | rw [zia_si, if_neg (fun z => absurd z.2 (by decide))])
          have w3 : zia (zsi (zsi (zsi (zsi (zsi (zsi (zsi (zsi (znw (zsi σr (zn σ) ((1 : Nat) : Int) ((b5 : Int) + 1)) 1 8 8) (zn (zsi σr (zn σ) ((1 : Nat) : Int) ((b5 : Int) + 1))) 0 z392) (zn (zsi σr (zn σ) ((1 : Nat) : Int) ((b5 : Int) + 1))) 1 (1 + z444)) (zn (zsi σr (zn σ) ((1 : Nat) : Int) ((b5 : Int) + 1))) 2 (1 + z458)) (zn (zsi σr (zn σ) ((1 : Nat) : Int) ((b5 : Int) + 1))) 3 z473) (zn (zsi σr (zn σ) ((1 : Nat) : Int) ((b5 : Int) + 1))) 4 (-1)) (zn (zsi σr (zn σ) ((1 : Nat) : Int) ((b5 : Int) + 1))) 5 (-1)) (zn (zsi σr (zn σ) ((1 : Nat) : Int) ((b5 : Int) + 1))) 6 0) (zn (zsi σr (zn σ) ((1 : Nat) : Int) ((b5 : Int) + 1))) 7 0) (zn (zsi σr (zn σ) ((1 : Nat) : Int) ((b5 : Int) + 1))) 3 = z473 := by repeat (first | rw [zia_si, if_pos ⟨rfl, rfl⟩] | rw [zia_si, if_neg (fun z => absurd z.2 (by decide))])
          have w4 : zia (zsi (zsi (zsi (zsi (zsi (zsi (zsi (zsi (znw (zsi σr (zn σ) ((1 : Nat) : Int) ((b5 : Int) + 1)) 1 8 8) (zn (zsi σr (zn σ) ((1 : Nat) : Int) ((b5 : Int) + 1))) 0 z392) (zn (zsi σr (zn σ) ((1 : Nat) : Int) ((b5 : Int) + 1))) 1 (1 + z444)) (zn (zsi σr (zn σ) ((1 : Nat) : Int) ((b5 : Int) + 1))) 2 (1 + z458)) (zn (zsi σr (zn σ) ((1 : Nat) : Int) ((b5 : Int) + 1))) 3 z473) (zn (zsi σr (zn σ) ((1 : Nat) : Int) ((b5 : Int) + 1))) 4 (-1)) (zn (zsi σr (zn σ) ((1 : Nat) : Int) ((b5 : Int) + 1))) 5 (-1)) (zn (zsi σr (zn σ) ((1 : Nat) : Int) ((b5 : Int) + 1))) 6 0) (zn (zsi σr (zn σ) ((1 : Nat) : Int) ((b5 : Int) + 1))) 7 0) (zn (zsi σr (zn σ) ((1 : Nat) : Int) ((b5 : Int) + 1))) 4 = (-1) := by repeat (first | rw [zia_si, if_pos ⟨rfl, rfl⟩] | rw [zia_si, if_neg (fun z => absurd z.2 (by decide))])
          have w5 : zia (zsi (zsi (zsi (zsi (zsi (zsi (zsi (zsi (znw (zsi σr (zn σ) ((1 : Nat) : Int) ((b5 : Int) + 1)) 1 8 8) (zn (zsi σr (zn σ) ((1 : Nat) : Int) ((b5 : Int) + 1))) 0 z392) (zn (zsi σr (zn σ) ((1 : Nat) : Int) ((b5 : Int) + 1))) 1 (1 + z444)) (zn (zsi σr (zn σ) ((1 : Nat) : Int) ((b5 : Int) + 1))) 2 (1 + z458)) (zn (zsi σr (zn σ) ((1 : Nat) : Int) ((b5 : Int) + 1))) 3 z473) (zn (zsi σr (zn σ) ((1 : Nat) : Int) ((b5 : Int) + 1))) 4 (-1)) (zn (zsi σr (zn σ) ((1 : Nat) : Int) ((b5 : Int) + 1))) 5 (-1)) (zn (zsi σr (zn σ) ((1 : Nat) : Int) ((b5 : Int) + 1))) 6 0) (zn (zsi σr (zn σ) ((1 : Nat) : Int) ((b5 : Int) + 1))) 7 0) (zn (zsi σr (zn σ) ((1 : Nat) : Int) ((b5 : Int) + 1))) 5 = (-1) := by repeat (first | rw [zia_si, if_pos ⟨rfl, rfl⟩] | rw [zia_si, if_neg (fun z => absurd z.2 (by decide))])
          have w6 : zia (zsi (zsi (zsi (zsi (zsi (zsi (zsi (zsi (znw (zsi σr (zn σ) ((1 : Nat) : Int) ((b5 : Int) + 1)) 1 8 8) (zn (zsi σr (zn σ) ((1 : Nat) : Int) ((b5 : Int) + 1))) 0 z392) (zn (zsi σr (zn σ) ((1 : Nat) : Int) ((b5 : Int) + 1))) 1 (1 + z444)) (zn (zsi σr (zn σ) ((1 : Nat) : Int) ((b5 : Int) + 1))) 2 (1 + z458)) (zn (zsi σr (zn σ) ((1 : Nat) : Int) ((b5 : Int) + 1))) 3 z473) (zn (zsi σr (zn σ) ((1 : Nat) : Int) ((b5 : Int) + 1))) 4 (-1)) (zn (zsi σr (zn σ) ((1 : Nat) : Int) ((b5 : Int) + 1))) 5 (-1)) (zn (zsi σr (zn σ) ((1 : Nat) : Int) ((b5 : Int) + 1))) 6 0) (zn (zsi σr (zn σ) ((1 : Nat) : Int) ((b5 : Int) + 1))) 7 0) (zn (zsi σr (zn σ) ((1 : Nat) : Int) ((b5 : Int) + 1))) 6 = 0 := by repeat (first | rw [zia_si, if_pos ⟨rfl, rfl⟩] | rw [zia_si, if_neg (fun z => absurd z.2 (by decide))])
          have w7 : zia (zsi (zsi (zsi (zsi (zsi (zsi (zsi (zsi (znw (zsi σr (zn σ) ((1 : Nat) : Int) ((b5 : Int) + 1)) 1 8 8) (zn (zsi σr (zn σ) ((1 : Nat) : Int) ((b5 : Int) + 1))) 0 z392) (zn (zsi σr (zn σ) ((1 : Nat) : Int) ((b5 : Int) + 1))) 1 (1 + z444)) (zn (zsi σr (zn σ) ((1 : Nat) : Int) ((b5 : Int) + 1))) 2 (1 + z458)) (zn (zsi σr (zn σ) ((1 : Nat) : Int) ((b5 : Int) + 1))) 3 z473) (zn (zsi σr (zn σ) ((1 : Nat) : Int) ((b5 : Int) + 1))) 4 (-1)) (zn (zsi σr (zn σ) ((1 : Nat) : Int) ((b5 : Int) + 1))) 5 (-1)) (zn (zsi σr (zn σ) ((1 : Nat) : Int) ((b5 : Int) + 1))) 6 0) (zn (zsi σr (zn σ) ((1 : Nat) : Int) ((b5 : Int) + 1))) 7 0) (zn (zsi σr (zn σ) ((1 : Nat) : Int) ((b5 : Int) + 1))) 7 = 0 := by repeat (first | rw [zia_si, if_pos ⟨rfl, rfl⟩] | rw [zia_si, if_neg (fun z => absurd z.2 (by decide))])
          obtain ⟨N5n, E5n, I5n, k5n, q5n⟩ := dI_7 (Ir.i0 (j := ((1 : Nat) : Int)) (v := (b5 : Int) + 1)) (by show zn σr < zbg; omega) (by omega) (by omega) (by omega) (by omega) (nwR_0 (zsi σr (zn σ) ((1 : Nat) : Int) ((b5 : Int) + 1)) 8).si.si.si.si.si.si.si.si (by rw [w0, w1, w2, w3, w4, w5, w6, w7]; omega)
          refine zF_aastA 496 dL_drawn_495 rfl ((((nwR_0 (zsi σr (zn σ) ((1 : Nat) : Int) ((b5 : Int) + 1)) 8).si.si.si.si.si.si.si.si.2.1 _).trans (if_neg (Nat.ne_of_lt (show (E5 7) < zn (zsi σr (zn σ) ((1 : Nat) : Int) ((b5 : Int) + 1)) from (Ir.f 7 6 10 (by decide)).2.1)))).trans (show zkd (zsi σr (zn σ) ((1 : Nat) : Int) ((b5 : Int) + 1)) (E5 7) = (6, 10) from (Ir.f 7 6 10 (by decide)).2.2)) (show (E5 7) < zn (zsi (zsi (zsi (zsi (zsi (zsi (zsi (zsi (znw (zsi σr (zn σ) ((1 : Nat) : Int) ((b5 : Int) + 1)) 1 8 8) (zn (zsi σr (zn σ) ((1 : Nat) : Int) ((b5 : Int) + 1))) 0 z392) (zn (zsi σr (zn σ) ((1 : Nat) : Int) ((b5 : Int) + 1))) 1 (1 + z444)) (zn (zsi σr (zn σ) ((1 : Nat) : Int) ((b5 : Int) + 1))) 2 (1 + z458)) (zn (zsi σr (zn σ) ((1 : Nat) : Int) ((b5 : Int) + 1))) 3 z473) (zn (zsi σr (zn σ) ((1 : Nat) : Int) ((b5 : Int) + 1))) 4 (-1)) (zn (zsi σr (zn σ) ((1 : Nat) : Int) ((b5 : Int) + 1))) 5 (-1)) (zn (zsi σr (zn σ) ((1 : Nat) : Int) ((b5 : Int) + 1))) 6 0) (zn (zsi σr (zn σ) ((1 : Nat) : Int) ((b5 : Int) + 1))) 7 0) from nwR.upl (nwR_0 (zsi σr (zn σ) ((1 : Nat) : Int) ((b5 : Int) + 1)) 8).si.si.si.si.si.si.si.si (show (E5 7) < zn (zsi σr (zn σ) ((1 : Nat) : Int) ((b5 : Int) + 1)) from (Ir.f 7 6 10 (by decide)).2.1)) (((nwR_0 (zsi σr (zn σ) ((1 : Nat) : Int) ((b5 : Int) + 1)) 8).si.si.si.si.si.si.si.si.2.1 _).trans (if_pos rfl)) (show (zn (zsi σr (zn σ) ((1 : Nat) : Int) ((b5 : Int) + 1))) < zn (zsi (zsi (zsi (zsi (zsi (zsi (zsi (zsi (znw (zsi σr (zn σ) ((1 : Nat) : Int) ((b5 : Int) + 1)) 1 8 8) (zn (zsi σr (zn σ) ((1 : Nat) : Int) ((b5 : Int) + 1))) 0 z392) (zn (zsi σr (zn σ) ((1 : Nat) : Int) ((b5 : Int) + 1))) 1 (1 + z444)) (zn (zsi σr (zn σ) ((1 : Nat) : Int) ((b5 : Int) + 1))) 2 (1 + z458)) (zn (zsi σr (zn σ) ((1 : Nat) : Int) ((b5 : Int) + 1))) 3 z473) (zn (zsi σr (zn σ) ((1 : Nat) : Int) ((b5 : Int) + 1))) 4 (-1)) (zn (zsi σr (zn σ) ((1 : Nat) : Int) ((b5 : Int) + 1))) 5 (-1)) (zn (zsi σr (zn σ) ((1 : Nat) : Int) ((b5 : Int) + 1))) 6 0) (zn (zsi σr (zn σ) ((1 : Nat) : Int) ((b5 : Int) + 1))) 7 0) from nwR.lt (nwR_0 (zsi σr (zn σ) ((1 : Nat) : Int) ((b5 : Int) + 1)) 8).si.si.si.si.si.si.si.si) hAO (by omega) (by omega) ?_
          refine zF_iinc 499 (ls' := [(5, zI (((x5 : Nat) : Int) + 1)), (7, zI z392), (6, zI ((Int32.ofInt z374 >>> (Int32.ofInt ((((x5 : Nat) : Int) / 3) * 4) &&& 31)).toInt)), (4, zI z350), (3, zI z10), (2, zR (zn σ)), (0, zR (zbg + 500)), (1, zI 0)]) dL_drawn_496 rfl rfl rfl (by decide) rfl ?_
          refine zF_goto 358 dL_drawn_499 rfl ?_
          exact zF_locs (ls' := [(5, zI (((x5 + 1) : Nat) : Int)), (4, zI z350), (3, zI z10), (2, zR (zn σ)), (0, zR (zbg + 500)), (1, zI 0)]) ⟨zlI rfl (by first | rfl | omega | (push_cast; omega) | exact congrArg (_ + ·) (zbT (by assumption)) | exact congrArg (_ + ·) (zbF (by assumption)) | exact congrArg (_ + ·) (zbT (by omega)) | exact congrArg (_ + ·) (zbF (by omega)) | exact congrArg (_ + ·) (if_pos (by omega)).symm | exact congrArg (_ + ·) (if_neg (by omega)).symm | exact (if_pos (by omega)).symm | exact (if_neg (by omega)).symm | exact zsub_s (if_pos (by omega)).symm | exact zsub_s0 (if_neg (by omega)).symm | exact zadd0 (if_neg (by omega)).symm | exact zadd0 (zbF (by omega)) | exact (Int.sub_zero _).symm), rfl, rfl, rfl, rfl, rfl, trivial⟩ (ih358 (x5 + 1) _ (by omega) (⟨N5n, E5n, b5 + 1, by omega, by omega, (by have e1 : ((b5 + 1 : Nat) : Int) = (b5 : Int) + 1 := (by omega); rw [e1]; exact ⟨I5n.1, I5n.2.1, I5n.2.2.1, I5n.2.2.2.1, I5n.2.2.2.2.1, I5n.2.2.2.2.2.wk (by omega)⟩), (by have e1 : ((b5 + 1 : Nat) : Int) = (b5 : Int) + 1 := (by omega); rw [e1]; exact Cr.s1.eq k5n), fN_Cn m5 (z := z392) (by have q3 := m5 z392; omega) (fun j j0 j1 => (q5n j).2 (by omega)) (by rw [(q5n _).1 (by omega), show 14 + 8 * (b5 : Int) + 0 - (14 + 8 * (b5 : Int)) = 0 by omega]; exact w0)⟩))
        · refine zF_goto 496 dL_drawn_408 rfl ?_
          refine zF_iinc 499 (ls' := [(5, zI (((x5 : Nat) : Int) + 1)), (7, zI z392), (6, zI ((Int32.ofInt z374 >>> (Int32.ofInt ((((x5 : Nat) : Int) / 3) * 4) &&& 31)).toInt)), (4, zI z350), (3, zI z10), (2, zR (zn σ)), (0, zR (zbg + 500)), (1, zI 0)]) dL_drawn_496 rfl rfl rfl (by decide) rfl ?_
          refine zF_goto 358 dL_drawn_499 rfl ?_
          exact zF_locs (ls' := [(5, zI (((x5 + 1) : Nat) : Int)), (4, zI z350), (3, zI z10), (2, zR (zn σ)), (0, zR (zbg + 500)), (1, zI 0)]) ⟨zlI rfl (by first | rfl | omega | (push_cast; omega) | exact congrArg (_ + ·) (zbT (by assumption)) | exact congrArg (_ + ·) (zbF (by assumption)) | exact congrArg (_ + ·) (zbT (by omega)) | exact congrArg (_ + ·) (zbF (by omega)) | exact congrArg (_ + ·) (if_pos (by omega)).symm | exact congrArg (_ + ·) (if_neg (by omega)).symm | exact (if_pos (by omega)).symm | exact (if_neg (by omega)).symm | exact zsub_s (if_pos (by omega)).symm | exact zsub_s0 (if_neg (by omega)).symm | exact zadd0 (if_neg (by omega)).symm | exact zadd0 (zbF (by omega)) | exact (Int.sub_zero _).symm), rfl, rfl, rfl, rfl, rfl, trivial⟩ (ih358 (x5 + 1) _ (by omega) (⟨N5, E5, b5, by omega, by omega, ⟨Ir.1, Ir.2.1, Ir.2.2.1, Ir.2.2.2.1, Ir.2.2.2.2.1, Ir.2.2.2.2.2.wk (by omega)⟩, Cr, m5⟩))
    · refine zF_aload_n 116 dL_drawn_115 rfl rfl ?_
      refine zF_iload_n 117 dL_drawn_116 rfl rfl ?_
      refine zF_iconst 118 dL_drawn_117 rfl ?_
      refine zF_iadd 119 dL_drawn_118 rfl ?_
      refine zF_iload 121 dL_drawn_119 rfl rfl ?_
      refine zF_iadd 122 dL_drawn_121 rfl ?_
      refine zF_callS 125 (d2 := (d + 1)) (as := [zR (zbg + 500), zI ((0 + 1) + ((x2 : Nat) : Int))]) dL_drawn_122 rfl kL_23 sL_cell (Nat.le_refl _) rfl rfl (Nat.le_of_ble_eq_true rfl) (zE.mono (zt_L_cellI hX (by omega) (by omega)) fun ro σx122 hh122 => ?_)
      obtain ⟨es122, z122, er122, zl122, zu122⟩ := hh122
      replace es122 := es122.symm
      subst es122
      subst er122
      refine ⟨rfl, ?_⟩
      show zF G mL_drawn (d + 2) 125 [(4, zI ((x2 : Nat) : Int)), (3, zI z10), (2, zR (zn σ)), (0, zR (zbg + 500)), (1, zI 0)] [zI z122] σ106 _
      refine zF_istore 127 (ls' := [(5, zI z122), (4, zI ((x2 : Nat) : Int)), (3, zI z10), (2, zR (zn σ)), (0, zR (zbg + 500)), (1, zI 0)]) dL_drawn_125 rfl (by decide) rfl ?_
      refine zF_iconst 128 dL_drawn_127 rfl ?_
      refine zF_iload 130 dL_drawn_128 rfl rfl ?_
      refine zF_iconst 131 dL_drawn_130 rfl ?_
      refine zF_ishr 132 dL_drawn_131 rfl ?_
      refine zF_iconst 133 dL_drawn_132 rfl ?_
      refine zF_callS 136 (d2 := (d + 1)) (as := [zI ((Int32.ofInt z122 >>> (Int32.ofInt 3 &&& 31)).toInt), zI 4]) dL_drawn_133 rfl kL_27 sL_most (Nat.le_refl _) rfl rfl (Nat.le_of_ble_eq_true rfl) (zE.mono (zt_L_most (by omega) (by constructor <;> omega)) fun ro σx133 hh133 => ?_)
      obtain ⟨es133, z133, er133, zl133, zu133⟩ := hh133
      replace es133 := es133.symm
      subst es133
      subst er133
      refine ⟨rfl, ?_⟩
      show zF G mL_drawn (d + 2) 136 [(5, zI z122), (4, zI ((x2 : Nat) : Int)), (3, zI z10), (2, zR (zn σ)), (0, zR (zbg + 500)), (1, zI 0)] [zI z133, zI 1] σ106 _
      refine zF_iadd 137 dL_drawn_136 rfl ?_
      refine zF_istore 139 (ls' := [(6, zI (1 + z133)), (5, zI z122), (4, zI ((x2 : Nat) : Int)), (3, zI z10), (2, zR (zn σ)), (0, zR (zbg + 500)), (1, zI 0)]) dL_drawn_137 rfl (by decide) rfl ?_
      refine zF_aload_n 140 dL_drawn_139 rfl rfl ?_
      refine zF_getRN 143 dL_drawn_140 rfl gnL_42 (show zkd σ106 (zn σ) = (0, 12) from I2.k0) (show (zn σ) < zn σ106 from I2.l0) (I2.f 8 6 6 (by decide)).1 ?_
      refine zF_iload 145 dL_drawn_143 rfl rfl ?_
      refine zF_bipush 147 dL_drawn_145 rfl (by decide) ?_
      refine zF_newarray 149 dL_drawn_147 rfl (Or.inl ⟨rfl, rfl⟩) (zi1 152 rfl rfl) (by omega) (by omega) (by omega) (zwl_q (by exact (⟨trivial, trivial, trivial, trivial, zwR (show (zn σ) < zn σ106 from I2.l0), zwO, trivial, trivial⟩ : _ ∧ _ ∧ _ ∧ _ ∧ _ ∧ _ ∧ _ ∧ True))) (zwl_m (by exact (⟨trivial, zwR (show (E2 8) < zn σ106 from (I2.f 8 6 6 (by decide)).2.1), trivial⟩ : _ ∧ _ ∧ True))) ?_
      show zF G mL_drawn (d + 2) 149 [(6, zI (1 + z133)), (5, zI z122), (4, zI ((x2 : Nat) : Int)), (3, zI z10), (2, zR (zn σ)), (0, zR (zbg + 500)), (1, zI 0)] [zR (zn σ106), zI ((x2 : Nat) : Int), zR (E2 8)] (znw σ106 1 10 10) _
      refine zF_dup 150 dL_drawn_149 rfl rfl ?_
      refine zF_iconst 151 dL_drawn_150 rfl ?_
      refine zF_iload 153 dL_drawn_151 rfl rfl ?_
      have jn172 : ∀ v172 : Int, 0 < v172 ∧ v172 ≤ 400 → zF G mL_drawn (d + 2) 172 [(6, zI (1 + z133)), (5, zI z122), (4, zI ((x2 : Nat) : Int)), (3, zI z10), (2, zR (zn σ)), (0, zR (zbg + 500)), (1, zI 0)] (zI v172 :: [zI z122, zI 0, zR (zn σ106), zR (zn σ106), zI ((x2 : Nat) : Int), zR (E2 8)]) (znw σ106 1 10 10) (fun ro σ1 => ro = .inl (some (zR (zn σ))) ∧ ∃ N E, dN N ∧ mV N ∧ E 0 = (zn σ) ∧ eO N σ1 E ∧ eU E (zn σ) (zn σ1) ∧ zGw (zn σ) σ σ1 ∧ zB σ σ1 60) := by
        intro v172 hv172
        refine zF_callS 175 (d2 := (d + 1)) (as := [zI z122, zI v172]) dL_drawn_172 rfl kL_27 sL_most (Nat.le_refl _) rfl rfl (Nat.le_of_ble_eq_true rfl) (zE.mono (zt_L_most (by omega) (by constructor <;> omega)) fun ro σx172 hh172 => ?_)
        obtain ⟨es172, z172, er172, zl172, zu172⟩ := hh172
        replace es172 := es172.symm
        subst es172
        subst er172
        refine ⟨rfl, ?_⟩
        show zF G mL_drawn (d + 2) 175 [(6, zI (1 + z133)), (5, zI z122), (4, zI ((x2 : Nat) : Int)), (3, zI z10), (2, zR (zn σ)), (0, zR (zbg + 500)), (1, zI 0)] [zI z172, zI 0, zR (zn σ106), zR (zn σ106), zI ((x2 : Nat) : Int), zR (E2 8)] (znw σ106 1 10 10) _
        refine zF_iastore 176 dL_drawn_175 rfl (((nwR_0 σ106 10).2.1 _).trans (if_pos rfl)) (show (zn σ106) < zn (znw σ106 1 10 10) from nwR.lt (nwR_0 σ106 10)) (by omega) (by omega) ?_
        refine zF_dup 177 dL_drawn_176 rfl rfl ?_
        refine zF_iconst 178 dL_drawn_177 rfl ?_
        refine zF_iload 180 dL_drawn_178 rfl rfl ?_
        refine zF_iconst 181 dL_drawn_180 rfl ?_
        refine zF_ishr 182 dL_drawn_181 rfl ?_
        refine zF_bipush 184 dL_drawn_182 rfl (by decide) ?_
        refine zF_callS 187 (d2 := (d + 1)) (as := [zI ((Int32.ofInt z122 >>> (Int32.ofInt 5 &&& 31)).toInt), zI 101]) dL_drawn_184 rfl kL_27 sL_most (Nat.le_refl _) rfl rfl (Nat.le_of_ble_eq_true rfl) (zE.mono (zt_L_most (by omega) (by constructor <;> omega)) fun ro σx184 hh184 => ?_)
        obtain ⟨es184, z184, er184, zl184, zu184⟩ := hh184
        replace es184 := es184.symm
        subst es184
        subst er184
        refine ⟨rfl, ?_⟩
        show zF G mL_drawn (d + 2) 187 [(6, zI (1 + z133)), (5, zI z122), (4, zI ((x2 : Nat) : Int)), (3, zI z10), (2, zR (zn σ)), (0, zR (zbg + 500)), (1, zI 0)] [zI z184, zI 1, zR (zn σ106), zR (zn σ106), zI ((x2 : Nat) : Int), zR (E2 8)] (zsi (znw σ106 1 10 10) (zn σ106) 0 z172) _
        refine zF_iastore 188 dL_drawn_187 rfl (((nwR_0 σ106 10).si.2.1 _).trans (if_pos rfl)) (show (zn σ106) < zn (zsi (znw σ106 1 10 10) (zn σ106) 0 z172) from nwR.lt (nwR_0 σ106 10).si) (by omega) (by omega) ?_
        refine zF_dup 189 dL_drawn_188 rfl rfl ?_
        refine zF_iconst 190 dL_drawn_189 rfl ?_
        refine zF_iload 192 dL_drawn_190 rfl rfl ?_
        refine zF_bipush 194 dL_drawn_192 rfl (by decide) ?_
        refine zF_ishr 195 dL_drawn_194 rfl ?_
        have jn215 : ∀ v215 : Int, 0 < v215 ∧ v215 ≤ 4000 → zF G mL_drawn (d + 2) 215 [(6, zI (1 + z133)), (5, zI z122), (4, zI ((x2 : Nat) : Int)), (3, zI z10), (2, zR (zn σ)), (0, zR (zbg + 500)), (1, zI 0)] (zI v215 :: [zI ((Int32.ofInt z122 >>> (Int32.ofInt 7 &&& 31)).toInt), zI 2, zR (zn σ106), zR (zn σ106), zI ((x2 : Nat) : Int), zR (E2 8)]) (zsi (zsi (znw σ106 1 10 10) (zn σ106) 0 z172) (zn σ106) 1 z184) (fun ro σ1 => ro = .inl (some (zR (zn σ))) ∧ ∃ N E, dN N ∧ mV N ∧ E 0 = (zn σ) ∧ eO N σ1 E ∧ eU E (zn σ) (zn σ1) ∧ zGw (zn σ) σ σ1 ∧ zB σ σ1 60) := by
          intro v215 hv215
          refine zF_callS 218 (d2 := (d + 1)) (as := [zI ((Int32.ofInt z122 >>> (Int32.ofInt 7 &&& 31)).toInt), zI v215]) dL_drawn_215 rfl kL_27 sL_most (Nat.le_refl _) rfl rfl (Nat.le_of_ble_eq_true rfl) (zE.mono (zt_L_most (by omega) (by constructor <;> omega)) fun ro σx215 hh215 => ?_)
          obtain ⟨es215, z215, er215, zl215, zu215⟩ := hh215
          replace es215 := es215.symm
          subst es215
          subst er215
          refine ⟨rfl, ?_⟩
          show zF G mL_drawn (d + 2) 218 [(6, zI (1 + z133)), (5, zI z122), (4, zI ((x2 : Nat) : Int)), (3, zI z10), (2, zR (zn σ)), (0, zR (zbg + 500)), (1, zI 0)] [zI z215, zI 2, zR (zn σ106), zR (zn σ106), zI ((x2 : Nat) : Int), zR (E2 8)] (zsi (zsi (znw σ106 1 10 10) (zn σ106) 0 z172) (zn σ106) 1 z184) _
          refine zF_iastore 219 dL_drawn_218 rfl (((nwR_0 σ106 10).si.si.2.1 _).trans (if_pos rfl)) (show (zn σ106) < zn (zsi (zsi (znw σ106 1 10 10) (zn σ106) 0 z172) (zn σ106) 1 z184) from nwR.lt (nwR_0 σ106 10).si.si) (by omega) (by omega) ?_
          refine zF_dup 220 dL_drawn_219 rfl rfl ?_
          refine zF_iconst 221 dL_drawn_220 rfl ?_
          refine zF_iload 223 dL_drawn_221 rfl rfl ?_
          refine zF_iastore 224 dL_drawn_223 rfl (((nwR_0 σ106 10).si.si.si.2.1 _).trans (if_pos rfl)) (show (zn σ106) < zn (zsi (zsi (zsi (znw σ106 1 10 10) (zn σ106) 0 z172) (zn σ106) 1 z184) (zn σ106) 2 z215) from nwR.lt (nwR_0 σ106 10).si.si.si) (by omega) (by omega) ?_
          refine zF_dup 225 dL_drawn_224 rfl rfl ?_
          refine zF_iconst 226 dL_drawn_225 rfl ?_
          refine zF_iconst 227 dL_drawn_226 rfl ?_
          refine zF_iastore 228 dL_drawn_227 rfl (((nwR_0 σ106 10).si.si.si.si.2.1 _).trans (if_pos rfl)) (show (zn σ106) < zn (zsi (zsi (zsi (zsi (znw σ106 1 10 10) (zn σ106) 0 z172) (zn σ106) 1 z184) (zn σ106) 2 z215) (zn σ106) 3 (1 + z133)) from nwR.lt (nwR_0 σ106 10).si.si.si.si) (by omega) (by omega) ?_
          refine zF_dup 229 dL_drawn_228 rfl rfl ?_
          refine zF_iconst 230 dL_drawn_229 rfl ?_
          refine zF_iconst 231 dL_drawn_230 rfl ?_
          refine zF_iastore 232 dL_drawn_231 rfl (((nwR_0 σ106 10).si.si.si.si.si.2.1 _).trans (if_pos rfl)) (show (zn σ106) < zn (zsi (zsi (zsi (zsi (zsi (znw σ106 1 10 10) (zn σ106) 0 z172) (zn σ106) 1 z184) (zn σ106) 2 z215) (zn σ106) 3 (1 + z133)) (zn σ106) 4 0) from nwR.lt (nwR_0 σ106 10).si.si.si.si.si) (by omega) (by omega) ?_
          refine zF_dup 233 dL_drawn_232 rfl rfl ?_
          refine zF_bipush 235 dL_drawn_233 rfl (by decide) ?_
          refine zF_iconst 236 dL_drawn_235 rfl ?_
          refine zF_iastore 237 dL_drawn_236 rfl (((nwR_0 σ106 10).si.si.si.si.si.si.2.1 _).trans (if_pos rfl)) (show (zn σ106) < zn (zsi (zsi (zsi (zsi (zsi (zsi (znw σ106 1 10 10) (zn σ106) 0 z172) (zn σ106) 1 z184) (zn σ106) 2 z215) (zn σ106) 3 (1 + z133)) (zn σ106) 4 0) (zn σ106) 5 0) from nwR.lt (nwR_0 σ106 10).si.si.si.si.si.si) (by omega) (by omega) ?_
          refine zF_dup 238 dL_drawn_237 rfl rfl ?_
          refine zF_bipush 240 dL_drawn_238 rfl (by decide) ?_
          refine zF_iconst 241 dL_drawn_240 rfl ?_
          refine zF_iastore 242 dL_drawn_241 rfl (((nwR_0 σ106 10).si.si.si.si.si.si.si.2.1 _).trans (if_pos rfl)) (show (zn σ106) < zn (zsi (zsi (zsi (zsi (zsi (zsi (zsi (znw σ106 1 10 10) (zn σ106) 0 z172) (zn σ106) 1 z184) (zn σ106) 2 z215) (zn σ106) 3 (1 + z133)) (zn σ106) 4 0) (zn σ106) 5 0) (zn σ106) 6 0) from nwR.lt (nwR_0 σ106 10).si.si.si.si.si.si.si) (by omega) (by omega) ?_
          refine zF_dup 243 dL_drawn_242 rfl rfl ?_
          refine zF_bipush 245 dL_drawn_243 rfl (by decide) ?_
          refine zF_iconst 246 dL_drawn_245 rfl ?_
          refine zF_iastore 247 dL_drawn_246 rfl (((nwR_0 σ106 10).si.si.si.si.si.si.si.si.2.1 _).trans (if_pos rfl)) (show (zn σ106) < zn (zsi (zsi (zsi (zsi (zsi (zsi (zsi (zsi (znw σ106 1 10 10) (zn σ106) 0 z172) (zn σ106) 1 z184) (zn σ106) 2 z215) (zn σ106) 3 (1 + z133)) (zn σ106) 4 0) (zn σ106) 5 0) (zn σ106) 6 0) (zn σ106) 7 0) from nwR.lt (nwR_0 σ106 10).si.si.si.si.si.si.si.si) (by omega) (by omega) ?_
          refine zF_dup 248 dL_drawn_247 rfl rfl ?_
          refine zF_bipush 250 dL_drawn_248 rfl (by decide) ?_
          refine zF_iconst 251 dL_drawn_250 rfl ?_
          refine zF_iastore 252 dL_drawn_251 rfl (((nwR_0 σ106 10).si.si.si.si.si.si.si.si.si.2.1 _).trans (if_pos rfl)) (show (zn σ106) < zn (zsi (zsi (zsi (zsi (zsi (zsi (zsi (zsi (zsi (znw σ106 1 10 10) (zn σ106) 0 z172) (zn σ106) 1 z184) (zn σ106) 2 z215) (zn σ106) 3 (1 + z133)) (zn σ106) 4 0) (zn σ106) 5 0) (zn σ106) 6 0) (zn σ106) 7 0) (zn σ106) 8 (-1)) from nwR.lt (nwR_0 σ106 10).si.si.si.si.si.si.si.si.si) (by omega) (by omega) ?_
          have w0 : zia (zsi (zsi (zsi (zsi (zsi (zsi (zsi (zsi (zsi (zsi (znw σ106 1 10 10) (zn σ106) 0 z172) (zn σ106) 1 z184) (zn σ106) 2 z215) (zn σ106) 3 (1 + z133)) (zn σ106) 4 0) (zn σ106) 5 0) (zn σ106) 6 0) (zn σ106) 7 0) (zn σ106) 8 (-1)) (zn σ106) 9 0) (zn σ106) 0 = z172 := by repeat (first | rw [zia_si, if_pos ⟨rfl, rfl⟩] | rw [zia_si, if_neg (fun z => absurd z.2 (by decide))])
          have w1 : zia (zsi (zsi (zsi (zsi (zsi (zsi (zsi (zsi (zsi (zsi (znw σ106 1 10 10) (zn σ106) 0 z172) (zn σ106) 1 z184) (zn σ106) 2 z215) (zn σ106) 3 (1 + z133)) (zn σ106) 4 0) (zn σ106) 5 0) (zn σ106) 6 0) (zn σ106) 7 0) (zn σ106) 8 (-1)) (zn σ106) 9 0) (zn σ106) 1 = z184 := by repeat (first | rw [zia_si, if_pos ⟨rfl, rfl⟩] | rw [zia_si, if_neg (fun z => absurd z.2 (by decide))])
          have w2 : zia (zsi (zsi (zsi (zsi (zsi (zsi (zsi (zsi (zsi (zsi (znw σ106 1 10 10) (zn σ106) 0 z172) (zn σ106) 1 z184) (zn σ106) 2 z215) (zn σ106) 3 (1 + z133)) (zn σ106) 4 0) (zn σ106) 5 0) (zn σ106) 6 0) (zn σ106) 7 0) (zn σ106) 8 (-1)) (zn σ106) 9 0) (zn σ106) 2 = z215 := by repeat (first | rw [zia_si, if_pos ⟨rfl, rfl⟩] | rw [zia_si, if_neg (fun z => absurd z.2 (by decide))])
          have w3 : zia (zsi (zsi (zsi (zsi (zsi (zsi (zsi (zsi (zsi (zsi (znw σ106 1 10 10) (zn σ106) 0 z172) (zn σ106) 1 z184) (zn σ106) 2 z215) (zn σ106) 3 (1 + z133)) (zn σ106) 4 0) (zn σ106) 5 0) (zn σ106) 6 0) (zn σ106) 7 0) (zn σ106) 8 (-1)) (zn σ106) 9 0) (zn σ106) 3 = (1 + z133) := by repeat (first | rw [zia_si, if_pos ⟨rfl, rfl⟩] | rw [zia_si, if_neg (fun z => absurd z.2 (by decide))])
          have w4 : zia (zsi (zsi (zsi (zsi (zsi (zsi (zsi (zsi (zsi (zsi (znw σ106 1 10 10) (zn σ106) 0 z172) (zn σ106) 1 z184) (zn σ106) 2 z215) (zn σ106) 3 (1 + z133)) (zn σ106) 4 0) (zn σ106) 5 0) (zn σ106) 6 0) (zn σ106) 7 0) (zn σ106) 8 (-1)) (zn σ106) 9 0) (zn σ106) 4 = 0 := by repeat (first | rw [zia_si, if_pos ⟨rfl, rfl⟩] | rw [zia_si, if_neg (fun z => absurd z.2 (by decide))])
          have w5 : zia (zsi (zsi (zsi (zsi (zsi (zsi (zsi (zsi (zsi (zsi (znw σ106 1 10 10) (zn σ106) 0 z172) (zn σ106) 1 z184) (zn σ106) 2 z215) (zn σ106) 3 (1 + z133)) (zn σ106) 4 0) (zn σ106) 5 0) (zn σ106) 6 0) (zn σ106) 7 0) (zn σ106) 8 (-1)) (zn σ106) 9 0) (zn σ106) 5 = 0 := by repeat (first | rw [zia_si, if_pos ⟨rfl, rfl⟩] | rw [zia_si, if_neg (fun z => absurd z.2 (by decide))])
          have w6 : zia (zsi (zsi (zsi (zsi (zsi (zsi (zsi (zsi (zsi (zsi (znw σ106 1 10 10) (zn σ106) 0 z172) (zn σ106) 1 z184) (zn σ106) 2 z215) (zn σ106) 3 (1 + z133)) (zn σ106) 4 0) (zn σ106) 5 0) (zn σ106) 6 0) (zn σ106) 7 0) (zn σ106) 8 (-1)) (zn σ106) 9 0) (zn σ106) 6 = 0 := by repeat (first | rw [zia_si, if_pos ⟨rfl, rfl⟩] | rw [zia_si, if_neg (fun z => absurd z.2 (by decide))])
          have w7 : zia (zsi (zsi (zsi (zsi (zsi (zsi (zsi (zsi (zsi (zsi (znw σ106 1 10 10) (zn σ106) 0 z172) (zn σ106) 1 z184) (zn σ106) 2 z215) (zn σ106) 3 (1 + z133)) (zn σ106) 4 0) (zn σ106) 5 0) (zn σ106) 6 0) (zn σ106) 7 0) (zn σ106) 8 (-1)) (zn σ106) 9 0) (zn σ106) 7 = 0 := by repeat (first | rw [zia_si, if_pos ⟨rfl, rfl⟩] | rw [zia_si, if_neg (fun z => absurd z.2 (by decide))])
          have w8 : zia (zsi (zsi (zsi (zsi (zsi (zsi (zsi (zsi (zsi (zsi (znw σ106 1 10 10) (zn σ106) 0 z172) (zn σ106) 1 z184) (zn σ106) 2 z215) (zn σ106) 3 (1 + z133)) (zn σ106) 4 0) (zn σ106) 5 0) (zn σ106) 6 0) (zn σ106) 7 0) (zn σ106) 8 (-1)) (zn σ106) 9 0) (zn σ106) 8 = (-1) := by repeat (first | rw [zia_si, if_pos ⟨rfl, rfl⟩] | rw [zia_si, if_neg (fun z => absurd z.2 (by decide))])
          have w9 : zia (zsi (zsi (zsi (zsi (zsi (zsi (zsi (zsi (zsi (zsi (znw σ106 1 10 10) (zn σ106) 0 z172) (zn σ106) 1 z184) (zn σ106) 2 z215) (zn σ106) 3 (1 + z133)) (zn σ106) 4 0) (zn σ106) 5 0) (zn σ106) 6 0) (zn σ106) 7 0) (zn σ106) 8 (-1)) (zn σ106) 9 0) (zn σ106) 9 = 0 := by repeat (first | rw [zia_si, if_pos ⟨rfl, rfl⟩] | rw [zia_si, if_neg (fun z => absurd z.2 (by decide))])
          obtain ⟨N2n, E2n, I2n, k2n, q2n⟩ := dI_8 I2 (by omega) (by omega) (by omega) (by omega) (by omega) (nwR_0 σ106 10).si.si.si.si.si.si.si.si.si.si (by
  rw [w0, w1, w2, w3, w8, w9]
  refine ⟨by omega, by omega, by omega, by omega, by omega, by omega, by omega, by omega, rfl, rfl, fun k k0 k1 => ?_⟩
  have hk : k = 0 ∨ k = 1 ∨ k = 2 ∨ k = 3 := by omega
  rcases hk with e | e | e | e <;> subst e
  · show 0 ≤ zia _ _ 4 ∧ zia _ _ 4 ≤ 90; rw [w4]; decide
  · show 0 ≤ zia _ _ 5 ∧ zia _ _ 5 ≤ 90; rw [w5]; decide
  · show 0 ≤ zia _ _ 6 ∧ zia _ _ 6 ≤ 90; rw [w6]; decide
  · show 0 ≤ zia _ _ 7 ∧ zia _ _ 7 ≤ 90; rw [w7]; decide)
          refine zF_aastA 253 dL_drawn_252 rfl ((((nwR_0 σ106 10).si.si.si.si.si.si.si.si.si.si.2.1 _).trans (if_neg (Nat.ne_of_lt (show (E2 8) < zn σ106 from (I2.f 8 6 6 (by decide)).2.1)))).trans (show zkd σ106 (E2 8) = (6, 6) from (I2.f 8 6 6 (by decide)).2.2)) (show (E2 8) < zn (zsi (zsi (zsi (zsi (zsi (zsi (zsi (zsi (zsi (zsi (znw σ106 1 10 10) (zn σ106) 0 z172) (zn σ106) 1 z184) (zn σ106) 2 z215) (zn σ106) 3 (1 + z133)) (zn σ106) 4 0) (zn σ106) 5 0) (zn σ106) 6 0) (zn σ106) 7 0) (zn σ106) 8 (-1)) (zn σ106) 9 0) from nwR.upl (nwR_0 σ106 10).si.si.si.si.si.si.si.si.si.si (show (E2 8) < zn σ106 from (I2.f 8 6 6 (by decide)).2.1)) (((nwR_0 σ106 10).si.si.si.si.si.si.si.si.si.si.2.1 _).trans (if_pos rfl)) (show (zn σ106) < zn (zsi (zsi (zsi (zsi (zsi (zsi (zsi (zsi (zsi (zsi (znw σ106 1 10 10) (zn σ106) 0 z172) (zn σ106) 1 z184) (zn σ106) 2 z215) (zn σ106) 3 (1 + z133)) (zn σ106) 4 0) (zn σ106) 5 0) (zn σ106) 6 0) (zn σ106) 7 0) (zn σ106) 8 (-1)) (zn σ106) 9 0) from nwR.lt (nwR_0 σ106 10).si.si.si.si.si.si.si.si.si.si) hAO (by omega) (by omega) ?_
          refine zF_iconst 254 dL_drawn_253 rfl ?_
          refine zF_istore 256 (ls' := [(7, zI 0), (6, zI (1 + z133)), (5, zI z122), (4, zI ((x2 : Nat) : Int)), (3, zI z10), (2, zR (zn σ)), (0, zR (zbg + 500)), (1, zI 0)]) dL_drawn_254 rfl (by decide) rfl ?_
          refine zF_locs (ls' := [(7, zI ((0 : Nat) : Int)), (6, zI (1 + z133)), (5, zI z122), (4, zI ((x2 : Nat) : Int)), (3, zI z10), (2, zR (zn σ)), (0, zR (zbg + 500)), (1, zI 0)]) ⟨zlI rfl (by first | rfl | omega | (push_cast; omega) | exact congrArg (_ + ·) (zbT (by assumption)) | exact congrArg (_ + ·) (zbF (by assumption)) | exact congrArg (_ + ·) (zbT (by omega)) | exact congrArg (_ + ·) (zbF (by omega)) | exact congrArg (_ + ·) (if_pos (by omega)).symm | exact congrArg (_ + ·) (if_neg (by omega)).symm | exact (if_pos (by omega)).symm | exact (if_neg (by omega)).symm | exact zsub_s (if_pos (by omega)).symm | exact zsub_s0 (if_neg (by omega)).symm | exact zadd0 (if_neg (by omega)).symm | exact zadd0 (zbF (by omega)) | exact (Int.sub_zero _).symm), rfl, rfl, rfl, rfl, rfl, rfl, rfl, trivial⟩ ?_
          refine zF_while (X := Nat) (fun x => ((1 + z133)).toNat - x) (fun x σ256 => ∃ N E, ((x : Nat) : Int) ≤ (1 + z133) ∧ dI σ (zn σ) (1 + z18) 0 ((x2 + 1 : Nat) : Int) N E (22 + x2) σ256 ∧ dC σ256 (zn σ) (1 + z18) 0 (1 + z96) 0) (fun x => [(7, zI ((x : Nat) : Int)), (6, zI (1 + z133)), (5, zI z122), (4, zI ((x2 : Nat) : Int)), (3, zI z10), (2, zR (zn σ)), (0, zR (zbg + 500)), (1, zI 0)]) ?_ 0 (zsr (zsi (zsi (zsi (zsi (zsi (zsi (zsi (zsi (zsi (zsi (znw σ106 1 10 10) (zn σ106) 0 z172) (zn σ106) 1 z184) (zn σ106) 2 z215) (zn σ106) 3 (1 + z133)) (zn σ106) 4 0) (zn σ106) 5 0) (zn σ106) 6 0) (zn σ106) 7 0) (zn σ106) 8 (-1)) (zn σ106) 9 0) (E2 8) ((x2 : Nat) : Int) (some (zn σ106))) (⟨N2n, E2n, by omega, by have e1 : ((x2 + 1 : Nat) : Int) = (x2 : Int) + 1 := (by omega); rw [e1]; exact I2n.wk (by omega), C2.eq k2n⟩)
          intro y3 σ256 hI256 ih256
          show zF G mL_drawn (d + 2) 256 [(7, zI ((y3 : Nat) : Int)), (6, zI (1 + z133)), (5, zI z122), (4, zI ((x2 : Nat) : Int)), (3, zI z10), (2, zR (zn σ)), (0, zR (zbg + 500)), (1, zI 0)] [] σ256 _
          obtain ⟨N3, E3, hx256, I3, C3⟩ := hI256
          have B3 := I3.2.2.2.2.2.1
          refine zF_iload 258 dL_drawn_256 rfl rfl ?_
          refine zF_iload 260 dL_drawn_258 rfl rfl ?_
          refine zF_icmp_ge 296 263 dL_drawn_260 rfl rfl (by first | decide | assumption | (constructor <;> omega)) (by first | decide | assumption | (constructor <;> omega)) (fun c6 => ?_) (fun c6 => ?_)
          · refine zF_iconst 297 dL_drawn_296 rfl ?_
            refine zF_istore 299 (ls' := [(7, zI 0), (6, zI (1 + z133)), (5, zI z122), (4, zI ((x2 : Nat) : Int)), (3, zI z10), (2, zR (zn σ)), (0, zR (zbg + 500)), (1, zI 0)]) dL_drawn_297 rfl (by decide) rfl ?_
            refine zF_locs (ls' := [(7, zI ((0 : Nat) : Int)), (6, zI (1 + z133)), (5, zI z122), (4, zI ((x2 : Nat) : Int)), (3, zI z10), (2, zR (zn σ)), (0, zR (zbg + 500)), (1, zI 0)]) ⟨zlI rfl (by first | rfl | omega | (push_cast; omega) | exact congrArg (_ + ·) (zbT (by assumption)) | exact congrArg (_ + ·) (zbF (by assumption)) | exact congrArg (_ + ·) (zbT (by omega)) | exact congrArg (_ + ·) (zbF (by omega)) | exact congrArg (_ + ·) (if_pos (by omega)).symm | exact congrArg (_ + ·) (if_neg (by omega)).symm | exact (if_pos (by omega)).symm | exact (if_neg (by omega)).symm | exact zsub_s (if_pos (by omega)).symm | exact zsub_s0 (if_neg (by omega)).symm | exact zadd0 (if_neg (by omega)).symm | exact zadd0 (zbF (by omega)) | exact (Int.sub_zero _).symm), rfl, rfl, rfl, rfl, rfl, rfl, rfl, trivial⟩ ?_
            refine zF_while (X := Nat) (fun x => (((1 + z18) + 1)).toNat - x) (fun x σ299 => ∃ N E, ((x : Nat) : Int) ≤ ((1 + z18) + 1) ∧ dI σ (zn σ) (1 + z18) 0 ((x2 + 1 : Nat) : Int) N E (22 + x2) σ299 ∧ dC σ299 (zn σ) (1 + z18) 0 (1 + z96) 0) (fun x => [(7, zI ((x : Nat) : Int)), (6, zI (1 + z133)), (5, zI z122), (4, zI ((x2 : Nat) : Int)), (3, zI z10), (2, zR (zn σ)), (0, zR (zbg + 500)), (1, zI 0)]) ?_ 0 σ256 (⟨N3, E3, by omega, I3, C3⟩)
            intro y4 σ299 hI299 ih299
            show zF G mL_drawn (d + 2) 299 [(7, zI ((y4 : Nat) : Int)), (6, zI (1 + z133)), (5, zI z122), (4, zI ((x2 : Nat) : Int)), (3, zI z10), (2, zR (zn σ)), (0, zR (zbg + 500)), (1, zI 0)] [] σ299 _
            obtain ⟨N4, E4, hx299, I4, C4⟩ := hI299
            have B4 := I4.2.2.2.2.2.1
            refine zF_iload 301 dL_drawn_299 rfl rfl ?_
            refine zF_aload_n 302 dL_drawn_301 rfl rfl ?_
            refine zF_getIN 305 dL_drawn_302 rfl gnL_31 (by decide) (by decide) (show zkd σ299 (zn σ) = (0, 12) from I4.k0) (show (zn σ) < zn σ299 from I4.l0) C4.1 ?_
            refine zF_icmp_gt 338 308 dL_drawn_305 rfl rfl (by first | decide | assumption | (constructor <;> omega)) (by first | decide | assumption | (constructor <;> omega)) (fun c7 => ?_) (fun c7 => ?_)
            · refine zF_iinc 341 (ls' := [(4, zI (((x2 : Nat) : Int) + 1)), (7, zI ((y4 : Nat) : Int)), (6, zI (1 + z133)), (5, zI z122), (3, zI z10), (2, zR (zn σ)), (0, zR (zbg + 500)), (1, zI 0)]) dL_drawn_338 rfl rfl rfl (by decide) rfl ?_
              refine zF_goto 106 dL_drawn_341 rfl ?_
              exact zF_locs (ls' := [(4, zI (((x2 + 1) : Nat) : Int)), (3, zI z10), (2, zR (zn σ)), (0, zR (zbg + 500)), (1, zI 0)]) ⟨zlI rfl (by first | rfl | omega | (push_cast; omega) | exact congrArg (_ + ·) (zbT (by assumption)) | exact congrArg (_ + ·) (zbF (by assumption)) | exact congrArg (_ + ·) (zbT (by omega)) | exact congrArg (_ + ·) (zbF (by omega)) | exact congrArg (_ + ·) (if_pos (by omega)).symm | exact congrArg (_ + ·) (if_neg (by omega)).symm | exact (if_pos (by omega)).symm | exact (if_neg (by omega)).symm | exact zsub_s (if_pos (by omega)).symm | exact zsub_s0 (if_neg (by omega)).symm | exact zadd0 (if_neg (by omega)).symm | exact zadd0 (zbF (by omega)) | exact (Int.sub_zero _).symm), rfl, rfl, rfl, rfl, trivial⟩ (ih106 (x2 + 1) _ (by omega) (⟨N4, E4, by omega, I4.wk (by omega), C4⟩))
            · refine zF_aload_n 309 dL_drawn_308 rfl rfl ?_
              refine zF_getRN 312 dL_drawn_309 rfl gnL_45 (show zkd σ299 (zn σ) = (0, 12) from I4.k0) (show (zn σ) < zn σ299 from I4.l0) (I4.f 9 6 6 (by decide)).1 ?_
              refine zF_iload 314 dL_drawn_312 rfl rfl ?_
              refine zF_aaldA 315 dL_drawn_314 rfl (show zkd σ299 (E4 9) = (6, 6) from (I4.f 9 6 6 (by decide)).2.2) (show (E4 9) < zn σ299 from (I4.f 9 6 6 (by decide)).2.1) (by omega) (by omega) (I4.r9 _ (by omega) (by omega)).1 ?_
              refine zF_iload 317 dL_drawn_315 rfl rfl ?_
              refine zF_iload 319 dL_drawn_317 rfl rfl ?_
              refine zF_bipush 321 dL_drawn_319 rfl (by decide) ?_
              refine zF_iconst 322 dL_drawn_321 rfl ?_
              refine zF_iload 324 dL_drawn_322 rfl rfl ?_
              refine zF_imul 325 dL_drawn_324 rfl ?_
              refine zF_iadd 326 dL_drawn_325 rfl ?_
              refine zF_ishr 327 dL_drawn_326 rfl ?_
              refine zF_iconst 328 dL_drawn_327 rfl ?_
              refine zF_callS 331 (d2 := (d + 1)) (as := [zI ((Int32.ofInt z122 >>> (Int32.ofInt (9 + (3 * ((y4 : Nat) : Int))) &&& 31)).toInt), zI 4]) dL_drawn_328 rfl kL_27 sL_most (Nat.le_refl _) rfl rfl (Nat.le_of_ble_eq_true rfl) (zE.mono (zt_L_most (by omega) (by constructor <;> omega)) fun ro σx328 hh328 => ?_)
              obtain ⟨es328, z328, er328, zl328, zu328⟩ := hh328
              replace es328 := es328.symm
              subst es328
              subst er328
              refine ⟨rfl, ?_⟩
              show zF G mL_drawn (d + 2) 331 [(7, zI ((y4 : Nat) : Int)), (6, zI (1 + z133)), (5, zI z122), (4, zI ((x2 : Nat) : Int)), (3, zI z10), (2, zR (zn σ)), (0, zR (zbg + 500)), (1, zI 0)] [zI z328, zI ((y4 : Nat) : Int), zR (E4 (900 + ((x2 : Nat) : Int).toNat))] σ299 _
              refine zF_iastore 332 dL_drawn_331 rfl (show zkd σ299 (E4 (900 + ((x2 : Nat) : Int).toNat)) = (1, 5) from (I4.r9 _ (by omega) (by omega)).2.2) (show (E4 (900 + ((x2 : Nat) : Int).toNat)) < zn σ299 from (I4.r9 _ (by omega) (by omega)).2.1) (by omega) (by omega) ?_
              refine zF_iinc 335 (ls' := [(7, zI (((y4 : Nat) : Int) + 1)), (6, zI (1 + z133)), (5, zI z122), (4, zI ((x2 : Nat) : Int)), (3, zI z10), (2, zR (zn σ)), (0, zR (zbg + 500)), (1, zI 0)]) dL_drawn_332 rfl rfl rfl (by decide) rfl ?_
              refine zF_goto 299 dL_drawn_335 rfl ?_
              exact zF_locs (ls' := [(7, zI (((y4 + 1) : Nat) : Int)), (6, zI (1 + z133)), (5, zI z122), (4, zI ((x2 : Nat) : Int)), (3, zI z10), (2, zR (zn σ)), (0, zR (zbg + 500)), (1, zI 0)]) ⟨zlI rfl (by first | rfl | omega | (push_cast; omega) | exact congrArg (_ + ·) (zbT (by assumption)) | exact congrArg (_ + ·) (zbF (by assumption)) | exact congrArg (_ + ·) (zbT (by omega)) | exact congrArg (_ + ·) (zbF (by omega)) | exact congrArg (_ + ·) (if_pos (by omega)).symm | exact congrArg (_ + ·) (if_neg (by omega)).symm | exact (if_pos (by omega)).symm | exact (if_neg (by omega)).symm | exact zsub_s (if_pos (by omega)).symm | exact zsub_s0 (if_neg (by omega)).symm | exact zadd0 (if_neg (by omega)).symm | exact zadd0 (zbF (by omega)) | exact (Int.sub_zero _).symm), rfl, rfl, rfl, rfl, rfl, rfl, rfl, trivial⟩ (ih299 (y4 + 1) _ (by omega) (⟨_, E4, by omega, I4.i9 (by omega) (by omega) (by omega) (by omega) (by omega) (by omega) (by omega) (by omega) (by omega) (by omega) (by omega) (by omega) (by omega), C4.si (fun z => absurd (I4.inj 0 _ (I4.1.trans z)) (by omega))⟩))
          · refine zF_aload_n 264 dL_drawn_263 rfl rfl ?_
            refine zF_getRN 267 dL_drawn_264 rfl gnL_42 (show zkd σ256 (zn σ) = (0, 12) from I3.k0) (show (zn σ) < zn σ256 from I3.l0) (I3.f 8 6 6 (by decide)).1 ?_
            refine zF_iload 269 dL_drawn_267 rfl rfl ?_
            refine zF_aaldA 270 dL_drawn_269 rfl (show zkd σ256 (E3 8) = (6, 6) from (I3.f 8 6 6 (by decide)).2.2) (show (E3 8) < zn σ256 from (I3.f 8 6 6 (by decide)).2.1) (by omega) (by omega) (I3.r8 _ (by omega) (by omega)).1 ?_
            refine zF_iconst 271 dL_drawn_270 rfl ?_
            refine zF_iload 273 dL_drawn_271 rfl rfl ?_
            refine zF_iadd 274 dL_drawn_273 rfl ?_
            refine zF_iload 276 dL_drawn_274 rfl rfl ?_
            refine zF_bipush 278 dL_drawn_276 rfl (by decide) ?_
            refine zF_iconst 279 dL_drawn_278 rfl ?_
            refine zF_iload 281 dL_drawn_279 rfl rfl ?_
            refine zF_imul 282 dL_drawn_281 rfl ?_
            refine zF_iadd 283 dL_drawn_282 rfl ?_
            refine zF_ishr 284 dL_drawn_283 rfl ?_
            refine zF_bipush 286 dL_drawn_284 rfl (by decide) ?_
            refine zF_callS 289 (d2 := (d + 1)) (as := [zI ((Int32.ofInt z122 >>> (Int32.ofInt (6 + (2 * ((y3 : Nat) : Int))) &&& 31)).toInt), zI 91]) dL_drawn_286 rfl kL_27 sL_most (Nat.le_refl _) rfl rfl (Nat.le_of_ble_eq_true rfl) (zE.mono (zt_L_most (by omega) (by constructor <;> omega)) fun ro σx286 hh286 => ?_)
            obtain ⟨es286, z286, er286, zl286, zu286⟩ := hh286
            replace es286 := es286.symm
            subst es286
            subst er286
            refine ⟨rfl, ?_⟩
            show zF G mL_drawn (d + 2) 289 [(7, zI ((y3 : Nat) : Int)), (6, zI (1 + z133)), (5, zI z122), (4, zI ((x2 : Nat) : Int)), (3, zI z10), (2, zR (zn σ)), (0, zR (zbg + 500)), (1, zI 0)] [zI z286, zI (4 + ((y3 : Nat) : Int)), zR (E3 (800 + ((x2 : Nat) : Int).toNat))] σ256 _
            refine zF_iastore 290 dL_drawn_289 rfl (show zkd σ256 (E3 (800 + ((x2 : Nat) : Int).toNat)) = (1, 10) from (I3.r8 _ (by omega) (by omega)).2.2) (show (E3 (800 + ((x2 : Nat) : Int).toNat)) < zn σ256 from (I3.r8 _ (by omega) (by omega)).2.1) (by omega) (by omega) ?_
            refine zF_iinc 293 (ls' := [(7, zI (((y3 : Nat) : Int) + 1)), (6, zI (1 + z133)), (5, zI z122), (4, zI ((x2 : Nat) : Int)), (3, zI z10), (2, zR (zn σ)), (0, zR (zbg + 500)), (1, zI 0)]) dL_drawn_290 rfl rfl rfl (by decide) rfl ?_
            refine zF_goto 256 dL_drawn_293 rfl ?_
            exact zF_locs (ls' := [(7, zI (((y3 + 1) : Nat) : Int)), (6, zI (1 + z133)), (5, zI z122), (4, zI ((x2 : Nat) : Int)), (3, zI z10), (2, zR (zn σ)), (0, zR (zbg + 500)), (1, zI 0)]) ⟨zlI rfl (by first | rfl | omega | (push_cast; omega) | exact congrArg (_ + ·) (zbT (by assumption)) | exact congrArg (_ + ·) (zbF (by assumption)) | exact congrArg (_ + ·) (zbT (by omega)) | exact congrArg (_ + ·) (zbF (by omega)) | exact congrArg (_ + ·) (if_pos (by omega)).symm | exact congrArg (_ + ·) (if_neg (by omega)).symm | exact (if_pos (by omega)).symm | exact (if_neg (by omega)).symm | exact zsub_s (if_pos (by omega)).symm | exact zsub_s0 (if_neg (by omega)).symm | exact zadd0 (if_neg (by omega)).symm | exact zadd0 (zbF (by omega)) | exact (Int.sub_zero _).symm), rfl, rfl, rfl, rfl, rfl, rfl, rfl, trivial⟩ (ih256 (y3 + 1) _ (by omega) (⟨_, E3, by omega, I3.i8 (by omega) (by omega) (by omega) (by omega) (by omega) (by omega) (by omega) (by omega) (by omega) (by omega) (by omega) (by omega), C3.si (fun z => absurd (I3.inj 0 _ (I3.1.trans z)) (by omega))⟩))
        refine zF_iload 197 dL_drawn_195 rfl rfl ?_
        refine zF_bipush 199 dL_drawn_197 rfl (by decide) ?_
        refine zF_ishr 200 dL_drawn_199 rfl ?_
        refine zF_iconst 201 dL_drawn_200 rfl ?_
        refine zF_callS 204 (d2 := (d + 1)) (as := [zI ((Int32.ofInt z122 >>> (Int32.ofInt 8 &&& 31)).toInt), zI 2]) dL_drawn_201 rfl kL_27 sL_most (Nat.le_refl _) rfl rfl (Nat.le_of_ble_eq_true rfl) (zE.mono (zt_L_most (by omega) (by constructor <;> omega)) fun ro σx201 hh201 => ?_)
        obtain ⟨es201, z201, er201, zl201, zu201⟩ := hh201
        replace es201 := es201.symm
        subst es201
        subst er201
        refine ⟨rfl, ?_⟩
        show zF G mL_drawn (d + 2) 204 [(6, zI (1 + z133)), (5, zI z122), (4, zI ((x2 : Nat) : Int)), (3, zI z10), (2, zR (zn σ)), (0, zR (zbg + 500)), (1, zI 0)] [zI z201, zI ((Int32.ofInt z122 >>> (Int32.ofInt 7 &&& 31)).toInt), zI 2, zR (zn σ106), zR (zn σ106), zI ((x2 : Nat) : Int), zR (E2 8)] (zsi (zsi (znw σ106 1 10 10) (zn σ106) 0 z172) (zn σ106) 1 z184) _
        refine zF_if_ne 212 207 dL_drawn_204 rfl rfl (by first | decide | assumption | (constructor <;> omega)) (fun c8 => ?_) (fun c8 => ?_)
        · refine zF_sipush 215 dL_drawn_212 rfl (by decide) ?_
          exact zF_locs (ls' := [(6, zI (1 + z133)), (5, zI z122), (4, zI ((x2 : Nat) : Int)), (3, zI z10), (2, zR (zn σ)), (0, zR (zbg + 500)), (1, zI 0)]) ⟨rfl, rfl, rfl, rfl, rfl, rfl, rfl, trivial⟩ (jn215 _ (by constructor <;> omega))
        · refine zF_bipush 209 dL_drawn_207 rfl (by decide) ?_
          refine zF_goto 215 dL_drawn_209 rfl ?_
          exact zF_locs (ls' := [(6, zI (1 + z133)), (5, zI z122), (4, zI ((x2 : Nat) : Int)), (3, zI z10), (2, zR (zn σ)), (0, zR (zbg + 500)), (1, zI 0)]) ⟨rfl, rfl, rfl, rfl, rfl, rfl, rfl, trivial⟩ (jn215 _ (by constructor <;> omega))
      refine zF_iload 155 dL_drawn_153 rfl rfl ?_
      refine zF_iconst 156 dL_drawn_155 rfl ?_
      refine zF_ishr 157 dL_drawn_156 rfl ?_
      refine zF_iconst 158 dL_drawn_157 rfl ?_
      refine zF_callS 161 (d2 := (d + 1)) (as := [zI ((Int32.ofInt z122 >>> (Int32.ofInt 2 &&& 31)).toInt), zI 2]) dL_drawn_158 rfl kL_27 sL_most (Nat.le_refl _) rfl rfl (Nat.le_of_ble_eq_true rfl) (zE.mono (zt_L_most (by omega) (by constructor <;> omega)) fun ro σx158 hh158 => ?_)
      obtain ⟨es158, z158, er158, zl158, zu158⟩ := hh158
      replace es158 := es158.symm
      subst es158
      subst er158
      refine ⟨rfl, ?_⟩
      show zF G mL_drawn (d + 2) 161 [(6, zI (1 + z133)), (5, zI z122), (4, zI ((x2 : Nat) : Int)), (3, zI z10), (2, zR (zn σ)), (0, zR (zbg + 500)), (1, zI 0)] [zI z158, zI z122, zI 0, zR (zn σ106), zR (zn σ106), zI ((x2 : Nat) : Int), zR (E2 8)] (znw σ106 1 10 10) _
      refine zF_if_ne 169 164 dL_drawn_161 rfl rfl (by first | decide | assumption | (constructor <;> omega)) (fun c9 => ?_) (fun c9 => ?_)
      · refine zF_sipush 172 dL_drawn_169 rfl (by decide) ?_
        exact zF_locs (ls' := [(6, zI (1 + z133)), (5, zI z122), (4, zI ((x2 : Nat) : Int)), (3, zI z10), (2, zR (zn σ)), (0, zR (zbg + 500)), (1, zI 0)]) ⟨rfl, rfl, rfl, rfl, rfl, rfl, rfl, trivial⟩ (jn172 _ (by constructor <;> omega))
      · refine zF_bipush 166 dL_drawn_164 rfl (by decide) ?_
        refine zF_goto 172 dL_drawn_166 rfl ?_
        exact zF_locs (ls' := [(6, zI (1 + z133)), (5, zI z122), (4, zI ((x2 : Nat) : Int)), (3, zI z10), (2, zR (zn σ)), (0, zR (zbg + 500)), (1, zI 0)]) ⟨rfl, rfl, rfl, rfl, rfl, rfl, rfl, trivial⟩ (jn172 _ (by constructor <;> omega))
  · refine zF_aload_n 38 dL_drawn_37 rfl rfl ?_
    refine zF_getRN 41 dL_drawn_38 rfl gnL_35 (show zkd σ28 (zn σ) = (0, 12) from I1.k0) (show (zn σ) < zn σ28 from I1.l0) (I1.f 6 6 4 (by decide)).1 ?_
    refine zF_iload 43 dL_drawn_41 rfl rfl ?_
    refine zF_iconst 44 dL_drawn_43 rfl ?_
    refine zF_newarray 46 dL_drawn_44 rfl (Or.inl ⟨rfl, rfl⟩) (zi1 152 rfl rfl) (by omega) (by omega) (by omega) (zwl_q (by exact (⟨trivial, trivial, zwR (show (zn σ) < zn σ28 from I1.l0), zwO, trivial, trivial⟩ : _ ∧ _ ∧ _ ∧ _ ∧ _ ∧ True))) (zwl_m (by exact (⟨trivial, zwR (show (E1 6) < zn σ28 from (I1.f 6 6 4 (by decide)).2.1), trivial⟩ : _ ∧ _ ∧ True))) ?_
    show zF G mL_drawn (d + 2) 46 [(4, zI ((x : Nat) : Int)), (3, zI z10), (2, zR (zn σ)), (0, zR (zbg + 500)), (1, zI 0)] [zR (zn σ28), zI ((x : Nat) : Int), zR (E1 6)] (znw σ28 1 2 2) _
    refine zF_dup 47 dL_drawn_46 rfl rfl ?_
    refine zF_iconst 48 dL_drawn_47 rfl ?_
    refine zF_iconst 49 dL_drawn_48 rfl ?_
    refine zF_iload_n 50 dL_drawn_49 rfl rfl ?_
    refine zF_iconst 51 dL_drawn_50 rfl ?_
    refine zF_iconst 52 dL_drawn_51 rfl ?_
    refine zF_iload 54 dL_drawn_52 rfl rfl ?_
    refine zF_imul 55 dL_drawn_54 rfl ?_
    refine zF_iadd 56 dL_drawn_55 rfl ?_
    refine zF_ishr 57 dL_drawn_56 rfl ?_
    refine zF_bipush 59 dL_drawn_57 rfl (by decide) ?_
    refine zF_callS 62 (d2 := (d + 1)) (as := [zI ((Int32.ofInt z10 >>> (Int32.ofInt (2 + (3 * ((x : Nat) : Int))) &&& 31)).toInt), zI 20]) dL_drawn_59 rfl kL_27 sL_most (Nat.le_refl _) rfl rfl (Nat.le_of_ble_eq_true rfl) (zE.mono (zt_L_most (by omega) (by constructor <;> omega)) fun ro σx59 hh59 => ?_)
    obtain ⟨es59, z59, er59, zl59, zu59⟩ := hh59
    replace es59 := es59.symm
    subst es59
    subst er59
    refine ⟨rfl, ?_⟩
    show zF G mL_drawn (d + 2) 62 [(4, zI ((x : Nat) : Int)), (3, zI z10), (2, zR (zn σ)), (0, zR (zbg + 500)), (1, zI 0)] [zI z59, zI 1, zI 0, zR (zn σ28), zR (zn σ28), zI ((x : Nat) : Int), zR (E1 6)] (znw σ28 1 2 2) _
    refine zF_iadd 63 dL_drawn_62 rfl ?_
    refine zF_iastore 64 dL_drawn_63 rfl (((nwR_0 σ28 2).2.1 _).trans (if_pos rfl)) (show (zn σ28) < zn (znw σ28 1 2 2) from nwR.lt (nwR_0 σ28 2)) (by omega) (by omega) ?_
    refine zF_dup 65 dL_drawn_64 rfl rfl ?_
    refine zF_iconst 66 dL_drawn_65 rfl ?_
    refine zF_iconst 67 dL_drawn_66 rfl ?_
    refine zF_iload_n 68 dL_drawn_67 rfl rfl ?_
    refine zF_iconst 69 dL_drawn_68 rfl ?_
    refine zF_iconst 70 dL_drawn_69 rfl ?_
    refine zF_iload 72 dL_drawn_70 rfl rfl ?_
    refine zF_imul 73 dL_drawn_72 rfl ?_
    refine zF_iadd 74 dL_drawn_73 rfl ?_
    refine zF_ishr 75 dL_drawn_74 rfl ?_
    refine zF_bipush 77 dL_drawn_75 rfl (by decide) ?_
    refine zF_callS 80 (d2 := (d + 1)) (as := [zI ((Int32.ofInt z10 >>> (Int32.ofInt (4 + (2 * ((x : Nat) : Int))) &&& 31)).toInt), zI 100]) dL_drawn_77 rfl kL_27 sL_most (Nat.le_refl _) rfl rfl (Nat.le_of_ble_eq_true rfl) (zE.mono (zt_L_most (by omega) (by constructor <;> omega)) fun ro σx77 hh77 => ?_)
    obtain ⟨es77, z77, er77, zl77, zu77⟩ := hh77
    replace es77 := es77.symm
    subst es77
    subst er77
    refine ⟨rfl, ?_⟩
    show zF G mL_drawn (d + 2) 80 [(4, zI ((x : Nat) : Int)), (3, zI z10), (2, zR (zn σ)), (0, zR (zbg + 500)), (1, zI 0)] [zI z77, zI 1, zI 1, zR (zn σ28), zR (zn σ28), zI ((x : Nat) : Int), zR (E1 6)] (zsi (znw σ28 1 2 2) (zn σ28) 0 (1 + z59)) _
    refine zF_iadd 81 dL_drawn_80 rfl ?_
    refine zF_iastore 82 dL_drawn_81 rfl (((nwR_0 σ28 2).si.2.1 _).trans (if_pos rfl)) (show (zn σ28) < zn (zsi (znw σ28 1 2 2) (zn σ28) 0 (1 + z59)) from nwR.lt (nwR_0 σ28 2).si) (by omega) (by omega) ?_
    have w0 : zia (zsi (zsi (znw σ28 1 2 2) (zn σ28) 0 (1 + z59)) (zn σ28) 1 (1 + z77)) (zn σ28) 0 = (1 + z59) := by repeat (first | rw [zia_si, if_pos ⟨rfl, rfl⟩] | rw [zia_si, if_neg (fun z => absurd z.2 (by decide))])
    have w1 : zia (zsi (zsi (znw σ28 1 2 2) (zn σ28) 0 (1 + z59)) (zn σ28) 1 (1 + z77)) (zn σ28) 1 = (1 + z77) := by repeat (first | rw [zia_si, if_pos ⟨rfl, rfl⟩] | rw [zia_si, if_neg (fun z => absurd z.2 (by decide))])
    obtain ⟨N1n, E1n, I1n, k1n, -⟩ := dI_6 I1 (by omega) (by omega) (by omega) (by omega) (by omega) rfl (nwR_0 σ28 2).si.si (by rw [w0, w1]; omega)
    refine zF_aastA 83 dL_drawn_82 rfl ((((nwR_0 σ28 2).si.si.2.1 _).trans (if_neg (Nat.ne_of_lt (show (E1 6) < zn σ28 from (I1.f 6 6 4 (by decide)).2.1)))).trans (show zkd σ28 (E1 6) = (6, 4) from (I1.f 6 6 4 (by decide)).2.2)) (show (E1 6) < zn (zsi (zsi (znw σ28 1 2 2) (zn σ28) 0 (1 + z59)) (zn σ28) 1 (1 + z77)) from nwR.upl (nwR_0 σ28 2).si.si (show (E1 6) < zn σ28 from (I1.f 6 6 4 (by decide)).2.1)) (((nwR_0 σ28 2).si.si.2.1 _).trans (if_pos rfl)) (show (zn σ28) < zn (zsi (zsi (znw σ28 1 2 2) (zn σ28) 0 (1 + z59)) (zn σ28) 1 (1 + z77)) from nwR.lt (nwR_0 σ28 2).si.si) hAO (by omega) (by omega) ?_
    refine zF_iinc 86 (ls' := [(4, zI (((x : Nat) : Int) + 1)), (3, zI z10), (2, zR (zn σ)), (0, zR (zbg + 500)), (1, zI 0)]) dL_drawn_83 rfl rfl rfl (by decide) rfl ?_
    refine zF_goto 28 dL_drawn_86 rfl ?_
    exact zF_locs (ls' := [(4, zI (((x + 1) : Nat) : Int)), (3, zI z10), (2, zR (zn σ)), (0, zR (zbg + 500)), (1, zI 0)]) ⟨zlI rfl (by first | rfl | omega | (push_cast; omega) | exact congrArg (_ + ·) (zbT (by assumption)) | exact congrArg (_ + ·) (zbF (by assumption)) | exact congrArg (_ + ·) (zbT (by omega)) | exact congrArg (_ + ·) (zbF (by omega)) | exact congrArg (_ + ·) (if_pos (by omega)).symm | exact congrArg (_ + ·) (if_neg (by omega)).symm | exact (if_pos (by omega)).symm | exact (if_neg (by omega)).symm | exact zsub_s (if_pos (by omega)).symm | exact zsub_s0 (if_neg (by omega)).symm | exact zadd0 (if_neg (by omega)).symm | exact zadd0 (zbF (by omega)) | exact (Int.sub_zero _).symm), rfl, rfl, rfl, rfl, trivial⟩ (ih28 (x + 1) _ (by omega) (⟨N1n, E1n, by omega, I1n, C1.eq k1n⟩))
end ZI4
