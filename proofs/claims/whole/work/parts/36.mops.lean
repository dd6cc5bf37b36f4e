/-! the reference: its operations -/
section ZQ2
variable {G : zG} {d : Nat} {σ : zMem} {hm : Nat} {A : Nat → Nat} {N : Int → Int}
def mAr : List Nat := [0, 3, 7, 8, 9, 10, 11, 14, 15]
/-- what an operation of the reference may write: without and with 'thrown' -/
def mMi (hm : Nat) (A : Nat → Nat) (h : Nat) (j : Int) : Prop := (h = hm ∧ (j = 4 ∨ j = 12 ∨ j = 13)) ∨ ∃ k, k ∈ mAr ∧ h = A k
def mMu (hm : Nat) (A : Nat → Nat) (h : Nat) (j : Int) : Prop := (h = hm ∧ j = 5) ∨ mMi hm A h j
theorem mMi_mu {σ1 : zMem} (f : zFr (mMi hm A) σ σ1) : zFr (mMu hm A) σ σ1 := f.wk fun _ _ q => Or.inr q
theorem mSc_mu {σ1 : zMem} (f : zFr (mSc hm A) σ σ1) : zFr (mMu hm A) σ σ1 := f.wk fun _ _ q => by
  rcases q with ⟨a, b | b | b⟩ | q | q | q | q | q | q | q
  · exact Or.inl ⟨a, b⟩
  · exact Or.inr (Or.inl ⟨a, Or.inr (Or.inl b)⟩)
  · exact Or.inr (Or.inl ⟨a, Or.inr (Or.inr b)⟩)
  · exact Or.inr (Or.inr ⟨7, by decide, q⟩)
  · exact Or.inr (Or.inr ⟨8, by decide, q⟩)
  · exact Or.inr (Or.inr ⟨9, by decide, q⟩)
  · exact Or.inr (Or.inr ⟨10, by decide, q⟩)
  · exact Or.inr (Or.inr ⟨11, by decide, q⟩)
  · exact Or.inr (Or.inr ⟨14, by decide, q⟩)
  · exact Or.inr (Or.inr ⟨15, by decide, q⟩)
theorem mMi_A {σ1 : zMem} {k : Nat} {j v : Int} (hk : k ∈ mAr) (f : zFr (mMi hm A) σ σ1) : zFr (mMi hm A) σ (zsi σ1 (A k) j v) := zFr_si (Or.inr ⟨k, hk, rfl⟩) f
theorem mMi_hm {σ1 : zMem} {j v : Int} (hj : j = 4 ∨ j = 12 ∨ j = 13) (f : zFr (mMi hm A) σ σ1) : zFr (mMi hm A) σ (zsi σ1 hm j v) := zFr_si (Or.inl ⟨rfl, hj⟩) f
theorem mMi_78 {σ1 σ2 : zMem} (f : zFr (mMi hm A) σ σ1) (k : zFr (fun y _ => y = A 7 ∨ y = A 8) σ1 σ2) : zFr (mMi hm A) σ σ2 := f.tr (k.wk fun _ _ q => q.elim (fun q => Or.inr ⟨7, by decide, q⟩) (fun q => Or.inr ⟨8, by decide, q⟩))
theorem mMi_R {σ1 σ2 : zMem} (f : zFr (mMi hm A) σ σ1) (k : zFr (fun y j => (y = hm ∧ j = 12) ∨ y = A 9) σ1 σ2) : zFr (mMi hm A) σ σ2 := f.tr (k.wk fun _ _ q => q.elim (fun q => Or.inl ⟨q.1, Or.inr (Or.inl q.2)⟩) (fun q => Or.inr ⟨9, by decide, q⟩))
theorem mMi_B {lo hi : Int} {σ1 σ2 : zMem} (f : zFr (mMi hm A) σ σ1) (k : zFr (fun h j => h = A 0 ∧ lo ≤ j ∧ j < hi) σ1 σ2) : zFr (mMi hm A) σ σ2 := f.tr (k.wk fun _ _ q => Or.inr ⟨0, by decide, q.1⟩)
theorem mMi_C {σ1 σ2 : zMem} (f : zFr (mMi hm A) σ σ1) (k : zFr (fun h j => h = A 3 ∨ (h = hm ∧ j = 4)) σ1 σ2) : zFr (mMi hm A) σ σ2 := f.tr (k.wk fun _ _ q => q.elim (fun q => Or.inr ⟨3, by decide, q⟩) (fun q => Or.inl ⟨q.1, Or.inl q.2⟩))
theorem mMi_5 (hM : zMo σ hm A) {j : Int} (hj : j ≠ 4 ∧ j ≠ 12 ∧ j ≠ 13) : ¬ mMi hm A hm j := fun q => by
  rcases q with ⟨_, q⟩ | ⟨k, hk, q⟩
  · omega
  · refine zMo_hm1 hM (k := k) ?_ zMo_h1 q.symm
    have : ∀ k ∈ mAr, k ∈ zmf.map (·.1) := by decide
    exact this k hk
def hrow (σ : zMem) (A : Nat → Nat) (k : Int) : Int → Int := fun j => if 0 ≤ j ∧ j < 312 then zia σ (A 3) (312 * k + j) else 0
def mHr (H : Int → Int → Int) (u : Int) (σ : zMem) (A : Nat → Nat) : Prop := ∀ k, 0 ≤ k → k < u → hrow σ A k = H k
def mST (S : zS) (σ : zMem) (hm : Nat) (A : Nat → Nat) : Prop := zia σ (A 0) = S.1 ∧ zia σ hm ((4 : Nat) : Int) = S.2.2 ∧ mHr S.2.1 S.2.2 σ A
theorem mHr_fr {P : Nat → Int → Prop} {H : Int → Int → Int} {u : Int} {σ1 : zMem} (h : mHr H u σ A) (f : zFr P σ σ1) (hp : ∀ j, ¬ P (A 3) j) : mHr H u σ1 A := fun k k0 k1 => by
  rw [← h k k0 k1]
  funext j
  unfold hrow
  rw [f.at hp]
theorem mHr_si {H : Int → Int → Int} {u : Int} {y : Nat} {j v : Int} (h : mHr H u σ A) (hy : A 3 ≠ y) : mHr H u (zsi σ y j v) A := fun k k0 k1 => by
  rw [← h k k0 k1]
  funext i
  unfold hrow
  rw [zsi_at hy rfl]
theorem mHr_rec {H : Int → Int → Int} {u : Int} {σ1 : zMem} (hN : zia σ (A 0) = N) (hz : ∀ j, j < 0 ∨ 312 ≤ j → N j = 0) (h : mHr H u σ A) (u0 : 0 ≤ u) (u1 : u ≤ 10) (r : zRec σ hm A u σ1) : mHr (hsR H u N) (min (u + 1) 10) σ1 A := fun k k0 k1 => by
  obtain ⟨_, _, r1, r2⟩ := r
  funext j
  unfold hrow hsR
  by_cases c : 0 ≤ j ∧ j < 312
  · rw [if_pos c]
    by_cases e : k = min (u + 1) 10 - 1
    · rw [if_pos e, e, r2 j c.1 c.2, hN]
    · rw [if_neg e, r1 k j k0 (by omega) c.1 c.2, ← h _ (by split <;> omega) (by split <;> omega)]
      unfold hrow
      rw [if_pos c]
  · rw [if_neg c]
    by_cases e : k = min (u + 1) 10 - 1
    · rw [if_pos e, hz j (by omega)]
    · rw [if_neg e, ← h _ (by split <;> omega) (by split <;> omega)]
      unfold hrow
      rw [if_neg c]
theorem mSet_mem {k : Nat} {j v : Int} (h : zia σ k = N) : zia (zsi σ k j v) k = mSet N j v := by
  funext i
  rw [zia_si, h]
  unfold mSet
  by_cases e : i = j
  · rw [if_pos ⟨rfl, e⟩, if_pos e]
  · rw [if_neg (fun q => e q.2), if_neg e]
/-- an operation's end -/
def mopM (k v : Int) (S S' : zS) (hm : Nat) (A : Nat → Nat) (σ : zMem) : zRes → zMem → Prop := fun r σ1 => ∃ x, r = .inl (some (zI x)) ∧ zFr (mMu hm A) σ σ1 ∧ zia σ1 hm ((5 : Nat) : Int) = k ∧ (k = 0 → x = v) ∧ mST (if k = 0 then S' else S) σ1 hm A
theorem mopMR {k v x : Int} {S S' S1 : zS} {σ1 : zMem} (f : zFr (mMu hm A) σ σ1) (ht : zia σ1 hm ((5 : Nat) : Int) = 0) (hk : k = 0) (hv : x = v) (hS : S' = S1) (m : mST S1 σ1 hm A) : mopM k v S S' hm A σ (.inl (some (zI x))) σ1 := ⟨x, rfl, f, ht.trans hk.symm, fun _ => hv, by rw [if_pos hk, hS]; exact m⟩
theorem mopMT {k v x t : Int} {S S' : zS} {σ1 : zMem} (f : zFr (mMu hm A) σ σ1) (ht : zia σ1 hm ((5 : Nat) : Int) = t) (hk : k = t) (hn : t ≠ 0) (m : mST S σ1 hm A) : mopM k v S S' hm A σ (.inl (some (zI x))) σ1 := ⟨x, rfl, f, ht.trans hk.symm, fun h => absurd (hk.symm.trans h) hn, by rw [if_neg (fun h => hn (hk.symm.trans h))]; exact m⟩
theorem mMv_eq {f p q : Int} (pq : p ≠ q) (h : 0 ≤ f ∧ -1 ≤ p ∧ -1 ≤ q) {x y z : Int} (ex : x = mP N f p - 1) (ey : y = mSet N (154 + 5 * f + p + 1) x (154 + 5 * f + q + 1) + 1) (ez : z = mSet (mSet N (154 + 5 * f + p + 1) x) (154 + 5 * f + q + 1) y 5 + 1) : mSet (mSet (mSet N (154 + 5 * f + p + 1) x) (154 + 5 * f + q + 1) y) 5 z = mMv N f p q := by
  rw [mSet_o (by omega)] at ey
  rw [mSet_o (by omega), mSet_o (by omega)] at ez
  subst ex
  subst ey
  subst ez
  rfl
theorem gTake_c {gg : Int → Int} (hg : gOK N gg) {s x : Int} (h0 : 0 ≤ s) (h1 : s < 10) (e : x = gTake N gg s) : x = cTake N s := e.trans (gTake_eq hg h0 h1)
theorem mMu5 {σ1 : zMem} {v : Int} (f : zFr (mMu hm A) σ σ1) : zFr (mMu hm A) σ (zsi σ1 hm ((5 : Nat) : Int) v) := zFr_si (Or.inl ⟨rfl, rfl⟩) f
theorem zt_X12_tryBooking {H : Int → Int → Int} {u T : Int} {s a b c : Int} (hM : zMo σ hm A) (hS : mST (N, H, u) σ hm A) (g : gS T (N, H, u)) (hk : bkOK N s a b c) (a0 : 0 ≤ a) (zs : zrg s) (zra : zrg a) (zrb : zrg b) (zrc : zrg c) : zE G mX12_tryBooking (d + 12) [zR hm, zI s, zI a, zI b, zI c] σ (fun ro σ1 => ro = .inl (some (zI (oBkV N s a b c))) ∧ zFr (mMi hm A) σ σ1 ∧ mST (oBkS (N, H, u) s a b c) σ1 hm A) := by
  refine zE_of rfl (by simp [zcat]) (Nat.le_of_ble_eq_true rfl) ?_
  show zF G mX12_tryBooking (d + 12) 0 [(0, zR hm), (1, zI s), (2, zI a), (3, zI b), (4, zI c)] [] σ _
  obtain ⟨hN, hu, hh⟩ := hS
  have hN : zia σ (A 0) = N := hN
  have hu : zia σ hm ((4 : Nat) : Int) = u := hu
  have hh : mHr H u σ A := hh
  have gn : gN T N := g.n
  have hV := gn.v
  have hW := gn.w
  have hX := gn.x
  have hQ := gn.q
  have hb := hV.b
  have hn := hV.n
  have u0 : 0 ≤ u := g.2.1.1
  have u1 : u ≤ 10 := g.2.1.2
  have n0m := zMo_hm1 hM (k := 0) (by decide) zMo_h1
  have n3m := zMo_hm1 hM (k := 3) (by decide) zMo_h1
  obtain ⟨⟨s0, s1⟩, hka, hkb⟩ := id hk
  have hs := hV.s s s0 (by omega)
  have hw := hW s s0 s1
  refine zF_aload_n 1 dX12_tryBooking_0 rfl rfl ?_
  refine zF_iload_n 2 dX12_tryBooking_1 rfl rfl ?_
  refine zF_callVi 5 (d2 := (d + 11)) (as := [zI s]) dX12_tryBooking_2 rfl kX12_208 iX12_isHeld (ci := 12) rfl eX12_isHeld (Nat.le_refl _) hM.1 hM.2.1 rfl rfl (Nat.le_of_ble_eq_true rfl) (zn_X12_isHeld hM hN hb (by omega) (by omega)) ?_
  refine zF_ifb_eq 11 8 dX12_tryBooking_5 rfl rfl (fun c1 => ?_) (fun c1 => ?_)
  · refine zF_aload_n 12 dX12_tryBooking_11 rfl rfl ?_
    refine zF_iload_n 13 dX12_tryBooking_12 rfl rfl ?_
    refine zF_iconst 14 dX12_tryBooking_13 rfl ?_
    refine zF_callVi 17 (d2 := (d + 11)) (as := [zI s, zI 4]) dX12_tryBooking_14 rfl kX12_119 iX12_of (ci := 12) rfl eX12_of (Nat.le_refl _) hM.1 hM.2.1 rfl rfl (Nat.le_of_ble_eq_true rfl) (zn_X12_of hM hN (by omega) (by omega)) ?_
    refine zF_istore 19 (ls' := [(5, zI (mS N s 4)), (0, zR hm), (1, zI s), (2, zI a), (3, zI b), (4, zI c)]) dX12_tryBooking_17 rfl (by decide) rfl ?_
    refine zF_aload_n 20 dX12_tryBooking_19 rfl rfl ?_
    refine zF_iload_n 21 dX12_tryBooking_20 rfl rfl ?_
    refine zF_iconst 22 dX12_tryBooking_21 rfl ?_
    refine zF_callVi 25 (d2 := (d + 11)) (as := [zI s, zI 5]) dX12_tryBooking_22 rfl kX12_119 iX12_of (ci := 12) rfl eX12_of (Nat.le_refl _) hM.1 hM.2.1 rfl rfl (Nat.le_of_ble_eq_true rfl) (zn_X12_of hM hN (by omega) (by omega)) ?_
    refine zF_istore 27 (ls' := [(6, zI (mS N s 5)), (5, zI (mS N s 4)), (0, zR hm), (1, zI s), (2, zI a), (3, zI b), (4, zI c)]) dX12_tryBooking_25 rfl (by decide) rfl ?_
    refine zF_aload_n 28 dX12_tryBooking_27 rfl rfl ?_
    refine zF_iload_n 29 dX12_tryBooking_28 rfl rfl ?_
    refine zF_bipush 31 dX12_tryBooking_29 rfl (by decide) ?_
    refine zF_callVi 34 (d2 := (d + 11)) (as := [zI s, zI 6]) dX12_tryBooking_31 rfl kX12_119 iX12_of (ci := 12) rfl eX12_of (Nat.le_refl _) hM.1 hM.2.1 rfl rfl (Nat.le_of_ble_eq_true rfl) (zn_X12_of hM hN (by omega) (by omega)) ?_
    refine zF_istore 36 (ls' := [(7, zI (mS N s 6)), (6, zI (mS N s 5)), (5, zI (mS N s 4)), (0, zR hm), (1, zI s), (2, zI a), (3, zI b), (4, zI c)]) dX12_tryBooking_34 rfl (by decide) rfl ?_
    refine zF_aload_n 37 dX12_tryBooking_36 rfl rfl ?_
    refine zF_iload_n 38 dX12_tryBooking_37 rfl rfl ?_
    refine zF_iconst 39 dX12_tryBooking_38 rfl ?_
    refine zF_callVi 42 (d2 := (d + 11)) (as := [zI s, zI 0]) dX12_tryBooking_39 rfl kX12_119 iX12_of (ci := 12) rfl eX12_of (Nat.le_refl _) hM.1 hM.2.1 rfl rfl (Nat.le_of_ble_eq_true rfl) (zn_X12_of hM hN (by omega) (by omega)) ?_
    refine zF_istore 44 (ls' := [(8, zI (mS N s 0)), (7, zI (mS N s 6)), (6, zI (mS N s 5)), (5, zI (mS N s 4)), (0, zR hm), (1, zI s), (2, zI a), (3, zI b), (4, zI c)]) dX12_tryBooking_42 rfl (by decide) rfl ?_
    refine zF_aload_n 45 dX12_tryBooking_44 rfl rfl ?_
    refine zF_getR 48 dX12_tryBooking_45 rfl gX12_9 hM.1 hM.2.1 (zM_0 hM).1 ?_
    refine zF_iload_n 49 dX12_tryBooking_48 rfl rfl ?_
    refine zF_iload_n 50 dX12_tryBooking_49 rfl rfl ?_
    refine zF_iload_n 51 dX12_tryBooking_50 rfl rfl ?_
    refine zF_iload 53 dX12_tryBooking_51 rfl rfl ?_
    refine zF_iconst 54 dX12_tryBooking_53 rfl ?_
    refine zF_callS 57 (d2 := (d + 11)) (as := [zR (A 0), zI s, zI a, zI b, zI c, zI 0]) dX12_tryBooking_54 rfl kX12_274 sX12_book (Nat.le_refl _) rfl rfl (Nat.le_of_ble_eq_true rfl) (zE.mono (zt_X12_book (zM_0 hM).2.2 (zM_0 hM).2.1 (by omega) (by omega) (by first | exact zb01 _ | omega)) fun ro σa1 hh1 => ?_)
    obtain ⟨er1, fr1, p1⟩ := hh1
    subst er1
    refine ⟨fr1.1, ?_⟩
    show zF G mX12_tryBooking (d + 12) 57 [(8, zI (mS N s 0)), (7, zI (mS N s 6)), (6, zI (mS N s 5)), (5, zI (mS N s 4)), (0, zR hm), (1, zI s), (2, zI a), (3, zI b), (4, zI c)] [] σa1 _
    have hMa1 := zMo_f2 fr1 hM
    have hNa1 : zia σa1 (A 0) = (mBook N s a b c 0) := by rw [p1, hN]
    have hha1 := mHr_fr hh fr1 (fun _ q => zMo_ne hM (j := 3) (k := 0) (by decide) (by decide) (by decide) q.1)
    have hV1 := mBook_V hV (s := s) (a := a) (b := b) (c := c) (e := 0) (by omega) (by omega) (by omega) (by omega) (by omega) (Or.inl rfl)
    have hpa : mP (mBook N s a b c 0) a (mS N s 0) = mP N a (mS N s 0) := (mBook_o N (s := s) (a := a) (b := b) (c := c) (e := 0) (by omega) (by omega) (Or.inr (by omega)))
    have hpb : b ≠ -1 → mP (mBook N s a b c 0) b (mS N s 0) = mP N b (mS N s 0) := fun _ => (mBook_o N (s := s) (a := a) (b := b) (c := c) (e := 0) (by omega) (by omega) (Or.inr (by omega)))
    have qna := mNeed_b hV1 (mS N s 0) a 7
    have qna2 : mNeed (mBook N s a b c 0) (mS N s 0) a = mNeedN (mBook N s a b c 0) (mS N s 0) a 7 := rfl
    have qnb := mNeed_b hV1 (mS N s 0) b 7
    have qnb2 : mNeed (mBook N s a b c 0) (mS N s 0) b = mNeedN (mBook N s a b c 0) (mS N s 0) b 7 := rfl
    have qpa := hV.p a (mS N s 0) (by omega) (by omega) (by omega) (by omega)
    have qpb := hV.p b (mS N s 0)
    refine zF_aload_n 58 dX12_tryBooking_57 rfl rfl ?_
    refine zF_iload 60 dX12_tryBooking_58 rfl rfl ?_
    refine zF_iload_n 61 dX12_tryBooking_60 rfl rfl ?_
    refine zF_callVi 64 (d2 := (d + 11)) (as := [zI (mS N s 0), zI a]) dX12_tryBooking_61 rfl kX12_145 iX12_needed (ci := 12) rfl eX12_needed (Nat.le_refl _) hMa1.1 hMa1.2.1 rfl rfl (Nat.le_of_ble_eq_true rfl) (zn_X12_needed hMa1 hNa1 hV1 (by first | decide | assumption | exact hb _ | exact mSh_rg hb _ _ | exact zb_rg _ | (constructor <;> omega)) (by first | decide | assumption | exact hb _ | exact mSh_rg hb _ _ | exact zb_rg _ | (constructor <;> omega))) ?_
    refine zF_aload_n 65 dX12_tryBooking_64 rfl rfl ?_
    refine zF_iload_n 66 dX12_tryBooking_65 rfl rfl ?_
    refine zF_iload 68 dX12_tryBooking_66 rfl rfl ?_
    refine zF_callVi 71 (d2 := (d + 11)) (as := [zI a, zI (mS N s 0)]) dX12_tryBooking_68 rfl kX12_202 iX12_printsOf (ci := 12) rfl eX12_printsOf (Nat.le_refl _) hMa1.1 hMa1.2.1 rfl rfl (Nat.le_of_ble_eq_true rfl) (zn_X12_printsOf hMa1 hNa1 (by omega) (by omega)) ?_
    refine zF_icmp_gt 78 74 dX12_tryBooking_71 rfl rfl (by first | decide | assumption | exact hb _ | exact mSh_rg hb _ _ | exact zb_rg _ | (constructor <;> omega)) (by first | decide | assumption | exact hb _ | exact mSh_rg hb _ _ | exact zb_rg _ | (constructor <;> omega)) (fun c2 => ?_) (fun c2 => ?_)
    · refine zF_iconst 79 dX12_tryBooking_78 rfl ?_
      refine zF_istore 81 (ls' := [(9, zI 0), (8, zI (mS N s 0)), (7, zI (mS N s 6)), (6, zI (mS N s 5)), (5, zI (mS N s 4)), (0, zR hm), (1, zI s), (2, zI a), (3, zI b), (4, zI c)]) dX12_tryBooking_79 rfl (by decide) rfl ?_
      refine zF_iload 83 dX12_tryBooking_81 rfl rfl ?_
      refine zF_if_eq 112 86 dX12_tryBooking_83 rfl rfl (by first | decide | assumption | exact hb _ | exact mSh_rg hb _ _ | exact zb_rg _ | (constructor <;> omega)) (fun c3 => ?_) (fun c3 => ?_)
      · refine zF_iconst 113 dX12_tryBooking_112 rfl ?_
        refine zF_istore 115 (ls' := [(9, zI 0), (8, zI (mS N s 0)), (7, zI (mS N s 6)), (6, zI (mS N s 5)), (5, zI (mS N s 4)), (0, zR hm), (1, zI s), (2, zI a), (3, zI b), (4, zI c)]) dX12_tryBooking_113 rfl (by decide) rfl ?_
        refine zF_aload_n 116 dX12_tryBooking_115 rfl rfl ?_
        refine zF_getR 119 dX12_tryBooking_116 rfl gX12_9 hMa1.1 hMa1.2.1 (zM_0 hMa1).1 ?_
        refine zF_iload_n 120 dX12_tryBooking_119 rfl rfl ?_
        refine zF_iload 122 dX12_tryBooking_120 rfl rfl ?_
        refine zF_iload 124 dX12_tryBooking_122 rfl rfl ?_
        refine zF_iload 126 dX12_tryBooking_124 rfl rfl ?_
        refine zF_iconst 127 dX12_tryBooking_126 rfl ?_
        refine zF_callS 130 (d2 := (d + 11)) (as := [zR (A 0), zI s, zI (mS N s 4), zI (mS N s 5), zI (mS N s 6), zI 0]) dX12_tryBooking_127 rfl kX12_274 sX12_book (Nat.le_refl _) rfl rfl (Nat.le_of_ble_eq_true rfl) (zE.mono (zt_X12_book (zM_0 hMa1).2.2 (zM_0 hMa1).2.1 (by omega) (by omega) (by first | exact zb01 _ | omega)) fun ro σa2 hh2 => ?_)
        obtain ⟨er2, fr2, p2⟩ := hh2
        subst er2
        refine ⟨fr2.1, ?_⟩
        show zF G mX12_tryBooking (d + 12) 130 [(9, zI 0), (8, zI (mS N s 0)), (7, zI (mS N s 6)), (6, zI (mS N s 5)), (5, zI (mS N s 4)), (0, zR hm), (1, zI s), (2, zI a), (3, zI b), (4, zI c)] [] σa2 _
        have hMa2 := zMo_f2 fr2 hMa1
        have hNa2 : zia σa2 (A 0) = N := by rw [p2, hNa1]; have := mBook_back hV (N := N) (s := s) (a := a) (b := b) (c := c) (by omega) (by omega); rw [← zbF (p := mS N s 7 = 1) (by omega)] at this; exact this
        have hha2 := mHr_fr hha1 fr2 (fun _ q => zMo_ne hM (j := 3) (k := 0) (by decide) (by decide) (by decide) q.1)
        refine zF_iload 132 dX12_tryBooking_130 rfl rfl ?_
        refine zF_if_ne 138 135 dX12_tryBooking_132 rfl rfl (by first | decide | assumption | exact hb _ | exact mSh_rg hb _ _ | exact zb_rg _ | (constructor <;> omega)) (fun c4 => ?_) (fun c4 => ?_)
        · exact absurd c4 (by decide)
        · have hen : ¬ mEn N s a b c := fun q => by have := q.1; have := q.2; omega
          refine zF_bipush 137 dX12_tryBooking_135 rfl (by decide) ?_
          exact zF_ireturn dX12_tryBooking_137 rfl (⟨congrArg (fun z => Sum.inl (some (zI z))) (by unfold oBkV; rw [if_neg (by omega), if_neg hen]), (mMi_B (mMi_B zFr.rf fr1) fr2), by rw [show oBkS (N, H, u) s a b c = (N, H, u) from if_neg (fun q => hen q.2)]; exact ⟨hNa2, (zFr_F fr2 (fun q => n0m q.1.symm) (zFr_F fr1 (fun q => n0m q.1.symm) hu)), hha2⟩⟩)
      · exact absurd c3 (by decide)
    · refine zF_iconst 75 dX12_tryBooking_74 rfl ?_
      refine zF_goto 79 dX12_tryBooking_75 rfl ?_
      refine zF_istore 81 (ls' := [(9, zI 1), (8, zI (mS N s 0)), (7, zI (mS N s 6)), (6, zI (mS N s 5)), (5, zI (mS N s 4)), (0, zR hm), (1, zI s), (2, zI a), (3, zI b), (4, zI c)]) dX12_tryBooking_79 rfl (by decide) rfl ?_
      refine zF_iload 83 dX12_tryBooking_81 rfl rfl ?_
      refine zF_if_eq 112 86 dX12_tryBooking_83 rfl rfl (by first | decide | assumption | exact hb _ | exact mSh_rg hb _ _ | exact zb_rg _ | (constructor <;> omega)) (fun c5 => ?_) (fun c5 => ?_)
      · exact absurd c5 (by decide)
      · refine zF_iload_n 87 dX12_tryBooking_86 rfl rfl ?_
        refine zF_iconst 88 dX12_tryBooking_87 rfl ?_
        refine zF_icmp_eq 108 91 dX12_tryBooking_88 rfl rfl (by first | decide | assumption | exact hb _ | exact mSh_rg hb _ _ | exact zb_rg _ | (constructor <;> omega)) (by first | decide | assumption | exact hb _ | exact mSh_rg hb _ _ | exact zb_rg _ | (constructor <;> omega)) (fun c6 => ?_) (fun c6 => ?_)
        · refine zF_iconst 109 dX12_tryBooking_108 rfl ?_
          refine zF_goto 113 dX12_tryBooking_109 rfl ?_
          refine zF_istore 115 (ls' := [(9, zI 1), (8, zI (mS N s 0)), (7, zI (mS N s 6)), (6, zI (mS N s 5)), (5, zI (mS N s 4)), (0, zR hm), (1, zI s), (2, zI a), (3, zI b), (4, zI c)]) dX12_tryBooking_113 rfl (by decide) rfl ?_
          refine zF_aload_n 116 dX12_tryBooking_115 rfl rfl ?_
          refine zF_getR 119 dX12_tryBooking_116 rfl gX12_9 hMa1.1 hMa1.2.1 (zM_0 hMa1).1 ?_
          refine zF_iload_n 120 dX12_tryBooking_119 rfl rfl ?_
          refine zF_iload 122 dX12_tryBooking_120 rfl rfl ?_
          refine zF_iload 124 dX12_tryBooking_122 rfl rfl ?_
          refine zF_iload 126 dX12_tryBooking_124 rfl rfl ?_
          refine zF_iconst 127 dX12_tryBooking_126 rfl ?_
          refine zF_callS 130 (d2 := (d + 11)) (as := [zR (A 0), zI s, zI (mS N s 4), zI (mS N s 5), zI (mS N s 6), zI 0]) dX12_tryBooking_127 rfl kX12_274 sX12_book (Nat.le_refl _) rfl rfl (Nat.le_of_ble_eq_true rfl) (zE.mono (zt_X12_book (zM_0 hMa1).2.2 (zM_0 hMa1).2.1 (by omega) (by omega) (by first | exact zb01 _ | omega)) fun ro σa3 hh3 => ?_)
          obtain ⟨er3, fr3, p3⟩ := hh3
          subst er3
          refine ⟨fr3.1, ?_⟩
          show zF G mX12_tryBooking (d + 12) 130 [(9, zI 1), (8, zI (mS N s 0)), (7, zI (mS N s 6)), (6, zI (mS N s 5)), (5, zI (mS N s 4)), (0, zR hm), (1, zI s), (2, zI a), (3, zI b), (4, zI c)] [] σa3 _
          have hMa3 := zMo_f2 fr3 hMa1
          have hNa3 : zia σa3 (A 0) = N := by rw [p3, hNa1]; have := mBook_back hV (N := N) (s := s) (a := a) (b := b) (c := c) (by omega) (by omega); rw [← zbF (p := mS N s 7 = 1) (by omega)] at this; exact this
          have hha3 := mHr_fr hha1 fr3 (fun _ q => zMo_ne hM (j := 3) (k := 0) (by decide) (by decide) (by decide) q.1)
          refine zF_iload 132 dX12_tryBooking_130 rfl rfl ?_
          refine zF_if_ne 138 135 dX12_tryBooking_132 rfl rfl (by first | decide | assumption | exact hb _ | exact mSh_rg hb _ _ | exact zb_rg _ | (constructor <;> omega)) (fun c7 => ?_) (fun c7 => ?_)
          · have hen : mEn N s a b c := ⟨by omega, by omega⟩
            refine zF_aload_n 139 dX12_tryBooking_138 rfl rfl ?_
            refine zF_callV 142 (d2 := (d + 11)) (as := []) dX12_tryBooking_139 rfl kX12_292 iX12_record (ci := 12) rfl eX12_record (Nat.le_refl _) hMa3.1 hMa3.2.1 rfl rfl (Nat.le_of_ble_eq_true rfl) (zE.mono (zt_X12_record hMa3 (zFr_F fr3 (fun q => n0m q.1.symm) (zFr_F fr1 (fun q => n0m q.1.symm) hu)) u0 u1) fun ro σa4 hh4 => ?_)
            obtain ⟨er4, fr4, p4⟩ := hh4
            subst er4
            refine ⟨fr4.1, ?_⟩
            show zF G mX12_tryBooking (d + 12) 142 [(9, zI 1), (8, zI (mS N s 0)), (7, zI (mS N s 6)), (6, zI (mS N s 5)), (5, zI (mS N s 4)), (0, zR hm), (1, zI s), (2, zI a), (3, zI b), (4, zI c)] [] σa4 _
            have hMa4 := zMo_f2 fr4 hMa3
            have hNa4 : zia σa4 (A 0) = N := (fr4.at fun j q => q.elim (zMo_ne hM (j := 0) (k := 3) (by decide) (by decide) (by decide)) (fun q => n0m q.1)).trans hNa3
            have hha4 := mHr_rec hNa3 hQ.z hha3 u0 u1 ⟨fr4, p4⟩
            refine zF_aload_n 143 dX12_tryBooking_142 rfl rfl ?_
            refine zF_getR 146 dX12_tryBooking_143 rfl gX12_9 hMa4.1 hMa4.2.1 (zM_0 hMa4).1 ?_
            refine zF_iload_n 147 dX12_tryBooking_146 rfl rfl ?_
            refine zF_iload_n 148 dX12_tryBooking_147 rfl rfl ?_
            refine zF_iload_n 149 dX12_tryBooking_148 rfl rfl ?_
            refine zF_iload 151 dX12_tryBooking_149 rfl rfl ?_
            refine zF_iconst 152 dX12_tryBooking_151 rfl ?_
            refine zF_callS 155 (d2 := (d + 11)) (as := [zR (A 0), zI s, zI a, zI b, zI c, zI 0]) dX12_tryBooking_152 rfl kX12_274 sX12_book (Nat.le_refl _) rfl rfl (Nat.le_of_ble_eq_true rfl) (zE.mono (zt_X12_book (zM_0 hMa4).2.2 (zM_0 hMa4).2.1 (by omega) (by omega) (by first | exact zb01 _ | omega)) fun ro σa5 hh5 => ?_)
            obtain ⟨er5, fr5, p5⟩ := hh5
            subst er5
            refine ⟨fr5.1, ?_⟩
            show zF G mX12_tryBooking (d + 12) 155 [(9, zI 1), (8, zI (mS N s 0)), (7, zI (mS N s 6)), (6, zI (mS N s 5)), (5, zI (mS N s 4)), (0, zR hm), (1, zI s), (2, zI a), (3, zI b), (4, zI c)] [] σa5 _
            have hMa5 := zMo_f2 fr5 hMa4
            have hNa5 : zia σa5 (A 0) = (mBook N s a b c 0) := by rw [p5, hNa4]
            have hha5 := mHr_fr hha4 fr5 (fun _ q => zMo_ne hM (j := 3) (k := 0) (by decide) (by decide) (by decide) q.1)
            have hW1 := mBook_W hV hW (s := s) (a := a) (b := b) (c := c) (e := 0) (by omega) (by omega) (by omega) (by omega)
            refine zF_aload_n 156 dX12_tryBooking_155 rfl rfl ?_
            refine zF_callV 159 (d2 := (d + 11)) (as := []) dX12_tryBooking_156 rfl kX12_244 iX12_layWeek (ci := 12) rfl eX12_layWeek (Nat.le_refl _) hMa5.1 hMa5.2.1 rfl rfl (Nat.le_of_ble_eq_true rfl) (zE.mono (zt_X12_layWeek hMa5 hNa5 hV1 hW1) fun ro σa6 hh6 => ?_)
            obtain ⟨er6, fr6, p6⟩ := hh6
            subst er6
            refine ⟨fr6.1, ?_⟩
            show zF G mX12_tryBooking (d + 12) 159 [(9, zI 1), (8, zI (mS N s 0)), (7, zI (mS N s 6)), (6, zI (mS N s 5)), (5, zI (mS N s 4)), (0, zR hm), (1, zI s), (2, zI a), (3, zI b), (4, zI c)] [] σa6 _
            have hMa6 := zMo_f2 fr6 hMa5
            have hNa6 : zia σa6 (A 0) = (mBook N s a b c 0) := zFr_N (σ := σa5) hMa5 hNa5 fr6
            have hha6 := mHr_fr hha5 fr6 (fun _ q => q.elim (zMo_ne hM (j := 3) (k := 7) (by decide) (by decide) (by decide)) (zMo_ne hM (j := 3) (k := 8) (by decide) (by decide) (by decide)))
            have hga6 := gOK_V hV1 p6
            refine zF_aload_n 160 dX12_tryBooking_159 rfl rfl ?_
            refine zF_iload_n 161 dX12_tryBooking_160 rfl rfl ?_
            refine zF_callVi 164 (d2 := (d + 11)) (as := [zI s]) dX12_tryBooking_161 rfl kX12_259 iX12_takingsOf (ci := 12) rfl eX12_takingsOf (Nat.le_refl _) hMa6.1 hMa6.2.1 rfl rfl (Nat.le_of_ble_eq_true rfl) (zn_X12_takingsOf hMa6 hNa6 rfl hV1 (by omega) (by omega)) ?_
            exact zF_ireturn dX12_tryBooking_164 rfl (⟨congrArg (fun z => Sum.inl (some (zI z))) (by unfold oBkV; rw [if_neg (by omega), if_pos hen]; exact gTake_eq p6 (by omega) (by omega)), (mMi_78 (mMi_B (mMi_C (mMi_B (mMi_B zFr.rf fr1) fr3) fr4) fr5) fr6), by rw [show oBkS (N, H, u) s a b c = sRec (N, H, u) (mBook N s a b c 0) from if_pos ⟨show mS N s 7 = 0 by omega, hen⟩]; exact ⟨hNa6, (zFr_F fr6 (n78 hMa5 (j := 0)) (zFr_F fr5 (fun q => n0m q.1.symm) p4.1)), hha6⟩⟩)
          · exact absurd c7 (by decide)
        · refine zF_aload_n 92 dX12_tryBooking_91 rfl rfl ?_
          refine zF_iload 94 dX12_tryBooking_92 rfl rfl ?_
          refine zF_iload_n 95 dX12_tryBooking_94 rfl rfl ?_
          refine zF_callVi 98 (d2 := (d + 11)) (as := [zI (mS N s 0), zI b]) dX12_tryBooking_95 rfl kX12_145 iX12_needed (ci := 12) rfl eX12_needed (Nat.le_refl _) hMa1.1 hMa1.2.1 rfl rfl (Nat.le_of_ble_eq_true rfl) (zn_X12_needed hMa1 hNa1 hV1 (by first | decide | assumption | exact hb _ | exact mSh_rg hb _ _ | exact zb_rg _ | (constructor <;> omega)) (by first | decide | assumption | exact hb _ | exact mSh_rg hb _ _ | exact zb_rg _ | (constructor <;> omega))) ?_
          have qpb := qpb (by omega) (by omega) (by omega) (by omega)
          have hpb := hpb (by omega)
          refine zF_aload_n 99 dX12_tryBooking_98 rfl rfl ?_
          refine zF_iload_n 100 dX12_tryBooking_99 rfl rfl ?_
          refine zF_iload 102 dX12_tryBooking_100 rfl rfl ?_
          refine zF_callVi 105 (d2 := (d + 11)) (as := [zI b, zI (mS N s 0)]) dX12_tryBooking_102 rfl kX12_202 iX12_printsOf (ci := 12) rfl eX12_printsOf (Nat.le_refl _) hMa1.1 hMa1.2.1 rfl rfl (Nat.le_of_ble_eq_true rfl) (zn_X12_printsOf hMa1 hNa1 (by omega) (by omega)) ?_
          refine zF_icmp_gt 112 108 dX12_tryBooking_105 rfl rfl (by first | decide | assumption | exact hb _ | exact mSh_rg hb _ _ | exact zb_rg _ | (constructor <;> omega)) (by first | decide | assumption | exact hb _ | exact mSh_rg hb _ _ | exact zb_rg _ | (constructor <;> omega)) (fun c8 => ?_) (fun c8 => ?_)
          · refine zF_iconst 113 dX12_tryBooking_112 rfl ?_
            refine zF_istore 115 (ls' := [(9, zI 0), (8, zI (mS N s 0)), (7, zI (mS N s 6)), (6, zI (mS N s 5)), (5, zI (mS N s 4)), (0, zR hm), (1, zI s), (2, zI a), (3, zI b), (4, zI c)]) dX12_tryBooking_113 rfl (by decide) rfl ?_
            refine zF_aload_n 116 dX12_tryBooking_115 rfl rfl ?_
            refine zF_getR 119 dX12_tryBooking_116 rfl gX12_9 hMa1.1 hMa1.2.1 (zM_0 hMa1).1 ?_
            refine zF_iload_n 120 dX12_tryBooking_119 rfl rfl ?_
            refine zF_iload 122 dX12_tryBooking_120 rfl rfl ?_
            refine zF_iload 124 dX12_tryBooking_122 rfl rfl ?_
            refine zF_iload 126 dX12_tryBooking_124 rfl rfl ?_
            refine zF_iconst 127 dX12_tryBooking_126 rfl ?_
            refine zF_callS 130 (d2 := (d + 11)) (as := [zR (A 0), zI s, zI (mS N s 4), zI (mS N s 5), zI (mS N s 6), zI 0]) dX12_tryBooking_127 rfl kX12_274 sX12_book (Nat.le_refl _) rfl rfl (Nat.le_of_ble_eq_true rfl) (zE.mono (zt_X12_book (zM_0 hMa1).2.2 (zM_0 hMa1).2.1 (by omega) (by omega) (by first | exact zb01 _ | omega)) fun ro σa7 hh7 => ?_)
            obtain ⟨er7, fr7, p7⟩ := hh7
            subst er7
            refine ⟨fr7.1, ?_⟩
            show zF G mX12_tryBooking (d + 12) 130 [(9, zI 0), (8, zI (mS N s 0)), (7, zI (mS N s 6)), (6, zI (mS N s 5)), (5, zI (mS N s 4)), (0, zR hm), (1, zI s), (2, zI a), (3, zI b), (4, zI c)] [] σa7 _
            have hMa7 := zMo_f2 fr7 hMa1
            have hNa7 : zia σa7 (A 0) = N := by rw [p7, hNa1]; have := mBook_back hV (N := N) (s := s) (a := a) (b := b) (c := c) (by omega) (by omega); rw [← zbF (p := mS N s 7 = 1) (by omega)] at this; exact this
            have hha7 := mHr_fr hha1 fr7 (fun _ q => zMo_ne hM (j := 3) (k := 0) (by decide) (by decide) (by decide) q.1)
            refine zF_iload 132 dX12_tryBooking_130 rfl rfl ?_
            refine zF_if_ne 138 135 dX12_tryBooking_132 rfl rfl (by first | decide | assumption | exact hb _ | exact mSh_rg hb _ _ | exact zb_rg _ | (constructor <;> omega)) (fun c9 => ?_) (fun c9 => ?_)
            · exact absurd c9 (by decide)
            · have hen : ¬ mEn N s a b c := fun q => by have := q.1; have := q.2; omega
              refine zF_bipush 137 dX12_tryBooking_135 rfl (by decide) ?_
              exact zF_ireturn dX12_tryBooking_137 rfl (⟨congrArg (fun z => Sum.inl (some (zI z))) (by unfold oBkV; rw [if_neg (by omega), if_neg hen]), (mMi_B (mMi_B zFr.rf fr1) fr7), by rw [show oBkS (N, H, u) s a b c = (N, H, u) from if_neg (fun q => hen q.2)]; exact ⟨hNa7, (zFr_F fr7 (fun q => n0m q.1.symm) (zFr_F fr1 (fun q => n0m q.1.symm) hu)), hha7⟩⟩)
          · refine zF_iconst 109 dX12_tryBooking_108 rfl ?_
            refine zF_goto 113 dX12_tryBooking_109 rfl ?_
            refine zF_istore 115 (ls' := [(9, zI 1), (8, zI (mS N s 0)), (7, zI (mS N s 6)), (6, zI (mS N s 5)), (5, zI (mS N s 4)), (0, zR hm), (1, zI s), (2, zI a), (3, zI b), (4, zI c)]) dX12_tryBooking_113 rfl (by decide) rfl ?_
            refine zF_aload_n 116 dX12_tryBooking_115 rfl rfl ?_
            refine zF_getR 119 dX12_tryBooking_116 rfl gX12_9 hMa1.1 hMa1.2.1 (zM_0 hMa1).1 ?_
            refine zF_iload_n 120 dX12_tryBooking_119 rfl rfl ?_
            refine zF_iload 122 dX12_tryBooking_120 rfl rfl ?_
            refine zF_iload 124 dX12_tryBooking_122 rfl rfl ?_
            refine zF_iload 126 dX12_tryBooking_124 rfl rfl ?_
            refine zF_iconst 127 dX12_tryBooking_126 rfl ?_
            refine zF_callS 130 (d2 := (d + 11)) (as := [zR (A 0), zI s, zI (mS N s 4), zI (mS N s 5), zI (mS N s 6), zI 0]) dX12_tryBooking_127 rfl kX12_274 sX12_book (Nat.le_refl _) rfl rfl (Nat.le_of_ble_eq_true rfl) (zE.mono (zt_X12_book (zM_0 hMa1).2.2 (zM_0 hMa1).2.1 (by omega) (by omega) (by first | exact zb01 _ | omega)) fun ro σa8 hh8 => ?_)
            obtain ⟨er8, fr8, p8⟩ := hh8
            subst er8
            refine ⟨fr8.1, ?_⟩
            show zF G mX12_tryBooking (d + 12) 130 [(9, zI 1), (8, zI (mS N s 0)), (7, zI (mS N s 6)), (6, zI (mS N s 5)), (5, zI (mS N s 4)), (0, zR hm), (1, zI s), (2, zI a), (3, zI b), (4, zI c)] [] σa8 _
            have hMa8 := zMo_f2 fr8 hMa1
            have hNa8 : zia σa8 (A 0) = N := by rw [p8, hNa1]; have := mBook_back hV (N := N) (s := s) (a := a) (b := b) (c := c) (by omega) (by omega); rw [← zbF (p := mS N s 7 = 1) (by omega)] at this; exact this
            have hha8 := mHr_fr hha1 fr8 (fun _ q => zMo_ne hM (j := 3) (k := 0) (by decide) (by decide) (by decide) q.1)
            refine zF_iload 132 dX12_tryBooking_130 rfl rfl ?_
            refine zF_if_ne 138 135 dX12_tryBooking_132 rfl rfl (by first | decide | assumption | exact hb _ | exact mSh_rg hb _ _ | exact zb_rg _ | (constructor <;> omega)) (fun c10 => ?_) (fun c10 => ?_)
            · have hen : mEn N s a b c := ⟨by omega, by omega⟩
              refine zF_aload_n 139 dX12_tryBooking_138 rfl rfl ?_
              refine zF_callV 142 (d2 := (d + 11)) (as := []) dX12_tryBooking_139 rfl kX12_292 iX12_record (ci := 12) rfl eX12_record (Nat.le_refl _) hMa8.1 hMa8.2.1 rfl rfl (Nat.le_of_ble_eq_true rfl) (zE.mono (zt_X12_record hMa8 (zFr_F fr8 (fun q => n0m q.1.symm) (zFr_F fr1 (fun q => n0m q.1.symm) hu)) u0 u1) fun ro σa9 hh9 => ?_)
              obtain ⟨er9, fr9, p9⟩ := hh9
              subst er9
              refine ⟨fr9.1, ?_⟩
              show zF G mX12_tryBooking (d + 12) 142 [(9, zI 1), (8, zI (mS N s 0)), (7, zI (mS N s 6)), (6, zI (mS N s 5)), (5, zI (mS N s 4)), (0, zR hm), (1, zI s), (2, zI a), (3, zI b), (4, zI c)] [] σa9 _
              have hMa9 := zMo_f2 fr9 hMa8
              have hNa9 : zia σa9 (A 0) = N := (fr9.at fun j q => q.elim (zMo_ne hM (j := 0) (k := 3) (by decide) (by decide) (by decide)) (fun q => n0m q.1)).trans hNa8
              have hha9 := mHr_rec hNa8 hQ.z hha8 u0 u1 ⟨fr9, p9⟩
              refine zF_aload_n 143 dX12_tryBooking_142 rfl rfl ?_
              refine zF_getR 146 dX12_tryBooking_143 rfl gX12_9 hMa9.1 hMa9.2.1 (zM_0 hMa9).1 ?_
              refine zF_iload_n 147 dX12_tryBooking_146 rfl rfl ?_
              refine zF_iload_n 148 dX12_tryBooking_147 rfl rfl ?_
              refine zF_iload_n 149 dX12_tryBooking_148 rfl rfl ?_
              refine zF_iload 151 dX12_tryBooking_149 rfl rfl ?_
              refine zF_iconst 152 dX12_tryBooking_151 rfl ?_
              refine zF_callS 155 (d2 := (d + 11)) (as := [zR (A 0), zI s, zI a, zI b, zI c, zI 0]) dX12_tryBooking_152 rfl kX12_274 sX12_book (Nat.le_refl _) rfl rfl (Nat.le_of_ble_eq_true rfl) (zE.mono (zt_X12_book (zM_0 hMa9).2.2 (zM_0 hMa9).2.1 (by omega) (by omega) (by first | exact zb01 _ | omega)) fun ro σa10 hh10 => ?_)
              obtain ⟨er10, fr10, p10⟩ := hh10
              subst er10
              refine ⟨fr10.1, ?_⟩
              show zF G mX12_tryBooking (d + 12) 155 [(9, zI 1), (8, zI (mS N s 0)), (7, zI (mS N s 6)), (6, zI (mS N s 5)), (5, zI (mS N s 4)), (0, zR hm), (1, zI s), (2, zI a), (3, zI b), (4, zI c)] [] σa10 _
              have hMa10 := zMo_f2 fr10 hMa9
              have hNa10 : zia σa10 (A 0) = (mBook N s a b c 0) := by rw [p10, hNa9]
              have hha10 := mHr_fr hha9 fr10 (fun _ q => zMo_ne hM (j := 3) (k := 0) (by decide) (by decide) (by decide) q.1)
              have hW1 := mBook_W hV hW (s := s) (a := a) (b := b) (c := c) (e := 0) (by omega) (by omega) (by omega) (by omega)
              refine zF_aload_n 156 dX12_tryBooking_155 rfl rfl ?_
              refine zF_callV 159 (d2 := (d + 11)) (as := []) dX12_tryBooking_156 rfl kX12_244 iX12_layWeek (ci := 12) rfl eX12_layWeek (Nat.le_refl _) hMa10.1 hMa10.2.1 rfl rfl (Nat.le_of_ble_eq_true rfl) (zE.mono (zt_X12_layWeek hMa10 hNa10 hV1 hW1) fun ro σa11 hh11 => ?_)
              obtain ⟨er11, fr11, p11⟩ := hh11
              subst er11
              refine ⟨fr11.1, ?_⟩
              show zF G mX12_tryBooking (d + 12) 159 [(9, zI 1), (8, zI (mS N s 0)), (7, zI (mS N s 6)), (6, zI (mS N s 5)), (5, zI (mS N s 4)), (0, zR hm), (1, zI s), (2, zI a), (3, zI b), (4, zI c)] [] σa11 _
              have hMa11 := zMo_f2 fr11 hMa10
              have hNa11 : zia σa11 (A 0) = (mBook N s a b c 0) := zFr_N (σ := σa10) hMa10 hNa10 fr11
              have hha11 := mHr_fr hha10 fr11 (fun _ q => q.elim (zMo_ne hM (j := 3) (k := 7) (by decide) (by decide) (by decide)) (zMo_ne hM (j := 3) (k := 8) (by decide) (by decide) (by decide)))
              have hga11 := gOK_V hV1 p11
              refine zF_aload_n 160 dX12_tryBooking_159 rfl rfl ?_
              refine zF_iload_n 161 dX12_tryBooking_160 rfl rfl ?_
              refine zF_callVi 164 (d2 := (d + 11)) (as := [zI s]) dX12_tryBooking_161 rfl kX12_259 iX12_takingsOf (ci := 12) rfl eX12_takingsOf (Nat.le_refl _) hMa11.1 hMa11.2.1 rfl rfl (Nat.le_of_ble_eq_true rfl) (zn_X12_takingsOf hMa11 hNa11 rfl hV1 (by omega) (by omega)) ?_
              exact zF_ireturn dX12_tryBooking_164 rfl (⟨congrArg (fun z => Sum.inl (some (zI z))) (by unfold oBkV; rw [if_neg (by omega), if_pos hen]; exact gTake_eq p11 (by omega) (by omega)), (mMi_78 (mMi_B (mMi_C (mMi_B (mMi_B zFr.rf fr1) fr8) fr9) fr10) fr11), by rw [show oBkS (N, H, u) s a b c = sRec (N, H, u) (mBook N s a b c 0) from if_pos ⟨show mS N s 7 = 0 by omega, hen⟩]; exact ⟨hNa11, (zFr_F fr11 (n78 hMa10 (j := 0)) (zFr_F fr10 (fun q => n0m q.1.symm) p9.1)), hha11⟩⟩)
            · exact absurd c10 (by decide)
  · refine zF_bipush 10 dX12_tryBooking_8 rfl (by decide) ?_
    exact zF_ireturn dX12_tryBooking_10 rfl (⟨congrArg (fun z => Sum.inl (some (zI z))) ((if_pos (by omega)).symm), zFr.rf, by rw [show oBkS (N, H, u) s a b c = (N, H, u) from if_neg (fun q => absurd q.1 (show mS N s 7 ≠ 0 by omega))]; exact ⟨hN, hu, hh⟩⟩)
theorem zt_X12_book_ {H : Int → Int → Int} {u T : Int} {s f : Int} (hM : zMo σ hm A) (hS : mST (N, H, u) σ hm A) (g : gS T (N, H, u)) (zrs : zrg s) (zrf : zrg f) : zE G mX12_book_ (d + 16) [zR hm, zI s, zI f] σ (mopM (if 0 ≤ s ∧ s < N 1 then if 0 ≤ f ∧ f < N 2 then 0 else 1 else 1) (oBkV N s f (-1) 0) (N, H, u) (oBkS (N, H, u) s f (-1) 0) hm A σ) := by
  refine zE_of rfl (by simp [zcat]) (Nat.le_of_ble_eq_true rfl) ?_
  show zF G mX12_book_ (d + 16) 0 [(0, zR hm), (1, zI s), (2, zI f)] [] σ _
  obtain ⟨hN, hu, hh⟩ := hS
  have hN : zia σ (A 0) = N := hN
  have hu : zia σ hm ((4 : Nat) : Int) = u := hu
  have hh : mHr H u σ A := hh
  have gn : gN T N := g.n
  have hV := gn.v
  have hW := gn.w
  have hX := gn.x
  have hQ := gn.q
  have hb := hV.b
  have hn := hV.n
  have u0 : 0 ≤ u := g.2.1.1
  have u1 : u ≤ 10 := g.2.1.2
  have n0m := zMo_hm1 hM (k := 0) (by decide) zMo_h1
  have n3m := zMo_hm1 hM (k := 3) (by decide) zMo_h1
  refine zF_aload_n 1 dX12_book__0 rfl rfl ?_
  refine zF_iconst 2 dX12_book__1 rfl ?_
  refine zF_putI 5 dX12_book__2 rfl pX12_book__89 (Or.inl rfl) hM.1 hM.2.1 ?_
  refine zF_aload_n 6 dX12_book__5 rfl rfl ?_
  refine zF_iload_n 7 dX12_book__6 rfl rfl ?_
  refine zF_callVi 10 (d2 := (d + 15)) (as := [zI s]) dX12_book__7 rfl kX12_256 iX12_isScreen (ci := 12) rfl eX12_isScreen (Nat.le_refl _) hM.1 hM.2.1 rfl rfl (Nat.le_of_ble_eq_true rfl) (zn_X12_isScreen hM (zMo_hN (k := 0) hN hM (by decide) zMo_h1) (by first | decide | assumption | exact hb _ | exact mSh_rg hb _ _ | exact zb_rg _ | (constructor <;> omega)) (by omega) (by omega)) ?_
  refine zF_ifb_eq 21 13 dX12_book__10 rfl rfl (fun c1 => ?_) (fun c1 => ?_)
  · refine zF_aload_n 22 dX12_book__21 rfl rfl ?_
    refine zF_iconst 23 dX12_book__22 rfl ?_
    refine zF_callV 26 (d2 := (d + 15)) (as := [zI 1]) dX12_book__23 rfl kX12_238 iX12_raise (ci := 12) rfl eX12_raise (Nat.le_refl _) hM.1 hM.2.1 rfl rfl (Nat.le_of_ble_eq_true rfl) (zE.mono (zt_X12_raise hM) fun ro σx1 hh1 => ?_)
    obtain ⟨er1, es1⟩ := hh1
    subst er1
    subst es1
    refine ⟨rfl, ?_⟩
    exact zF_ireturn dX12_book__26 rfl (mopMT (mMu5 (mMu5 zFr.rf)) (zsi_same _ _ _ _) (by repeat (first | rw [if_pos (by omega)] | rw [if_neg (by omega)])) (by decide) ⟨(zMo_hN (k := 0) (zMo_hN (k := 0) hN hM (by decide) zMo_h1) hM (by decide) zMo_h1), (zsi_F (by decide) (zsi_F (by decide) hu)), (mHr_si (mHr_si hh n3m) n3m)⟩)
  · refine zF_aload_n 14 dX12_book__13 rfl rfl ?_
    refine zF_iload_n 15 dX12_book__14 rfl rfl ?_
    refine zF_callVi 18 (d2 := (d + 15)) (as := [zI f]) dX12_book__15 rfl kX12_262 iX12_isFilm (ci := 12) rfl eX12_isFilm (Nat.le_refl _) hM.1 hM.2.1 rfl rfl (Nat.le_of_ble_eq_true rfl) (zn_X12_isFilm hM (zMo_hN (k := 0) hN hM (by decide) zMo_h1) (by first | decide | assumption | exact hb _ | exact mSh_rg hb _ _ | exact zb_rg _ | (constructor <;> omega)) (by omega) (by omega)) ?_
    refine zF_ifb_ne 27 21 dX12_book__18 rfl rfl (fun c2 => ?_) (fun c2 => ?_)
    · refine zF_aload_n 28 dX12_book__27 rfl rfl ?_
      refine zF_iload_n 29 dX12_book__28 rfl rfl ?_
      refine zF_iload_n 30 dX12_book__29 rfl rfl ?_
      refine zF_iconst 31 dX12_book__30 rfl ?_
      refine zF_iconst 32 dX12_book__31 rfl ?_
      refine zF_callV 35 (d2 := (d + 15)) (as := [zI s, zI f, zI (-1), zI 0]) dX12_book__32 rfl kX12_295 iX12_tryBooking (ci := 12) rfl eX12_tryBooking (Nat.le_refl _) hM.1 hM.2.1 rfl rfl (Nat.le_of_ble_eq_true rfl) (zE.mono (zt_X12_tryBooking (σ := (zsi σ hm ((5 : Nat) : Int) 0)) hM ⟨(zMo_hN (k := 0) hN hM (by decide) zMo_h1), (zsi_F (by decide) hu), (mHr_si hh n3m)⟩ g (s := s) (a := f) (b := (-1)) (c := 0) ⟨⟨by omega, by omega⟩, by omega, by omega⟩ (by omega) (by first | decide | assumption | exact hb _ | exact mSh_rg hb _ _ | exact zb_rg _ | (constructor <;> omega)) (by first | decide | assumption | exact hb _ | exact mSh_rg hb _ _ | exact zb_rg _ | (constructor <;> omega)) (by first | decide | assumption | exact hb _ | exact mSh_rg hb _ _ | exact zb_rg _ | (constructor <;> omega)) (by first | decide | assumption | exact hb _ | exact mSh_rg hb _ _ | exact zb_rg _ | (constructor <;> omega))) fun ro σa2 hh2 => ?_)
      obtain ⟨er2, fr2, p2⟩ := hh2
      subst er2
      refine ⟨fr2.1, ?_⟩
      show zF G mX12_book_ (d + 16) 35 [(0, zR hm), (1, zI s), (2, zI f)] [zI (oBkV N s f (-1) 0)] σa2 _
      have hMa2 := zMo_f2 fr2 hM
      exact zF_ireturn dX12_book__35 rfl (mopMR ((mMu5 zFr.rf).tr (mMi_mu fr2)) (zFr_F fr2 (mMi_5 hM (by decide)) (zsi_same _ _ _ _)) (by repeat (first | rw [if_pos (by omega)] | rw [if_neg (by omega)])) (rfl) (S1 := (oBkS (N, H, u) s f (-1) 0)) (rfl) ⟨p2.1, p2.2.1, p2.2.2⟩)
    · refine zF_aload_n 22 dX12_book__21 rfl rfl ?_
      refine zF_iconst 23 dX12_book__22 rfl ?_
      refine zF_callV 26 (d2 := (d + 15)) (as := [zI 1]) dX12_book__23 rfl kX12_238 iX12_raise (ci := 12) rfl eX12_raise (Nat.le_refl _) hM.1 hM.2.1 rfl rfl (Nat.le_of_ble_eq_true rfl) (zE.mono (zt_X12_raise hM) fun ro σx3 hh3 => ?_)
      obtain ⟨er3, es3⟩ := hh3
      subst er3
      subst es3
      refine ⟨rfl, ?_⟩
      exact zF_ireturn dX12_book__26 rfl (mopMT (mMu5 (mMu5 zFr.rf)) (zsi_same _ _ _ _) (by repeat (first | rw [if_pos (by omega)] | rw [if_neg (by omega)])) (by decide) ⟨(zMo_hN (k := 0) (zMo_hN (k := 0) hN hM (by decide) zMo_h1) hM (by decide) zMo_h1), (zsi_F (by decide) (zsi_F (by decide) hu)), (mHr_si (mHr_si hh n3m) n3m)⟩)
theorem zt_X12_split {H : Int → Int → Int} {u T : Int} {s a b c : Int} (hM : zMo σ hm A) (hS : mST (N, H, u) σ hm A) (g : gS T (N, H, u)) (zrs : zrg s) (zra : zrg a) (zrb : zrg b) (zrc : zrg c) : zE G mX12_split (d + 16) [zR hm, zI s, zI a, zI b, zI c] σ (mopM (if 0 ≤ s ∧ s < N 1 then if 0 ≤ a ∧ a < N 2 then if 0 ≤ b ∧ b < N 2 then if a ≠ b ∧ 1 ≤ c ∧ c < 7 then 0 else 2 else 1 else 1 else 1) (oBkV N s a b c) (N, H, u) (oBkS (N, H, u) s a b c) hm A σ) := by
  refine zE_of rfl (by simp [zcat]) (Nat.le_of_ble_eq_true rfl) ?_
  show zF G mX12_split (d + 16) 0 [(0, zR hm), (1, zI s), (2, zI a), (3, zI b), (4, zI c)] [] σ _
  obtain ⟨hN, hu, hh⟩ := hS
  have hN : zia σ (A 0) = N := hN
  have hu : zia σ hm ((4 : Nat) : Int) = u := hu
  have hh : mHr H u σ A := hh
  have gn : gN T N := g.n
  have hV := gn.v
  have hW := gn.w
  have hX := gn.x
  have hQ := gn.q
  have hb := hV.b
  have hn := hV.n
  have u0 : 0 ≤ u := g.2.1.1
  have u1 : u ≤ 10 := g.2.1.2
  have n0m := zMo_hm1 hM (k := 0) (by decide) zMo_h1
  have n3m := zMo_hm1 hM (k := 3) (by decide) zMo_h1
  refine zF_aload_n 1 dX12_split_0 rfl rfl ?_
  refine zF_aload_n 2 dX12_split_1 rfl rfl ?_
  refine zF_iload_n 3 dX12_split_2 rfl rfl ?_
  refine zF_callVi 6 (d2 := (d + 15)) (as := [zI s]) dX12_split_3 rfl kX12_256 iX12_isScreen (ci := 12) rfl eX12_isScreen (Nat.le_refl _) hM.1 hM.2.1 rfl rfl (Nat.le_of_ble_eq_true rfl) (zn_X12_isScreen hM hN (by first | decide | assumption | exact hb _ | exact mSh_rg hb _ _ | exact zb_rg _ | (constructor <;> omega)) (by omega) (by omega)) ?_
  refine zF_ifb_eq 25 9 dX12_split_6 rfl rfl (fun c1 => ?_) (fun c1 => ?_)
  · refine zF_iconst 26 dX12_split_25 rfl ?_
    refine zF_goto 50 dX12_split_26 rfl ?_
    refine zF_putI 53 dX12_split_50 rfl pX12_split_89 (Or.inl rfl) hM.1 hM.2.1 ?_
    refine zF_aload_n 54 dX12_split_53 rfl rfl ?_
    refine zF_getI 57 dX12_split_54 rfl gX12_89 (by decide) (by decide) hM.1 hM.2.1 (zsi_same _ _ _ _) ?_
    refine zF_if_eq 62 60 dX12_split_57 rfl rfl (by first | decide | assumption | exact hb _ | exact mSh_rg hb _ _ | exact zb_rg _ | (constructor <;> omega)) (fun c2 => ?_) (fun c2 => ?_)
    · exact absurd c2 (by decide)
    · refine zF_iconst 61 dX12_split_60 rfl ?_
      exact zF_ireturn dX12_split_61 rfl (mopMT (mMu5 zFr.rf) (zsi_same _ _ _ _) (by repeat (first | rw [if_pos (by omega)] | rw [if_neg (by omega)])) (by decide) ⟨(zMo_hN (k := 0) hN hM (by decide) zMo_h1), (zsi_F (by decide) hu), (mHr_si hh n3m)⟩)
  · refine zF_aload_n 10 dX12_split_9 rfl rfl ?_
    refine zF_iload_n 11 dX12_split_10 rfl rfl ?_
    refine zF_callVi 14 (d2 := (d + 15)) (as := [zI a]) dX12_split_11 rfl kX12_262 iX12_isFilm (ci := 12) rfl eX12_isFilm (Nat.le_refl _) hM.1 hM.2.1 rfl rfl (Nat.le_of_ble_eq_true rfl) (zn_X12_isFilm hM hN (by first | decide | assumption | exact hb _ | exact mSh_rg hb _ _ | exact zb_rg _ | (constructor <;> omega)) (by omega) (by omega)) ?_
    refine zF_ifb_eq 25 17 dX12_split_14 rfl rfl (fun c3 => ?_) (fun c3 => ?_)
    · refine zF_iconst 26 dX12_split_25 rfl ?_
      refine zF_goto 50 dX12_split_26 rfl ?_
      refine zF_putI 53 dX12_split_50 rfl pX12_split_89 (Or.inl rfl) hM.1 hM.2.1 ?_
      refine zF_aload_n 54 dX12_split_53 rfl rfl ?_
      refine zF_getI 57 dX12_split_54 rfl gX12_89 (by decide) (by decide) hM.1 hM.2.1 (zsi_same _ _ _ _) ?_
      refine zF_if_eq 62 60 dX12_split_57 rfl rfl (by first | decide | assumption | exact hb _ | exact mSh_rg hb _ _ | exact zb_rg _ | (constructor <;> omega)) (fun c4 => ?_) (fun c4 => ?_)
      · exact absurd c4 (by decide)
      · refine zF_iconst 61 dX12_split_60 rfl ?_
        exact zF_ireturn dX12_split_61 rfl (mopMT (mMu5 zFr.rf) (zsi_same _ _ _ _) (by repeat (first | rw [if_pos (by omega)] | rw [if_neg (by omega)])) (by decide) ⟨(zMo_hN (k := 0) hN hM (by decide) zMo_h1), (zsi_F (by decide) hu), (mHr_si hh n3m)⟩)
    · refine zF_aload_n 18 dX12_split_17 rfl rfl ?_
      refine zF_iload_n 19 dX12_split_18 rfl rfl ?_
      refine zF_callVi 22 (d2 := (d + 15)) (as := [zI b]) dX12_split_19 rfl kX12_262 iX12_isFilm (ci := 12) rfl eX12_isFilm (Nat.le_refl _) hM.1 hM.2.1 rfl rfl (Nat.le_of_ble_eq_true rfl) (zn_X12_isFilm hM hN (by first | decide | assumption | exact hb _ | exact mSh_rg hb _ _ | exact zb_rg _ | (constructor <;> omega)) (by omega) (by omega)) ?_
      refine zF_ifb_ne 29 25 dX12_split_22 rfl rfl (fun c5 => ?_) (fun c5 => ?_)
      · refine zF_iload_n 30 dX12_split_29 rfl rfl ?_
        refine zF_iload_n 31 dX12_split_30 rfl rfl ?_
        refine zF_icmp_eq 49 34 dX12_split_31 rfl rfl (by first | decide | assumption | exact hb _ | exact mSh_rg hb _ _ | exact zb_rg _ | (constructor <;> omega)) (by first | decide | assumption | exact hb _ | exact mSh_rg hb _ _ | exact zb_rg _ | (constructor <;> omega)) (fun c6 => ?_) (fun c6 => ?_)
        · refine zF_iconst 50 dX12_split_49 rfl ?_
          refine zF_putI 53 dX12_split_50 rfl pX12_split_89 (Or.inl rfl) hM.1 hM.2.1 ?_
          refine zF_aload_n 54 dX12_split_53 rfl rfl ?_
          refine zF_getI 57 dX12_split_54 rfl gX12_89 (by decide) (by decide) hM.1 hM.2.1 (zsi_same _ _ _ _) ?_
          refine zF_if_eq 62 60 dX12_split_57 rfl rfl (by first | decide | assumption | exact hb _ | exact mSh_rg hb _ _ | exact zb_rg _ | (constructor <;> omega)) (fun c7 => ?_) (fun c7 => ?_)
          · exact absurd c7 (by decide)
          · refine zF_iconst 61 dX12_split_60 rfl ?_
            exact zF_ireturn dX12_split_61 rfl (mopMT (mMu5 zFr.rf) (zsi_same _ _ _ _) (by repeat (first | rw [if_pos (by omega)] | rw [if_neg (by omega)])) (by decide) ⟨(zMo_hN (k := 0) hN hM (by decide) zMo_h1), (zsi_F (by decide) hu), (mHr_si hh n3m)⟩)
        · refine zF_iload 36 dX12_split_34 rfl rfl ?_
          refine zF_iconst 37 dX12_split_36 rfl ?_
          refine zF_bipush 39 dX12_split_37 rfl (by decide) ?_
          refine zF_callSi 42 (d2 := (d + 15)) (as := [zI c, zI 1, zI 6]) dX12_split_39 rfl kX12_109 sX12_inRange (Nat.le_refl _) rfl rfl (Nat.le_of_ble_eq_true rfl) (zt_X12_inRange (by first | decide | assumption | exact hb _ | exact mSh_rg hb _ _ | exact zb_rg _ | (constructor <;> omega)) (by first | decide | assumption | exact hb _ | exact mSh_rg hb _ _ | exact zb_rg _ | (constructor <;> omega)) (by first | decide | assumption | exact hb _ | exact mSh_rg hb _ _ | exact zb_rg _ | (constructor <;> omega))) ?_
          refine zF_ifb_eq 49 45 dX12_split_42 rfl rfl (fun c8 => ?_) (fun c8 => ?_)
          · refine zF_iconst 50 dX12_split_49 rfl ?_
            refine zF_putI 53 dX12_split_50 rfl pX12_split_89 (Or.inl rfl) hM.1 hM.2.1 ?_
            refine zF_aload_n 54 dX12_split_53 rfl rfl ?_
            refine zF_getI 57 dX12_split_54 rfl gX12_89 (by decide) (by decide) hM.1 hM.2.1 (zsi_same _ _ _ _) ?_
            refine zF_if_eq 62 60 dX12_split_57 rfl rfl (by first | decide | assumption | exact hb _ | exact mSh_rg hb _ _ | exact zb_rg _ | (constructor <;> omega)) (fun c9 => ?_) (fun c9 => ?_)
            · exact absurd c9 (by decide)
            · refine zF_iconst 61 dX12_split_60 rfl ?_
              exact zF_ireturn dX12_split_61 rfl (mopMT (mMu5 zFr.rf) (zsi_same _ _ _ _) (by repeat (first | rw [if_pos (by omega)] | rw [if_neg (by omega)])) (by decide) ⟨(zMo_hN (k := 0) hN hM (by decide) zMo_h1), (zsi_F (by decide) hu), (mHr_si hh n3m)⟩)
          · refine zF_iconst 46 dX12_split_45 rfl ?_
            refine zF_goto 50 dX12_split_46 rfl ?_
            refine zF_putI 53 dX12_split_50 rfl pX12_split_89 (Or.inl rfl) hM.1 hM.2.1 ?_
            refine zF_aload_n 54 dX12_split_53 rfl rfl ?_
            refine zF_getI 57 dX12_split_54 rfl gX12_89 (by decide) (by decide) hM.1 hM.2.1 (zsi_same _ _ _ _) ?_
            refine zF_if_eq 62 60 dX12_split_57 rfl rfl (by first | decide | assumption | exact hb _ | exact mSh_rg hb _ _ | exact zb_rg _ | (constructor <;> omega)) (fun c10 => ?_) (fun c10 => ?_)
            · refine zF_aload_n 63 dX12_split_62 rfl rfl ?_
              refine zF_iload_n 64 dX12_split_63 rfl rfl ?_
              refine zF_iload_n 65 dX12_split_64 rfl rfl ?_
              refine zF_iload_n 66 dX12_split_65 rfl rfl ?_
              refine zF_iload 68 dX12_split_66 rfl rfl ?_
              refine zF_callV 71 (d2 := (d + 15)) (as := [zI s, zI a, zI b, zI c]) dX12_split_68 rfl kX12_295 iX12_tryBooking (ci := 12) rfl eX12_tryBooking (Nat.le_refl _) hM.1 hM.2.1 rfl rfl (Nat.le_of_ble_eq_true rfl) (zE.mono (zt_X12_tryBooking (σ := (zsi σ hm ((5 : Nat) : Int) 0)) hM ⟨(zMo_hN (k := 0) hN hM (by decide) zMo_h1), (zsi_F (by decide) hu), (mHr_si hh n3m)⟩ g (s := s) (a := a) (b := b) (c := c) ⟨⟨by omega, by omega⟩, by omega, by omega⟩ (by omega) (by first | decide | assumption | exact hb _ | exact mSh_rg hb _ _ | exact zb_rg _ | (constructor <;> omega)) (by first | decide | assumption | exact hb _ | exact mSh_rg hb _ _ | exact zb_rg _ | (constructor <;> omega)) (by first | decide | assumption | exact hb _ | exact mSh_rg hb _ _ | exact zb_rg _ | (constructor <;> omega)) (by first | decide | assumption | exact hb _ | exact mSh_rg hb _ _ | exact zb_rg _ | (constructor <;> omega))) fun ro σa1 hh1 => ?_)
              obtain ⟨er1, fr1, p1⟩ := hh1
              subst er1
              refine ⟨fr1.1, ?_⟩
              show zF G mX12_split (d + 16) 71 [(0, zR hm), (1, zI s), (2, zI a), (3, zI b), (4, zI c)] [zI (oBkV N s a b c)] σa1 _
              have hMa1 := zMo_f2 fr1 hM
              exact zF_ireturn dX12_split_71 rfl (mopMR ((mMu5 zFr.rf).tr (mMi_mu fr1)) (zFr_F fr1 (mMi_5 hM (by decide)) (zsi_same _ _ _ _)) (by repeat (first | rw [if_pos (by omega)] | rw [if_neg (by omega)])) (rfl) (S1 := (oBkS (N, H, u) s a b c)) (rfl) ⟨p1.1, p1.2.1, p1.2.2⟩)
            · exact absurd c10 (by decide)
      · refine zF_iconst 26 dX12_split_25 rfl ?_
        refine zF_goto 50 dX12_split_26 rfl ?_
        refine zF_putI 53 dX12_split_50 rfl pX12_split_89 (Or.inl rfl) hM.1 hM.2.1 ?_
        refine zF_aload_n 54 dX12_split_53 rfl rfl ?_
        refine zF_getI 57 dX12_split_54 rfl gX12_89 (by decide) (by decide) hM.1 hM.2.1 (zsi_same _ _ _ _) ?_
        refine zF_if_eq 62 60 dX12_split_57 rfl rfl (by first | decide | assumption | exact hb _ | exact mSh_rg hb _ _ | exact zb_rg _ | (constructor <;> omega)) (fun c11 => ?_) (fun c11 => ?_)
        · exact absurd c11 (by decide)
        · refine zF_iconst 61 dX12_split_60 rfl ?_
          exact zF_ireturn dX12_split_61 rfl (mopMT (mMu5 zFr.rf) (zsi_same _ _ _ _) (by repeat (first | rw [if_pos (by omega)] | rw [if_neg (by omega)])) (by decide) ⟨(zMo_hN (k := 0) hN hM (by decide) zMo_h1), (zsi_F (by decide) hu), (mHr_si hh n3m)⟩)
theorem zt_X12_empty {H : Int → Int → Int} {u T : Int} {s : Int} (hM : zMo σ hm A) (hS : mST (N, H, u) σ hm A) (g : gS T (N, H, u)) (zrs : zrg s) : zE G mX12_empty (d + 16) [zR hm, zI s] σ (mopM (if 0 ≤ s ∧ s < N 1 then 0 else 1) (oEmV N s) (N, H, u) (oEmS (N, H, u) s) hm A σ) := by
  refine zE_of rfl (by simp [zcat]) (Nat.le_of_ble_eq_true rfl) ?_
  show zF G mX12_empty (d + 16) 0 [(0, zR hm), (1, zI s)] [] σ _
  obtain ⟨hN, hu, hh⟩ := hS
  have hN : zia σ (A 0) = N := hN
  have hu : zia σ hm ((4 : Nat) : Int) = u := hu
  have hh : mHr H u σ A := hh
  have gn : gN T N := g.n
  have hV := gn.v
  have hW := gn.w
  have hX := gn.x
  have hQ := gn.q
  have hb := hV.b
  have hn := hV.n
  have u0 : 0 ≤ u := g.2.1.1
  have u1 : u ≤ 10 := g.2.1.2
  have n0m := zMo_hm1 hM (k := 0) (by decide) zMo_h1
  have n3m := zMo_hm1 hM (k := 3) (by decide) zMo_h1
  refine zF_aload_n 1 dX12_empty_0 rfl rfl ?_
  refine zF_iconst 2 dX12_empty_1 rfl ?_
  refine zF_putI 5 dX12_empty_2 rfl pX12_empty_89 (Or.inl rfl) hM.1 hM.2.1 ?_
  refine zF_aload_n 6 dX12_empty_5 rfl rfl ?_
  refine zF_iload_n 7 dX12_empty_6 rfl rfl ?_
  refine zF_callVi 10 (d2 := (d + 15)) (as := [zI s]) dX12_empty_7 rfl kX12_256 iX12_isScreen (ci := 12) rfl eX12_isScreen (Nat.le_refl _) hM.1 hM.2.1 rfl rfl (Nat.le_of_ble_eq_true rfl) (zn_X12_isScreen hM (zMo_hN (k := 0) hN hM (by decide) zMo_h1) (by first | decide | assumption | exact hb _ | exact mSh_rg hb _ _ | exact zb_rg _ | (constructor <;> omega)) (by omega) (by omega)) ?_
  refine zF_ifb_ne 19 13 dX12_empty_10 rfl rfl (fun c1 => ?_) (fun c1 => ?_)
  · have qs := hV.s s (by omega) (by omega)
    refine zF_aload_n 20 dX12_empty_19 rfl rfl ?_
    refine zF_iload_n 21 dX12_empty_20 rfl rfl ?_
    refine zF_callVi 24 (d2 := (d + 15)) (as := [zI s]) dX12_empty_21 rfl kX12_208 iX12_isHeld (ci := 12) rfl eX12_isHeld (Nat.le_refl _) hM.1 hM.2.1 rfl rfl (Nat.le_of_ble_eq_true rfl) (zn_X12_isHeld hM (zMo_hN (k := 0) hN hM (by decide) zMo_h1) hb (by omega) (by omega)) ?_
    refine zF_ifb_eq 30 27 dX12_empty_24 rfl rfl (fun c2 => ?_) (fun c2 => ?_)
    · refine zF_aload_n 31 dX12_empty_30 rfl rfl ?_
      refine zF_callV 34 (d2 := (d + 15)) (as := []) dX12_empty_31 rfl kX12_292 iX12_record (ci := 12) rfl eX12_record (Nat.le_refl _) hM.1 hM.2.1 rfl rfl (Nat.le_of_ble_eq_true rfl) (zE.mono (zt_X12_record hM (zsi_F (by decide) hu) u0 u1) fun ro σa1 hh1 => ?_)
      obtain ⟨er1, fr1, p1⟩ := hh1
      subst er1
      refine ⟨fr1.1, ?_⟩
      show zF G mX12_empty (d + 16) 34 [(0, zR hm), (1, zI s)] [] σa1 _
      have hMa1 := zMo_f2 fr1 hM
      have hNa1 : zia σa1 (A 0) = N := (fr1.at fun j q => q.elim (zMo_ne hM (j := 0) (k := 3) (by decide) (by decide) (by decide)) (fun q => n0m q.1)).trans (zMo_hN (k := 0) hN hM (by decide) zMo_h1)
      have hha1 := mHr_rec (zMo_hN (k := 0) hN hM (by decide) zMo_h1) hQ.z (mHr_si hh n3m) u0 u1 ⟨fr1, p1⟩
      refine zF_aload_n 35 dX12_empty_34 rfl rfl ?_
      refine zF_iload_n 36 dX12_empty_35 rfl rfl ?_
      refine zF_iconst 37 dX12_empty_36 rfl ?_
      refine zF_callVi 40 (d2 := (d + 15)) (as := [zI s, zI 4]) dX12_empty_37 rfl kX12_119 iX12_of (ci := 12) rfl eX12_of (Nat.le_refl _) hMa1.1 hMa1.2.1 rfl rfl (Nat.le_of_ble_eq_true rfl) (zn_X12_of hMa1 hNa1 (by omega) (by omega)) ?_
      refine zF_istore_n 41 (ls' := [(2, zI (mS N s 4)), (0, zR hm), (1, zI s)]) dX12_empty_40 rfl (by decide) rfl ?_
      refine zF_aload_n 42 dX12_empty_41 rfl rfl ?_
      refine zF_getR 45 dX12_empty_42 rfl gX12_9 hMa1.1 hMa1.2.1 (zM_0 hMa1).1 ?_
      refine zF_iload_n 46 dX12_empty_45 rfl rfl ?_
      refine zF_iconst 47 dX12_empty_46 rfl ?_
      refine zF_iconst 48 dX12_empty_47 rfl ?_
      refine zF_iconst 49 dX12_empty_48 rfl ?_
      refine zF_iconst 50 dX12_empty_49 rfl ?_
      refine zF_callS 53 (d2 := (d + 15)) (as := [zR (A 0), zI s, zI (-1), zI (-1), zI 0, zI 0]) dX12_empty_50 rfl kX12_274 sX12_book (Nat.le_refl _) rfl rfl (Nat.le_of_ble_eq_true rfl) (zE.mono (zt_X12_book (zM_0 hMa1).2.2 (zM_0 hMa1).2.1 (by omega) (by omega) (by first | exact zb01 _ | omega)) fun ro σa2 hh2 => ?_)
      obtain ⟨er2, fr2, p2⟩ := hh2
      subst er2
      refine ⟨fr2.1, ?_⟩
      show zF G mX12_empty (d + 16) 53 [(2, zI (mS N s 4)), (0, zR hm), (1, zI s)] [] σa2 _
      have hMa2 := zMo_f2 fr2 hMa1
      have hNa2 : zia σa2 (A 0) = (mBook N s (-1) (-1) 0 0) := by rw [p2, hNa1]
      have hha2 := mHr_fr hha1 fr2 (fun _ q => zMo_ne hM (j := 3) (k := 0) (by decide) (by decide) (by decide) q.1)
      refine zF_iload_n 54 dX12_empty_53 rfl rfl ?_
      exact zF_ireturn dX12_empty_54 rfl (mopMR (((mMu5 zFr.rf).tr (mMi_mu (mMi_C zFr.rf fr1))).tr (mMi_mu (mMi_B zFr.rf fr2))) (zFr_F fr2 (fun q => n0m q.1.symm) (zFr_F fr1 (fun q => q.elim (fun q => n3m q.symm) (fun q => absurd q.2 (by decide))) (zsi_same _ _ _ _))) (by repeat (first | rw [if_pos (by omega)] | rw [if_neg (by omega)])) (by unfold oEmV; first | (rw [if_pos (by omega)]; done) | (rw [if_neg (by omega)]; done)) (S1 := sRec (N, H, u) (mBook N s (-1) (-1) 0 0)) (if_pos (by show mS N s 7 = 0; omega)) ⟨hNa2, (zFr_F fr2 (fun q => n0m q.1.symm) p1.1), hha2⟩)
    · refine zF_bipush 29 dX12_empty_27 rfl (by decide) ?_
      exact zF_ireturn dX12_empty_29 rfl (mopMR (mMu5 zFr.rf) (zsi_same _ _ _ _) (by repeat (first | rw [if_pos (by omega)] | rw [if_neg (by omega)])) (by unfold oEmV; first | (rw [if_pos (by omega)]; done) | (rw [if_neg (by omega)]; done)) (S1 := (N, H, u)) (if_neg (by show ¬ mS N s 7 = 0; omega)) ⟨(zMo_hN (k := 0) hN hM (by decide) zMo_h1), (zsi_F (by decide) hu), (mHr_si hh n3m)⟩)
  · refine zF_aload_n 14 dX12_empty_13 rfl rfl ?_
    refine zF_iconst 15 dX12_empty_14 rfl ?_
    refine zF_callV 18 (d2 := (d + 15)) (as := [zI 1]) dX12_empty_15 rfl kX12_238 iX12_raise (ci := 12) rfl eX12_raise (Nat.le_refl _) hM.1 hM.2.1 rfl rfl (Nat.le_of_ble_eq_true rfl) (zE.mono (zt_X12_raise hM) fun ro σx3 hh3 => ?_)
    obtain ⟨er3, es3⟩ := hh3
    subst er3
    subst es3
    refine ⟨rfl, ?_⟩
    exact zF_ireturn dX12_empty_18 rfl (mopMT (mMu5 (mMu5 zFr.rf)) (zsi_same _ _ _ _) (by repeat (first | rw [if_pos (by omega)] | rw [if_neg (by omega)])) (by decide) ⟨(zMo_hN (k := 0) (zMo_hN (k := 0) hN hM (by decide) zMo_h1) hM (by decide) zMo_h1), (zsi_F (by decide) (zsi_F (by decide) hu)), (mHr_si (mHr_si hh n3m) n3m)⟩)
theorem zt_X12_change {H : Int → Int → Int} {u T : Int} {j v : Int} (hM : zMo σ hm A) (hS : mST (N, H, u) σ hm A) (g : gS T (N, H, u)) (j0 : 0 ≤ j) (j1 : j < 312) : zE G mX12_change (d + 12) [zR hm, zI j, zI v] σ (fun ro σ1 => ro = .inl (some (zI (N j))) ∧ zFr (mMi hm A) σ σ1 ∧ mST (sRec (N, H, u) (mSet N j v)) σ1 hm A) := by
  refine zE_of rfl (by simp [zcat]) (Nat.le_of_ble_eq_true rfl) ?_
  show zF G mX12_change (d + 12) 0 [(0, zR hm), (1, zI j), (2, zI v)] [] σ _
  obtain ⟨hN, hu, hh⟩ := hS
  have hN : zia σ (A 0) = N := hN
  have hu : zia σ hm ((4 : Nat) : Int) = u := hu
  have hh : mHr H u σ A := hh
  have gn : gN T N := g.n
  have hV := gn.v
  have hW := gn.w
  have hX := gn.x
  have hQ := gn.q
  have hb := hV.b
  have hn := hV.n
  have u0 : 0 ≤ u := g.2.1.1
  have u1 : u ≤ 10 := g.2.1.2
  have n0m := zMo_hm1 hM (k := 0) (by decide) zMo_h1
  have n3m := zMo_hm1 hM (k := 3) (by decide) zMo_h1
  refine zF_aload_n 1 dX12_change_0 rfl rfl ?_
  refine zF_callV 4 (d2 := (d + 11)) (as := []) dX12_change_1 rfl kX12_292 iX12_record (ci := 12) rfl eX12_record (Nat.le_refl _) hM.1 hM.2.1 rfl rfl (Nat.le_of_ble_eq_true rfl) (zE.mono (zt_X12_record hM hu u0 u1) fun ro σa1 hh1 => ?_)
  obtain ⟨er1, fr1, p1⟩ := hh1
  subst er1
  refine ⟨fr1.1, ?_⟩
  show zF G mX12_change (d + 12) 4 [(0, zR hm), (1, zI j), (2, zI v)] [] σa1 _
  have hMa1 := zMo_f2 fr1 hM
  have hNa1 : zia σa1 (A 0) = N := (fr1.at fun j q => q.elim (zMo_ne hM (j := 0) (k := 3) (by decide) (by decide) (by decide)) (fun q => n0m q.1)).trans hN
  have hha1 := mHr_rec hN hQ.z hh u0 u1 ⟨fr1, p1⟩
  refine zF_aload_n 5 dX12_change_4 rfl rfl ?_
  refine zF_getR 8 dX12_change_5 rfl gX12_9 hMa1.1 hMa1.2.1 (zM_0 hMa1).1 ?_
  refine zF_iload_n 9 dX12_change_8 rfl rfl ?_
  refine zF_iaload 10 dX12_change_9 rfl (zM_0 hMa1).2.2 (zM_0 hMa1).2.1 (by omega) (by omega) (congrFun hNa1 _) ?_
  refine zF_istore_n 11 (ls' := [(3, zI (N j)), (0, zR hm), (1, zI j), (2, zI v)]) dX12_change_10 rfl (by decide) rfl ?_
  refine zF_aload_n 12 dX12_change_11 rfl rfl ?_
  refine zF_getR 15 dX12_change_12 rfl gX12_9 hMa1.1 hMa1.2.1 (zM_0 hMa1).1 ?_
  refine zF_iload_n 16 dX12_change_15 rfl rfl ?_
  refine zF_iload_n 17 dX12_change_16 rfl rfl ?_
  refine zF_iastore 18 dX12_change_17 rfl (zM_0 hMa1).2.2 (zM_0 hMa1).2.1 (by omega) (by omega) ?_
  refine zF_iload_n 19 dX12_change_18 rfl rfl ?_
  exact zF_ireturn dX12_change_19 rfl (⟨rfl, (mMi_A (k := 0) (by decide) (mMi_C zFr.rf fr1)), (mSet_mem hNa1), (zMo_AF (j := 0) p1.1 hMa1 (by decide) zMo_h1), (mHr_si hha1 (zMo_ne hM (j := 3) (k := 0) (by decide) (by decide) (by decide)))⟩)
theorem zt_X12_setHoldover {H : Int → Int → Int} {u T : Int} {h v : Int} (hM : zMo σ hm A) (hS : mST (N, H, u) σ hm A) (g : gS T (N, H, u)) (zrh : zrg h) (zrv : zrg v) : zE G mX12_setHoldover (d + 16) [zR hm, zI h, zI v] σ (mopM (if 0 ≤ h ∧ h < N 0 then if 1 ≤ v ∧ v ≤ 100 then 0 else 2 else 1) (mH N h 1) (N, H, u) (sRec (N, H, u) (mSet N (6 + 2 * h + 1) v)) hm A σ) := by
  refine zE_of rfl (by simp [zcat]) (Nat.le_of_ble_eq_true rfl) ?_
  show zF G mX12_setHoldover (d + 16) 0 [(0, zR hm), (1, zI h), (2, zI v)] [] σ _
  obtain ⟨hN, hu, hh⟩ := hS
  have hN : zia σ (A 0) = N := hN
  have hu : zia σ hm ((4 : Nat) : Int) = u := hu
  have hh : mHr H u σ A := hh
  have gn : gN T N := g.n
  have hV := gn.v
  have hW := gn.w
  have hX := gn.x
  have hQ := gn.q
  have hb := hV.b
  have hn := hV.n
  have u0 : 0 ≤ u := g.2.1.1
  have u1 : u ≤ 10 := g.2.1.2
  have n0m := zMo_hm1 hM (k := 0) (by decide) zMo_h1
  have n3m := zMo_hm1 hM (k := 3) (by decide) zMo_h1
  refine zF_aload_n 1 dX12_setHoldover_0 rfl rfl ?_
  refine zF_aload_n 2 dX12_setHoldover_1 rfl rfl ?_
  refine zF_iload_n 3 dX12_setHoldover_2 rfl rfl ?_
  refine zF_callVi 6 (d2 := (d + 15)) (as := [zI h]) dX12_setHoldover_3 rfl kX12_241 iX12_isHouse (ci := 12) rfl eX12_isHouse (Nat.le_refl _) hM.1 hM.2.1 rfl rfl (Nat.le_of_ble_eq_true rfl) (zn_X12_isHouse hM hN (by first | decide | assumption | exact hb _ | exact mSh_rg hb _ _ | exact zb_rg _ | (constructor <;> omega)) (by omega) (by omega)) ?_
  refine zF_ifb_ne 13 9 dX12_setHoldover_6 rfl rfl (fun c1 => ?_) (fun c1 => ?_)
  · refine zF_iload_n 14 dX12_setHoldover_13 rfl rfl ?_
    refine zF_iconst 15 dX12_setHoldover_14 rfl ?_
    refine zF_bipush 17 dX12_setHoldover_15 rfl (by decide) ?_
    refine zF_callSi 20 (d2 := (d + 15)) (as := [zI v, zI 1, zI 100]) dX12_setHoldover_17 rfl kX12_109 sX12_inRange (Nat.le_refl _) rfl rfl (Nat.le_of_ble_eq_true rfl) (zt_X12_inRange (by first | decide | assumption | exact hb _ | exact mSh_rg hb _ _ | exact zb_rg _ | (constructor <;> omega)) (by first | decide | assumption | exact hb _ | exact mSh_rg hb _ _ | exact zb_rg _ | (constructor <;> omega)) (by first | decide | assumption | exact hb _ | exact mSh_rg hb _ _ | exact zb_rg _ | (constructor <;> omega))) ?_
    refine zF_ifb_eq 27 23 dX12_setHoldover_20 rfl rfl (fun c2 => ?_) (fun c2 => ?_)
    · refine zF_iconst 28 dX12_setHoldover_27 rfl ?_
      refine zF_putI 31 dX12_setHoldover_28 rfl pX12_setHoldover_89 (Or.inl rfl) hM.1 hM.2.1 ?_
      refine zF_aload_n 32 dX12_setHoldover_31 rfl rfl ?_
      refine zF_getI 35 dX12_setHoldover_32 rfl gX12_89 (by decide) (by decide) hM.1 hM.2.1 (zsi_same _ _ _ _) ?_
      refine zF_if_ne 51 38 dX12_setHoldover_35 rfl rfl (by first | decide | assumption | exact hb _ | exact mSh_rg hb _ _ | exact zb_rg _ | (constructor <;> omega)) (fun c3 => ?_) (fun c3 => ?_)
      · refine zF_iconst 52 dX12_setHoldover_51 rfl ?_
        exact zF_ireturn dX12_setHoldover_52 rfl (mopMT (mMu5 zFr.rf) (zsi_same _ _ _ _) (by repeat (first | rw [if_pos (by omega)] | rw [if_neg (by omega)])) (by decide) ⟨(zMo_hN (k := 0) hN hM (by decide) zMo_h1), (zsi_F (by decide) hu), (mHr_si hh n3m)⟩)
      · exact absurd c3 (by decide)
    · refine zF_iconst 24 dX12_setHoldover_23 rfl ?_
      refine zF_goto 28 dX12_setHoldover_24 rfl ?_
      refine zF_putI 31 dX12_setHoldover_28 rfl pX12_setHoldover_89 (Or.inl rfl) hM.1 hM.2.1 ?_
      refine zF_aload_n 32 dX12_setHoldover_31 rfl rfl ?_
      refine zF_getI 35 dX12_setHoldover_32 rfl gX12_89 (by decide) (by decide) hM.1 hM.2.1 (zsi_same _ _ _ _) ?_
      refine zF_if_ne 51 38 dX12_setHoldover_35 rfl rfl (by first | decide | assumption | exact hb _ | exact mSh_rg hb _ _ | exact zb_rg _ | (constructor <;> omega)) (fun c4 => ?_) (fun c4 => ?_)
      · exact absurd c4 (by decide)
      · refine zF_aload_n 39 dX12_setHoldover_38 rfl rfl ?_
        refine zF_iload_n 40 dX12_setHoldover_39 rfl rfl ?_
        refine zF_iconst 41 dX12_setHoldover_40 rfl ?_
        refine zF_callSi 44 (d2 := (d + 15)) (as := [zI h, zI 1]) dX12_setHoldover_41 rfl kX12_92 sX12_houseAt (Nat.le_refl _) rfl rfl (Nat.le_of_ble_eq_true rfl) (zt_X12_houseAt) ?_
        refine zF_iload_n 45 dX12_setHoldover_44 rfl rfl ?_
        refine zF_callV 48 (d2 := (d + 15)) (as := [zI (6 + 2 * h + 1), zI v]) dX12_setHoldover_45 rfl kX12_308 iX12_change (ci := 12) rfl eX12_change (Nat.le_refl _) hM.1 hM.2.1 rfl rfl (Nat.le_of_ble_eq_true rfl) (zE.mono (zt_X12_change (σ := (zsi σ hm ((5 : Nat) : Int) 0)) (j := (6 + 2 * h + 1)) (v := v) hM ⟨(zMo_hN (k := 0) hN hM (by decide) zMo_h1), (zsi_F (by decide) hu), (mHr_si hh n3m)⟩ g (by omega) (by omega)) fun ro σa1 hh1 => ?_)
        obtain ⟨er1, fr1, p1⟩ := hh1
        subst er1
        refine ⟨fr1.1, ?_⟩
        show zF G mX12_setHoldover (d + 16) 48 [(0, zR hm), (1, zI h), (2, zI v)] [zI (N (6 + 2 * h + 1))] σa1 _
        have hMa1 := zMo_f2 fr1 hM
        refine zF_goto 52 dX12_setHoldover_48 rfl ?_
        exact zF_ireturn dX12_setHoldover_52 rfl (mopMR ((mMu5 zFr.rf).tr (mMi_mu fr1)) (zFr_F fr1 (mMi_5 hM (by decide)) (zsi_same _ _ _ _)) (by repeat (first | rw [if_pos (by omega)] | rw [if_neg (by omega)])) (rfl) (S1 := (sRec (N, H, u) (mSet N (6 + 2 * h + 1) v))) (rfl) ⟨p1.1, p1.2.1, p1.2.2⟩)
  · refine zF_iconst 10 dX12_setHoldover_9 rfl ?_
    refine zF_goto 28 dX12_setHoldover_10 rfl ?_
    refine zF_putI 31 dX12_setHoldover_28 rfl pX12_setHoldover_89 (Or.inl rfl) hM.1 hM.2.1 ?_
    refine zF_aload_n 32 dX12_setHoldover_31 rfl rfl ?_
    refine zF_getI 35 dX12_setHoldover_32 rfl gX12_89 (by decide) (by decide) hM.1 hM.2.1 (zsi_same _ _ _ _) ?_
    refine zF_if_ne 51 38 dX12_setHoldover_35 rfl rfl (by first | decide | assumption | exact hb _ | exact mSh_rg hb _ _ | exact zb_rg _ | (constructor <;> omega)) (fun c5 => ?_) (fun c5 => ?_)
    · refine zF_iconst 52 dX12_setHoldover_51 rfl ?_
      exact zF_ireturn dX12_setHoldover_52 rfl (mopMT (mMu5 zFr.rf) (zsi_same _ _ _ _) (by repeat (first | rw [if_pos (by omega)] | rw [if_neg (by omega)])) (by decide) ⟨(zMo_hN (k := 0) hN hM (by decide) zMo_h1), (zsi_F (by decide) hu), (mHr_si hh n3m)⟩)
    · exact absurd c5 (by decide)
theorem zt_X12_setRent {H : Int → Int → Int} {u T : Int} {s v : Int} (hM : zMo σ hm A) (hS : mST (N, H, u) σ hm A) (g : gS T (N, H, u)) (zrs : zrg s) (zrv : zrg v) : zE G mX12_setRent (d + 16) [zR hm, zI s, zI v] σ (mopM (if 0 ≤ s ∧ s < N 1 then if 0 ≤ v ∧ v ≤ 9999 then 0 else 2 else 1) (mS N s 3) (N, H, u) (sRec (N, H, u) (mSet N (14 + 8 * s + 3) v)) hm A σ) := by
  refine zE_of rfl (by simp [zcat]) (Nat.le_of_ble_eq_true rfl) ?_
  show zF G mX12_setRent (d + 16) 0 [(0, zR hm), (1, zI s), (2, zI v)] [] σ _
  obtain ⟨hN, hu, hh⟩ := hS
  have hN : zia σ (A 0) = N := hN
  have hu : zia σ hm ((4 : Nat) : Int) = u := hu
  have hh : mHr H u σ A := hh
  have gn : gN T N := g.n
  have hV := gn.v
  have hW := gn.w
  have hX := gn.x
  have hQ := gn.q
  have hb := hV.b
  have hn := hV.n
  have u0 : 0 ≤ u := g.2.1.1
  have u1 : u ≤ 10 := g.2.1.2
  have n0m := zMo_hm1 hM (k := 0) (by decide) zMo_h1
  have n3m := zMo_hm1 hM (k := 3) (by decide) zMo_h1
  refine zF_aload_n 1 dX12_setRent_0 rfl rfl ?_
  refine zF_aload_n 2 dX12_setRent_1 rfl rfl ?_
  refine zF_iload_n 3 dX12_setRent_2 rfl rfl ?_
  refine zF_callVi 6 (d2 := (d + 15)) (as := [zI s]) dX12_setRent_3 rfl kX12_256 iX12_isScreen (ci := 12) rfl eX12_isScreen (Nat.le_refl _) hM.1 hM.2.1 rfl rfl (Nat.le_of_ble_eq_true rfl) (zn_X12_isScreen hM hN (by first | decide | assumption | exact hb _ | exact mSh_rg hb _ _ | exact zb_rg _ | (constructor <;> omega)) (by omega) (by omega)) ?_
  refine zF_ifb_ne 13 9 dX12_setRent_6 rfl rfl (fun c1 => ?_) (fun c1 => ?_)
  · refine zF_iload_n 14 dX12_setRent_13 rfl rfl ?_
    refine zF_iconst 15 dX12_setRent_14 rfl ?_
    refine zF_sipush 18 dX12_setRent_15 rfl (by decide) ?_
    refine zF_callSi 21 (d2 := (d + 15)) (as := [zI v, zI 0, zI 9999]) dX12_setRent_18 rfl kX12_109 sX12_inRange (Nat.le_refl _) rfl rfl (Nat.le_of_ble_eq_true rfl) (zt_X12_inRange (by first | decide | assumption | exact hb _ | exact mSh_rg hb _ _ | exact zb_rg _ | (constructor <;> omega)) (by first | decide | assumption | exact hb _ | exact mSh_rg hb _ _ | exact zb_rg _ | (constructor <;> omega)) (by first | decide | assumption | exact hb _ | exact mSh_rg hb _ _ | exact zb_rg _ | (constructor <;> omega))) ?_
    refine zF_ifb_eq 28 24 dX12_setRent_21 rfl rfl (fun c2 => ?_) (fun c2 => ?_)
    · refine zF_iconst 29 dX12_setRent_28 rfl ?_
      refine zF_putI 32 dX12_setRent_29 rfl pX12_setRent_89 (Or.inl rfl) hM.1 hM.2.1 ?_
      refine zF_aload_n 33 dX12_setRent_32 rfl rfl ?_
      refine zF_getI 36 dX12_setRent_33 rfl gX12_89 (by decide) (by decide) hM.1 hM.2.1 (zsi_same _ _ _ _) ?_
      refine zF_if_ne 52 39 dX12_setRent_36 rfl rfl (by first | decide | assumption | exact hb _ | exact mSh_rg hb _ _ | exact zb_rg _ | (constructor <;> omega)) (fun c3 => ?_) (fun c3 => ?_)
      · refine zF_iconst 53 dX12_setRent_52 rfl ?_
        exact zF_ireturn dX12_setRent_53 rfl (mopMT (mMu5 zFr.rf) (zsi_same _ _ _ _) (by repeat (first | rw [if_pos (by omega)] | rw [if_neg (by omega)])) (by decide) ⟨(zMo_hN (k := 0) hN hM (by decide) zMo_h1), (zsi_F (by decide) hu), (mHr_si hh n3m)⟩)
      · exact absurd c3 (by decide)
    · refine zF_iconst 25 dX12_setRent_24 rfl ?_
      refine zF_goto 29 dX12_setRent_25 rfl ?_
      refine zF_putI 32 dX12_setRent_29 rfl pX12_setRent_89 (Or.inl rfl) hM.1 hM.2.1 ?_
      refine zF_aload_n 33 dX12_setRent_32 rfl rfl ?_
      refine zF_getI 36 dX12_setRent_33 rfl gX12_89 (by decide) (by decide) hM.1 hM.2.1 (zsi_same _ _ _ _) ?_
      refine zF_if_ne 52 39 dX12_setRent_36 rfl rfl (by first | decide | assumption | exact hb _ | exact mSh_rg hb _ _ | exact zb_rg _ | (constructor <;> omega)) (fun c4 => ?_) (fun c4 => ?_)
      · exact absurd c4 (by decide)
      · refine zF_aload_n 40 dX12_setRent_39 rfl rfl ?_
        refine zF_iload_n 41 dX12_setRent_40 rfl rfl ?_
        refine zF_iconst 42 dX12_setRent_41 rfl ?_
        refine zF_callSi 45 (d2 := (d + 15)) (as := [zI s, zI 3]) dX12_setRent_42 rfl kX12_96 sX12_screenAt (Nat.le_refl _) rfl rfl (Nat.le_of_ble_eq_true rfl) (zt_X12_screenAt) ?_
        refine zF_iload_n 46 dX12_setRent_45 rfl rfl ?_
        refine zF_callV 49 (d2 := (d + 15)) (as := [zI (14 + 8 * s + 3), zI v]) dX12_setRent_46 rfl kX12_308 iX12_change (ci := 12) rfl eX12_change (Nat.le_refl _) hM.1 hM.2.1 rfl rfl (Nat.le_of_ble_eq_true rfl) (zE.mono (zt_X12_change (σ := (zsi σ hm ((5 : Nat) : Int) 0)) (j := (14 + 8 * s + 3)) (v := v) hM ⟨(zMo_hN (k := 0) hN hM (by decide) zMo_h1), (zsi_F (by decide) hu), (mHr_si hh n3m)⟩ g (by omega) (by omega)) fun ro σa1 hh1 => ?_)
        obtain ⟨er1, fr1, p1⟩ := hh1
        subst er1
        refine ⟨fr1.1, ?_⟩
        show zF G mX12_setRent (d + 16) 49 [(0, zR hm), (1, zI s), (2, zI v)] [zI (N (14 + 8 * s + 3))] σa1 _
        have hMa1 := zMo_f2 fr1 hM
        refine zF_goto 53 dX12_setRent_49 rfl ?_
        exact zF_ireturn dX12_setRent_53 rfl (mopMR ((mMu5 zFr.rf).tr (mMi_mu fr1)) (zFr_F fr1 (mMi_5 hM (by decide)) (zsi_same _ _ _ _)) (by repeat (first | rw [if_pos (by omega)] | rw [if_neg (by omega)])) (rfl) (S1 := (sRec (N, H, u) (mSet N (14 + 8 * s + 3) v))) (rfl) ⟨p1.1, p1.2.1, p1.2.2⟩)
  · refine zF_iconst 10 dX12_setRent_9 rfl ?_
    refine zF_goto 29 dX12_setRent_10 rfl ?_
    refine zF_putI 32 dX12_setRent_29 rfl pX12_setRent_89 (Or.inl rfl) hM.1 hM.2.1 ?_
    refine zF_aload_n 33 dX12_setRent_32 rfl rfl ?_
    refine zF_getI 36 dX12_setRent_33 rfl gX12_89 (by decide) (by decide) hM.1 hM.2.1 (zsi_same _ _ _ _) ?_
    refine zF_if_ne 52 39 dX12_setRent_36 rfl rfl (by first | decide | assumption | exact hb _ | exact mSh_rg hb _ _ | exact zb_rg _ | (constructor <;> omega)) (fun c5 => ?_) (fun c5 => ?_)
    · refine zF_iconst 53 dX12_setRent_52 rfl ?_
      exact zF_ireturn dX12_setRent_53 rfl (mopMT (mMu5 zFr.rf) (zsi_same _ _ _ _) (by repeat (first | rw [if_pos (by omega)] | rw [if_neg (by omega)])) (by decide) ⟨(zMo_hN (k := 0) hN hM (by decide) zMo_h1), (zsi_F (by decide) hu), (mHr_si hh n3m)⟩)
    · exact absurd c5 (by decide)
theorem zt_X12_setFee {H : Int → Int → Int} {u T : Int} {v : Int} (hM : zMo σ hm A) (hS : mST (N, H, u) σ hm A) (g : gS T (N, H, u)) (zrv : zrg v) : zE G mX12_setFee (d + 16) [zR hm, zI v] σ (mopM (if 0 ≤ v ∧ v ≤ 999 then 0 else 1) (N 4) (N, H, u) (sRec (N, H, u) (mSet N 4 v)) hm A σ) := by
  refine zE_of rfl (by simp [zcat]) (Nat.le_of_ble_eq_true rfl) ?_
  show zF G mX12_setFee (d + 16) 0 [(0, zR hm), (1, zI v)] [] σ _
  obtain ⟨hN, hu, hh⟩ := hS
  have hN : zia σ (A 0) = N := hN
  have hu : zia σ hm ((4 : Nat) : Int) = u := hu
  have hh : mHr H u σ A := hh
  have gn : gN T N := g.n
  have hV := gn.v
  have hW := gn.w
  have hX := gn.x
  have hQ := gn.q
  have hb := hV.b
  have hn := hV.n
  have u0 : 0 ≤ u := g.2.1.1
  have u1 : u ≤ 10 := g.2.1.2
  have n0m := zMo_hm1 hM (k := 0) (by decide) zMo_h1
  have n3m := zMo_hm1 hM (k := 3) (by decide) zMo_h1
  refine zF_aload_n 1 dX12_setFee_0 rfl rfl ?_
  refine zF_iconst 2 dX12_setFee_1 rfl ?_
  refine zF_putI 5 dX12_setFee_2 rfl pX12_setFee_89 (Or.inl rfl) hM.1 hM.2.1 ?_
  refine zF_iload_n 6 dX12_setFee_5 rfl rfl ?_
  refine zF_iconst 7 dX12_setFee_6 rfl ?_
  refine zF_sipush 10 dX12_setFee_7 rfl (by decide) ?_
  refine zF_callSi 13 (d2 := (d + 15)) (as := [zI v, zI 0, zI 999]) dX12_setFee_10 rfl kX12_109 sX12_inRange (Nat.le_refl _) rfl rfl (Nat.le_of_ble_eq_true rfl) (zt_X12_inRange (by first | decide | assumption | exact hb _ | exact mSh_rg hb _ _ | exact zb_rg _ | (constructor <;> omega)) (by first | decide | assumption | exact hb _ | exact mSh_rg hb _ _ | exact zb_rg _ | (constructor <;> omega)) (by first | decide | assumption | exact hb _ | exact mSh_rg hb _ _ | exact zb_rg _ | (constructor <;> omega))) ?_
  refine zF_ifb_eq 25 16 dX12_setFee_13 rfl rfl (fun c1 => ?_) (fun c1 => ?_)
  · refine zF_aload_n 26 dX12_setFee_25 rfl rfl ?_
    refine zF_iconst 27 dX12_setFee_26 rfl ?_
    refine zF_callV 30 (d2 := (d + 15)) (as := [zI 1]) dX12_setFee_27 rfl kX12_238 iX12_raise (ci := 12) rfl eX12_raise (Nat.le_refl _) hM.1 hM.2.1 rfl rfl (Nat.le_of_ble_eq_true rfl) (zE.mono (zt_X12_raise hM) fun ro σx1 hh1 => ?_)
    obtain ⟨er1, es1⟩ := hh1
    subst er1
    subst es1
    refine ⟨rfl, ?_⟩
    exact zF_ireturn dX12_setFee_30 rfl (mopMT (mMu5 (mMu5 zFr.rf)) (zsi_same _ _ _ _) (by repeat (first | rw [if_pos (by omega)] | rw [if_neg (by omega)])) (by decide) ⟨(zMo_hN (k := 0) (zMo_hN (k := 0) hN hM (by decide) zMo_h1) hM (by decide) zMo_h1), (zsi_F (by decide) (zsi_F (by decide) hu)), (mHr_si (mHr_si hh n3m) n3m)⟩)
  · refine zF_aload_n 17 dX12_setFee_16 rfl rfl ?_
    refine zF_iconst 18 dX12_setFee_17 rfl ?_
    refine zF_iload_n 19 dX12_setFee_18 rfl rfl ?_
    refine zF_callV 22 (d2 := (d + 15)) (as := [zI 4, zI v]) dX12_setFee_19 rfl kX12_308 iX12_change (ci := 12) rfl eX12_change (Nat.le_refl _) hM.1 hM.2.1 rfl rfl (Nat.le_of_ble_eq_true rfl) (zE.mono (zt_X12_change (σ := (zsi σ hm ((5 : Nat) : Int) 0)) (j := 4) (v := v) hM ⟨(zMo_hN (k := 0) hN hM (by decide) zMo_h1), (zsi_F (by decide) hu), (mHr_si hh n3m)⟩ g (by omega) (by omega)) fun ro σa2 hh2 => ?_)
    obtain ⟨er2, fr2, p2⟩ := hh2
    subst er2
    refine ⟨fr2.1, ?_⟩
    show zF G mX12_setFee (d + 16) 22 [(0, zR hm), (1, zI v)] [zI (N 4)] σa2 _
    have hMa2 := zMo_f2 fr2 hM
    refine zF_goto 30 dX12_setFee_22 rfl ?_
    exact zF_ireturn dX12_setFee_30 rfl (mopMR ((mMu5 zFr.rf).tr (mMi_mu fr2)) (zFr_F fr2 (mMi_5 hM (by decide)) (zsi_same _ _ _ _)) (by repeat (first | rw [if_pos (by omega)] | rw [if_neg (by omega)])) (rfl) (S1 := (sRec (N, H, u) (mSet N 4 v))) (rfl) ⟨p2.1, p2.2.1, p2.2.2⟩)
theorem zt_X12_move {H : Int → Int → Int} {u T : Int} {f p q : Int} (hM : zMo σ hm A) (hS : mST (N, H, u) σ hm A) (g : gS T (N, H, u)) (zrf : zrg f) (zrp : zrg p) (zrq : zrg q) : zE G mX12_move (d + 16) [zR hm, zI f, zI p, zI q] σ (mopM (if 0 ≤ f ∧ f < N 2 then if -1 ≤ p ∧ p < N 0 then if -1 ≤ q ∧ q < N 0 then if p ≠ q then 0 else 2 else 1 else 1 else 1) (oMvV N f p q) (N, H, u) (oMvS (N, H, u) f p q) hm A σ) := by
  refine zE_of rfl (by simp [zcat]) (Nat.le_of_ble_eq_true rfl) ?_
  show zF G mX12_move (d + 16) 0 [(0, zR hm), (1, zI f), (2, zI p), (3, zI q)] [] σ _
  obtain ⟨hN, hu, hh⟩ := hS
  have hN : zia σ (A 0) = N := hN
  have hu : zia σ hm ((4 : Nat) : Int) = u := hu
  have hh : mHr H u σ A := hh
  have gn : gN T N := g.n
  have hV := gn.v
  have hW := gn.w
  have hX := gn.x
  have hQ := gn.q
  have hb := hV.b
  have hn := hV.n
  have u0 : 0 ≤ u := g.2.1.1
  have u1 : u ≤ 10 := g.2.1.2
  have n0m := zMo_hm1 hM (k := 0) (by decide) zMo_h1
  have n3m := zMo_hm1 hM (k := 3) (by decide) zMo_h1
  refine zF_aload_n 1 dX12_move_0 rfl rfl ?_
  refine zF_aload_n 2 dX12_move_1 rfl rfl ?_
  refine zF_iload_n 3 dX12_move_2 rfl rfl ?_
  refine zF_callVi 6 (d2 := (d + 15)) (as := [zI f]) dX12_move_3 rfl kX12_262 iX12_isFilm (ci := 12) rfl eX12_isFilm (Nat.le_refl _) hM.1 hM.2.1 rfl rfl (Nat.le_of_ble_eq_true rfl) (zn_X12_isFilm hM hN (by first | decide | assumption | exact hb _ | exact mSh_rg hb _ _ | exact zb_rg _ | (constructor <;> omega)) (by omega) (by omega)) ?_
  refine zF_ifb_eq 25 9 dX12_move_6 rfl rfl (fun c1 => ?_) (fun c1 => ?_)
  · refine zF_iconst 26 dX12_move_25 rfl ?_
    refine zF_goto 39 dX12_move_26 rfl ?_
    refine zF_putI 42 dX12_move_39 rfl pX12_move_89 (Or.inl rfl) hM.1 hM.2.1 ?_
    refine zF_aload_n 43 dX12_move_42 rfl rfl ?_
    refine zF_getI 46 dX12_move_43 rfl gX12_89 (by decide) (by decide) hM.1 hM.2.1 (zsi_same _ _ _ _) ?_
    refine zF_if_eq 51 49 dX12_move_46 rfl rfl (by first | decide | assumption | exact hb _ | exact mSh_rg hb _ _ | exact zb_rg _ | (constructor <;> omega)) (fun c2 => ?_) (fun c2 => ?_)
    · exact absurd c2 (by decide)
    · refine zF_iconst 50 dX12_move_49 rfl ?_
      exact zF_ireturn dX12_move_50 rfl (mopMT (mMu5 zFr.rf) (zsi_same _ _ _ _) (by repeat (first | rw [if_pos (by omega)] | rw [if_neg (by omega)])) (by decide) ⟨(zMo_hN (k := 0) hN hM (by decide) zMo_h1), (zsi_F (by decide) hu), (mHr_si hh n3m)⟩)
  · refine zF_aload_n 10 dX12_move_9 rfl rfl ?_
    refine zF_iload_n 11 dX12_move_10 rfl rfl ?_
    refine zF_callVi 14 (d2 := (d + 15)) (as := [zI p]) dX12_move_11 rfl kX12_265 iX12_isPlace (ci := 12) rfl eX12_isPlace (Nat.le_refl _) hM.1 hM.2.1 rfl rfl (Nat.le_of_ble_eq_true rfl) (zn_X12_isPlace hM hN (by first | decide | assumption | exact hb _ | exact mSh_rg hb _ _ | exact zb_rg _ | (constructor <;> omega)) (by omega) (by omega)) ?_
    refine zF_ifb_eq 25 17 dX12_move_14 rfl rfl (fun c3 => ?_) (fun c3 => ?_)
    · refine zF_iconst 26 dX12_move_25 rfl ?_
      refine zF_goto 39 dX12_move_26 rfl ?_
      refine zF_putI 42 dX12_move_39 rfl pX12_move_89 (Or.inl rfl) hM.1 hM.2.1 ?_
      refine zF_aload_n 43 dX12_move_42 rfl rfl ?_
      refine zF_getI 46 dX12_move_43 rfl gX12_89 (by decide) (by decide) hM.1 hM.2.1 (zsi_same _ _ _ _) ?_
      refine zF_if_eq 51 49 dX12_move_46 rfl rfl (by first | decide | assumption | exact hb _ | exact mSh_rg hb _ _ | exact zb_rg _ | (constructor <;> omega)) (fun c4 => ?_) (fun c4 => ?_)
      · exact absurd c4 (by decide)
      · refine zF_iconst 50 dX12_move_49 rfl ?_
        exact zF_ireturn dX12_move_50 rfl (mopMT (mMu5 zFr.rf) (zsi_same _ _ _ _) (by repeat (first | rw [if_pos (by omega)] | rw [if_neg (by omega)])) (by decide) ⟨(zMo_hN (k := 0) hN hM (by decide) zMo_h1), (zsi_F (by decide) hu), (mHr_si hh n3m)⟩)
    · refine zF_aload_n 18 dX12_move_17 rfl rfl ?_
      refine zF_iload_n 19 dX12_move_18 rfl rfl ?_
      refine zF_callVi 22 (d2 := (d + 15)) (as := [zI q]) dX12_move_19 rfl kX12_265 iX12_isPlace (ci := 12) rfl eX12_isPlace (Nat.le_refl _) hM.1 hM.2.1 rfl rfl (Nat.le_of_ble_eq_true rfl) (zn_X12_isPlace hM hN (by first | decide | assumption | exact hb _ | exact mSh_rg hb _ _ | exact zb_rg _ | (constructor <;> omega)) (by omega) (by omega)) ?_
      refine zF_ifb_ne 29 25 dX12_move_22 rfl rfl (fun c5 => ?_) (fun c5 => ?_)
      · refine zF_iload_n 30 dX12_move_29 rfl rfl ?_
        refine zF_iload_n 31 dX12_move_30 rfl rfl ?_
        refine zF_icmp_eq 38 34 dX12_move_31 rfl rfl (by first | decide | assumption | exact hb _ | exact mSh_rg hb _ _ | exact zb_rg _ | (constructor <;> omega)) (by first | decide | assumption | exact hb _ | exact mSh_rg hb _ _ | exact zb_rg _ | (constructor <;> omega)) (fun c6 => ?_) (fun c6 => ?_)
        · refine zF_iconst 39 dX12_move_38 rfl ?_
          refine zF_putI 42 dX12_move_39 rfl pX12_move_89 (Or.inl rfl) hM.1 hM.2.1 ?_
          refine zF_aload_n 43 dX12_move_42 rfl rfl ?_
          refine zF_getI 46 dX12_move_43 rfl gX12_89 (by decide) (by decide) hM.1 hM.2.1 (zsi_same _ _ _ _) ?_
          refine zF_if_eq 51 49 dX12_move_46 rfl rfl (by first | decide | assumption | exact hb _ | exact mSh_rg hb _ _ | exact zb_rg _ | (constructor <;> omega)) (fun c7 => ?_) (fun c7 => ?_)
          · exact absurd c7 (by decide)
          · refine zF_iconst 50 dX12_move_49 rfl ?_
            exact zF_ireturn dX12_move_50 rfl (mopMT (mMu5 zFr.rf) (zsi_same _ _ _ _) (by repeat (first | rw [if_pos (by omega)] | rw [if_neg (by omega)])) (by decide) ⟨(zMo_hN (k := 0) hN hM (by decide) zMo_h1), (zsi_F (by decide) hu), (mHr_si hh n3m)⟩)
        · refine zF_iconst 35 dX12_move_34 rfl ?_
          refine zF_goto 39 dX12_move_35 rfl ?_
          refine zF_putI 42 dX12_move_39 rfl pX12_move_89 (Or.inl rfl) hM.1 hM.2.1 ?_
          refine zF_aload_n 43 dX12_move_42 rfl rfl ?_
          refine zF_getI 46 dX12_move_43 rfl gX12_89 (by decide) (by decide) hM.1 hM.2.1 (zsi_same _ _ _ _) ?_
          refine zF_if_eq 51 49 dX12_move_46 rfl rfl (by first | decide | assumption | exact hb _ | exact mSh_rg hb _ _ | exact zb_rg _ | (constructor <;> omega)) (fun c8 => ?_) (fun c8 => ?_)
          · have qp := hV.p f p (by omega) (by omega) (by omega) (by omega)
            have qq := hV.p f q (by omega) (by omega) (by omega) (by omega)
            have qd := mNeed_b hV p f 7
            have qd2 : mNeed N p f = mNeedN N p f 7 := rfl
            have qz : p ≠ -1 → mNeed N p f ≤ mP N f p := fun z => hQ.p p f (by omega) (by omega) (by omega) (by omega)
            have qz2 : p = -1 ∨ (p ≠ -1 ∧ mNeed N p f ≤ mP N f p) := by by_cases z : p = -1; exact Or.inl z; exact Or.inr ⟨z, qz z⟩
            refine zF_aload_n 52 dX12_move_51 rfl rfl ?_
            refine zF_iload_n 53 dX12_move_52 rfl rfl ?_
            refine zF_iload_n 54 dX12_move_53 rfl rfl ?_
            refine zF_callVi 57 (d2 := (d + 15)) (as := [zI f, zI p]) dX12_move_54 rfl kX12_202 iX12_printsOf (ci := 12) rfl eX12_printsOf (Nat.le_refl _) hM.1 hM.2.1 rfl rfl (Nat.le_of_ble_eq_true rfl) (zn_X12_printsOf hM (zMo_hN (k := 0) hN hM (by decide) zMo_h1) (by omega) (by omega)) ?_
            refine zF_if_ne 63 60 dX12_move_57 rfl rfl (by first | decide | assumption | exact hb _ | exact mSh_rg hb _ _ | exact zb_rg _ | (constructor <;> omega)) (fun c9 => ?_) (fun c9 => ?_)
            · refine zF_iload_n 64 dX12_move_63 rfl rfl ?_
              refine zF_iconst 65 dX12_move_64 rfl ?_
              refine zF_icmp_eq 86 68 dX12_move_65 rfl rfl (by first | decide | assumption | exact hb _ | exact mSh_rg hb _ _ | exact zb_rg _ | (constructor <;> omega)) (by first | decide | assumption | exact hb _ | exact mSh_rg hb _ _ | exact zb_rg _ | (constructor <;> omega)) (fun c10 => ?_) (fun c10 => ?_)
              · refine zF_aload_n 87 dX12_move_86 rfl rfl ?_
                refine zF_iload_n 88 dX12_move_87 rfl rfl ?_
                refine zF_iload_n 89 dX12_move_88 rfl rfl ?_
                refine zF_callVi 92 (d2 := (d + 15)) (as := [zI f, zI q]) dX12_move_89 rfl kX12_202 iX12_printsOf (ci := 12) rfl eX12_printsOf (Nat.le_refl _) hM.1 hM.2.1 rfl rfl (Nat.le_of_ble_eq_true rfl) (zn_X12_printsOf hM (zMo_hN (k := 0) hN hM (by decide) zMo_h1) (by omega) (by omega)) ?_
                refine zF_bipush 94 dX12_move_92 rfl (by decide) ?_
                refine zF_icmp_ne 100 97 dX12_move_94 rfl rfl (by first | decide | assumption | exact hb _ | exact mSh_rg hb _ _ | exact zb_rg _ | (constructor <;> omega)) (by first | decide | assumption | exact hb _ | exact mSh_rg hb _ _ | exact zb_rg _ | (constructor <;> omega)) (fun c11 => ?_) (fun c11 => ?_)
                · refine zF_aload_n 101 dX12_move_100 rfl rfl ?_
                  refine zF_callV 104 (d2 := (d + 15)) (as := []) dX12_move_101 rfl kX12_292 iX12_record (ci := 12) rfl eX12_record (Nat.le_refl _) hM.1 hM.2.1 rfl rfl (Nat.le_of_ble_eq_true rfl) (zE.mono (zt_X12_record hM (zsi_F (by decide) hu) u0 u1) fun ro σa1 hh1 => ?_)
                  obtain ⟨er1, fr1, p1⟩ := hh1
                  subst er1
                  refine ⟨fr1.1, ?_⟩
                  show zF G mX12_move (d + 16) 104 [(0, zR hm), (1, zI f), (2, zI p), (3, zI q)] [] σa1 _
                  have hMa1 := zMo_f2 fr1 hM
                  have hNa1 : zia σa1 (A 0) = N := (fr1.at fun j q => q.elim (zMo_ne hM (j := 0) (k := 3) (by decide) (by decide) (by decide)) (fun q => n0m q.1)).trans (zMo_hN (k := 0) hN hM (by decide) zMo_h1)
                  have hha1 := mHr_rec (zMo_hN (k := 0) hN hM (by decide) zMo_h1) hQ.z (mHr_si hh n3m) u0 u1 ⟨fr1, p1⟩
                  refine zF_aload_n 105 dX12_move_104 rfl rfl ?_
                  refine zF_getR 108 dX12_move_105 rfl gX12_9 hMa1.1 hMa1.2.1 (zM_0 hMa1).1 ?_
                  refine zF_iload_n 109 dX12_move_108 rfl rfl ?_
                  refine zF_iload_n 110 dX12_move_109 rfl rfl ?_
                  refine zF_callSi 113 (d2 := (d + 15)) (as := [zI f, zI p]) dX12_move_110 rfl kX12_102 sX12_printsAt (Nat.le_refl _) rfl rfl (Nat.le_of_ble_eq_true rfl) (zt_X12_printsAt) ?_
                  refine zF_dup2 114 dX12_move_113 rfl rfl rfl ?_
                  refine zF_iaload 115 dX12_move_114 rfl (zM_0 hMa1).2.2 (zM_0 hMa1).2.1 (by omega) (by omega) (congrFun hNa1 _) ?_
                  refine zF_iconst 116 dX12_move_115 rfl ?_
                  refine zF_isub 117 dX12_move_116 rfl ?_
                  refine zF_iastore 118 dX12_move_117 rfl (zM_0 hMa1).2.2 (zM_0 hMa1).2.1 (by omega) (by omega) ?_
                  refine zF_aload_n 119 dX12_move_118 rfl rfl ?_
                  refine zF_getR 122 dX12_move_119 rfl gX12_9 hMa1.1 hMa1.2.1 (zM_0 hMa1).1 ?_
                  refine zF_iload_n 123 dX12_move_122 rfl rfl ?_
                  refine zF_iload_n 124 dX12_move_123 rfl rfl ?_
                  refine zF_callSi 127 (d2 := (d + 15)) (as := [zI f, zI q]) dX12_move_124 rfl kX12_102 sX12_printsAt (Nat.le_refl _) rfl rfl (Nat.le_of_ble_eq_true rfl) (zt_X12_printsAt) ?_
                  refine zF_dup2 128 dX12_move_127 rfl rfl rfl ?_
                  refine zF_iaload 129 dX12_move_128 rfl (zM_0 hMa1).2.2 (zM_0 hMa1).2.1 (by omega) (by omega) (congrFun (mSet_mem hNa1) _) ?_
                  refine zF_iconst 130 dX12_move_129 rfl ?_
                  refine zF_iadd 131 dX12_move_130 rfl ?_
                  refine zF_iastore 132 dX12_move_131 rfl (zM_0 hMa1).2.2 (zM_0 hMa1).2.1 (by omega) (by omega) ?_
                  refine zF_aload_n 133 dX12_move_132 rfl rfl ?_
                  refine zF_getR 136 dX12_move_133 rfl gX12_9 hMa1.1 hMa1.2.1 (zM_0 hMa1).1 ?_
                  refine zF_iconst 137 dX12_move_136 rfl ?_
                  refine zF_dup2 138 dX12_move_137 rfl rfl rfl ?_
                  refine zF_iaload 139 dX12_move_138 rfl (zM_0 hMa1).2.2 (zM_0 hMa1).2.1 (by omega) (by omega) (congrFun (mSet_mem (mSet_mem hNa1)) _) ?_
                  refine zF_iconst 140 dX12_move_139 rfl ?_
                  refine zF_iadd 141 dX12_move_140 rfl ?_
                  refine zF_iastore 142 dX12_move_141 rfl (zM_0 hMa1).2.2 (zM_0 hMa1).2.1 (by omega) (by omega) ?_
                  have hmv : (mSet (mSet (mSet N (154 + 5 * f + p + 1) ((N (154 + 5 * f + p + 1)) - 1)) (154 + 5 * f + q + 1) (((mSet N (154 + 5 * f + p + 1) ((N (154 + 5 * f + p + 1)) - 1)) (154 + 5 * f + q + 1)) + 1)) 5 (((mSet (mSet N (154 + 5 * f + p + 1) ((N (154 + 5 * f + p + 1)) - 1)) (154 + 5 * f + q + 1) (((mSet N (154 + 5 * f + p + 1) ((N (154 + 5 * f + p + 1)) - 1)) (154 + 5 * f + q + 1)) + 1)) 5) + 1)) = mMv N f p q := mMv_eq (by assumption) ⟨by omega, by omega, by omega⟩ rfl rfl rfl
                  have hNm : zia (zsi (zsi (zsi σa1 (A 0) (154 + 5 * f + p + 1) ((N (154 + 5 * f + p + 1)) - 1)) (A 0) (154 + 5 * f + q + 1) (((mSet N (154 + 5 * f + p + 1) ((N (154 + 5 * f + p + 1)) - 1)) (154 + 5 * f + q + 1)) + 1)) (A 0) 5 (((mSet (mSet N (154 + 5 * f + p + 1) ((N (154 + 5 * f + p + 1)) - 1)) (154 + 5 * f + q + 1) (((mSet N (154 + 5 * f + p + 1) ((N (154 + 5 * f + p + 1)) - 1)) (154 + 5 * f + q + 1)) + 1)) 5) + 1)) (A 0) = mMv N f p q := (mSet_mem (mSet_mem (mSet_mem hNa1))).trans hmv
                  refine zF_aload_n 143 dX12_move_142 rfl rfl ?_
                  refine zF_iload_n 144 dX12_move_143 rfl rfl ?_
                  refine zF_iload_n 145 dX12_move_144 rfl rfl ?_
                  refine zF_callVi 148 (d2 := (d + 15)) (as := [zI f, zI q]) dX12_move_145 rfl kX12_202 iX12_printsOf (ci := 12) rfl eX12_printsOf (Nat.le_refl _) hMa1.1 hMa1.2.1 rfl rfl (Nat.le_of_ble_eq_true rfl) (zn_X12_printsOf hMa1 hNm (by omega) (by omega)) ?_
                  exact zF_ireturn dX12_move_148 rfl (mopMR (mMi_mu (mMi_A (k := 0) (by decide) zFr.rf) |> (zFr.tr (mMi_mu (mMi_A (k := 0) (by decide) zFr.rf) |> (zFr.tr (mMi_mu (mMi_A (k := 0) (by decide) zFr.rf) |> (zFr.tr ((mMu5 zFr.rf).tr (mMi_mu (mMi_C zFr.rf fr1))))))))) (zMo_AF (j := 0) (zMo_AF (j := 0) (zMo_AF (j := 0) (zFr_F fr1 (fun q => q.elim (fun q => n3m q.symm) (fun q => absurd q.2 (by decide))) (zsi_same _ _ _ _)) hMa1 (by decide) zMo_h1) hMa1 (by decide) zMo_h1) hMa1 (by decide) zMo_h1) (by repeat (first | rw [if_pos (by omega)] | rw [if_neg (by omega)])) (by unfold oMvV; first | (rw [if_pos (by omega)]; done) | (rw [if_neg (by omega), if_pos (by omega)]; done) | (rw [if_neg (by omega), if_neg (by omega), if_pos (by omega)]; done) | (rw [if_neg (by omega), if_neg (by omega), if_neg (by omega), mMv_p (by omega) (by omega) (by omega) (by omega) (by omega) (by assumption) (by omega) (by omega) (by omega), if_pos ⟨rfl, rfl⟩])) (S1 := sRec (N, H, u) (mMv N f p q)) (if_neg (by show ¬ (mP N f p = 0 ∨ (p ≠ -1 ∧ mP N f p ≤ mNeed N p f) ∨ 9 ≤ mP N f q); omega)) ⟨hNm, (zMo_AF (j := 0) (zMo_AF (j := 0) (zMo_AF (j := 0) p1.1 hMa1 (by decide) zMo_h1) hMa1 (by decide) zMo_h1) hMa1 (by decide) zMo_h1), (mHr_si (mHr_si (mHr_si hha1 (zMo_ne hM (j := 3) (k := 0) (by decide) (by decide) (by decide))) (zMo_ne hM (j := 3) (k := 0) (by decide) (by decide) (by decide))) (zMo_ne hM (j := 3) (k := 0) (by decide) (by decide) (by decide)))⟩)
                · refine zF_bipush 99 dX12_move_97 rfl (by decide) ?_
                  exact zF_ireturn dX12_move_99 rfl (mopMR (mMu5 zFr.rf) (zsi_same _ _ _ _) (by repeat (first | rw [if_pos (by omega)] | rw [if_neg (by omega)])) (by unfold oMvV; first | (rw [if_pos (by omega)]; done) | (rw [if_neg (by omega), if_pos (by omega)]; done) | (rw [if_neg (by omega), if_neg (by omega), if_pos (by omega)]; done) | (rw [if_neg (by omega), if_neg (by omega), if_neg (by omega), mMv_p (by omega) (by omega) (by omega) (by omega) (by omega) (by assumption) (by omega) (by omega) (by omega), if_pos ⟨rfl, rfl⟩])) (S1 := (N, H, u)) (if_pos (by show mP N f p = 0 ∨ (p ≠ -1 ∧ mP N f p ≤ mNeed N p f) ∨ 9 ≤ mP N f q; omega)) ⟨(zMo_hN (k := 0) hN hM (by decide) zMo_h1), (zsi_F (by decide) hu), (mHr_si hh n3m)⟩)
              · refine zF_aload_n 69 dX12_move_68 rfl rfl ?_
                refine zF_iload_n 70 dX12_move_69 rfl rfl ?_
                refine zF_iload_n 71 dX12_move_70 rfl rfl ?_
                refine zF_callVi 74 (d2 := (d + 15)) (as := [zI p, zI f]) dX12_move_71 rfl kX12_145 iX12_needed (ci := 12) rfl eX12_needed (Nat.le_refl _) hM.1 hM.2.1 rfl rfl (Nat.le_of_ble_eq_true rfl) (zn_X12_needed hM (zMo_hN (k := 0) hN hM (by decide) zMo_h1) hV (by first | decide | assumption | exact hb _ | exact mSh_rg hb _ _ | exact zb_rg _ | (constructor <;> omega)) (by first | decide | assumption | exact hb _ | exact mSh_rg hb _ _ | exact zb_rg _ | (constructor <;> omega))) ?_
                refine zF_aload_n 75 dX12_move_74 rfl rfl ?_
                refine zF_iload_n 76 dX12_move_75 rfl rfl ?_
                refine zF_iload_n 77 dX12_move_76 rfl rfl ?_
                refine zF_callVi 80 (d2 := (d + 15)) (as := [zI f, zI p]) dX12_move_77 rfl kX12_202 iX12_printsOf (ci := 12) rfl eX12_printsOf (Nat.le_refl _) hM.1 hM.2.1 rfl rfl (Nat.le_of_ble_eq_true rfl) (zn_X12_printsOf hM (zMo_hN (k := 0) hN hM (by decide) zMo_h1) (by omega) (by omega)) ?_
                refine zF_icmp_ne 86 83 dX12_move_80 rfl rfl (by first | decide | assumption | exact hb _ | exact mSh_rg hb _ _ | exact zb_rg _ | (constructor <;> omega)) (by first | decide | assumption | exact hb _ | exact mSh_rg hb _ _ | exact zb_rg _ | (constructor <;> omega)) (fun c12 => ?_) (fun c12 => ?_)
                · refine zF_aload_n 87 dX12_move_86 rfl rfl ?_
                  refine zF_iload_n 88 dX12_move_87 rfl rfl ?_
                  refine zF_iload_n 89 dX12_move_88 rfl rfl ?_
                  refine zF_callVi 92 (d2 := (d + 15)) (as := [zI f, zI q]) dX12_move_89 rfl kX12_202 iX12_printsOf (ci := 12) rfl eX12_printsOf (Nat.le_refl _) hM.1 hM.2.1 rfl rfl (Nat.le_of_ble_eq_true rfl) (zn_X12_printsOf hM (zMo_hN (k := 0) hN hM (by decide) zMo_h1) (by omega) (by omega)) ?_
                  refine zF_bipush 94 dX12_move_92 rfl (by decide) ?_
                  refine zF_icmp_ne 100 97 dX12_move_94 rfl rfl (by first | decide | assumption | exact hb _ | exact mSh_rg hb _ _ | exact zb_rg _ | (constructor <;> omega)) (by first | decide | assumption | exact hb _ | exact mSh_rg hb _ _ | exact zb_rg _ | (constructor <;> omega)) (fun c13 => ?_) (fun c13 => ?_)
                  · refine zF_aload_n 101 dX12_move_100 rfl rfl ?_
                    refine zF_callV 104 (d2 := (d + 15)) (as := []) dX12_move_101 rfl kX12_292 iX12_record (ci := 12) rfl eX12_record (Nat.le_refl _) hM.1 hM.2.1 rfl rfl (Nat.le_of_ble_eq_true rfl) (zE.mono (zt_X12_record hM (zsi_F (by decide) hu) u0 u1) fun ro σa2 hh2 => ?_)
                    obtain ⟨er2, fr2, p2⟩ := hh2
                    subst er2
                    refine ⟨fr2.1, ?_⟩
                    show zF G mX12_move (d + 16) 104 [(0, zR hm), (1, zI f), (2, zI p), (3, zI q)] [] σa2 _
                    have hMa2 := zMo_f2 fr2 hM
                    have hNa2 : zia σa2 (A 0) = N := (fr2.at fun j q => q.elim (zMo_ne hM (j := 0) (k := 3) (by decide) (by decide) (by decide)) (fun q => n0m q.1)).trans (zMo_hN (k := 0) hN hM (by decide) zMo_h1)
                    have hha2 := mHr_rec (zMo_hN (k := 0) hN hM (by decide) zMo_h1) hQ.z (mHr_si hh n3m) u0 u1 ⟨fr2, p2⟩
                    refine zF_aload_n 105 dX12_move_104 rfl rfl ?_
                    refine zF_getR 108 dX12_move_105 rfl gX12_9 hMa2.1 hMa2.2.1 (zM_0 hMa2).1 ?_
                    refine zF_iload_n 109 dX12_move_108 rfl rfl ?_
                    refine zF_iload_n 110 dX12_move_109 rfl rfl ?_
                    refine zF_callSi 113 (d2 := (d + 15)) (as := [zI f, zI p]) dX12_move_110 rfl kX12_102 sX12_printsAt (Nat.le_refl _) rfl rfl (Nat.le_of_ble_eq_true rfl) (zt_X12_printsAt) ?_
                    refine zF_dup2 114 dX12_move_113 rfl rfl rfl ?_
                    refine zF_iaload 115 dX12_move_114 rfl (zM_0 hMa2).2.2 (zM_0 hMa2).2.1 (by omega) (by omega) (congrFun hNa2 _) ?_
                    refine zF_iconst 116 dX12_move_115 rfl ?_
                    refine zF_isub 117 dX12_move_116 rfl ?_
                    refine zF_iastore 118 dX12_move_117 rfl (zM_0 hMa2).2.2 (zM_0 hMa2).2.1 (by omega) (by omega) ?_
                    refine zF_aload_n 119 dX12_move_118 rfl rfl ?_
                    refine zF_getR 122 dX12_move_119 rfl gX12_9 hMa2.1 hMa2.2.1 (zM_0 hMa2).1 ?_
                    refine zF_iload_n 123 dX12_move_122 rfl rfl ?_
                    refine zF_iload_n 124 dX12_move_123 rfl rfl ?_
                    refine zF_callSi 127 (d2 := (d + 15)) (as := [zI f, zI q]) dX12_move_124 rfl kX12_102 sX12_printsAt (Nat.le_refl _) rfl rfl (Nat.le_of_ble_eq_true rfl) (zt_X12_printsAt) ?_
                    refine zF_dup2 128 dX12_move_127 rfl rfl rfl ?_
                    refine zF_iaload 129 dX12_move_128 rfl (zM_0 hMa2).2.2 (zM_0 hMa2).2.1 (by omega) (by omega) (congrFun (mSet_mem hNa2) _) ?_
                    refine zF_iconst 130 dX12_move_129 rfl ?_
                    refine zF_iadd 131 dX12_move_130 rfl ?_
                    refine zF_iastore 132 dX12_move_131 rfl (zM_0 hMa2).2.2 (zM_0 hMa2).2.1 (by omega) (by omega) ?_
                    refine zF_aload_n 133 dX12_move_132 rfl rfl ?_
                    refine zF_getR 136 dX12_move_133 rfl gX12_9 hMa2.1 hMa2.2.1 (zM_0 hMa2).1 ?_
                    refine zF_iconst 137 dX12_move_136 rfl ?_
                    refine zF_dup2 138 dX12_move_137 rfl rfl rfl ?_
                    refine zF_iaload 139 dX12_move_138 rfl (zM_0 hMa2).2.2 (zM_0 hMa2).2.1 (by omega) (by omega) (congrFun (mSet_mem (mSet_mem hNa2)) _) ?_
                    refine zF_iconst 140 dX12_move_139 rfl ?_
                    refine zF_iadd 141 dX12_move_140 rfl ?_
                    refine zF_iastore 142 dX12_move_141 rfl (zM_0 hMa2).2.2 (zM_0 hMa2).2.1 (by omega) (by omega) ?_
                    have hmv : (mSet (mSet (mSet N (154 + 5 * f + p + 1) ((N (154 + 5 * f + p + 1)) - 1)) (154 + 5 * f + q + 1) (((mSet N (154 + 5 * f + p + 1) ((N (154 + 5 * f + p + 1)) - 1)) (154 + 5 * f + q + 1)) + 1)) 5 (((mSet (mSet N (154 + 5 * f + p + 1) ((N (154 + 5 * f + p + 1)) - 1)) (154 + 5 * f + q + 1) (((mSet N (154 + 5 * f + p + 1) ((N (154 + 5 * f + p + 1)) - 1)) (154 + 5 * f + q + 1)) + 1)) 5) + 1)) = mMv N f p q := mMv_eq (by assumption) ⟨by omega, by omega, by omega⟩ rfl rfl rfl
                    have hNm : zia (zsi (zsi (zsi σa2 (A 0) (154 + 5 * f + p + 1) ((N (154 + 5 * f + p + 1)) - 1)) (A 0) (154 + 5 * f + q + 1) (((mSet N (154 + 5 * f + p + 1) ((N (154 + 5 * f + p + 1)) - 1)) (154 + 5 * f + q + 1)) + 1)) (A 0) 5 (((mSet (mSet N (154 + 5 * f + p + 1) ((N (154 + 5 * f + p + 1)) - 1)) (154 + 5 * f + q + 1) (((mSet N (154 + 5 * f + p + 1) ((N (154 + 5 * f + p + 1)) - 1)) (154 + 5 * f + q + 1)) + 1)) 5) + 1)) (A 0) = mMv N f p q := (mSet_mem (mSet_mem (mSet_mem hNa2))).trans hmv
                    refine zF_aload_n 143 dX12_move_142 rfl rfl ?_
                    refine zF_iload_n 144 dX12_move_143 rfl rfl ?_
                    refine zF_iload_n 145 dX12_move_144 rfl rfl ?_
                    refine zF_callVi 148 (d2 := (d + 15)) (as := [zI f, zI q]) dX12_move_145 rfl kX12_202 iX12_printsOf (ci := 12) rfl eX12_printsOf (Nat.le_refl _) hMa2.1 hMa2.2.1 rfl rfl (Nat.le_of_ble_eq_true rfl) (zn_X12_printsOf hMa2 hNm (by omega) (by omega)) ?_
                    exact zF_ireturn dX12_move_148 rfl (mopMR (mMi_mu (mMi_A (k := 0) (by decide) zFr.rf) |> (zFr.tr (mMi_mu (mMi_A (k := 0) (by decide) zFr.rf) |> (zFr.tr (mMi_mu (mMi_A (k := 0) (by decide) zFr.rf) |> (zFr.tr ((mMu5 zFr.rf).tr (mMi_mu (mMi_C zFr.rf fr2))))))))) (zMo_AF (j := 0) (zMo_AF (j := 0) (zMo_AF (j := 0) (zFr_F fr2 (fun q => q.elim (fun q => n3m q.symm) (fun q => absurd q.2 (by decide))) (zsi_same _ _ _ _)) hMa2 (by decide) zMo_h1) hMa2 (by decide) zMo_h1) hMa2 (by decide) zMo_h1) (by repeat (first | rw [if_pos (by omega)] | rw [if_neg (by omega)])) (by unfold oMvV; first | (rw [if_pos (by omega)]; done) | (rw [if_neg (by omega), if_pos (by omega)]; done) | (rw [if_neg (by omega), if_neg (by omega), if_pos (by omega)]; done) | (rw [if_neg (by omega), if_neg (by omega), if_neg (by omega), mMv_p (by omega) (by omega) (by omega) (by omega) (by omega) (by assumption) (by omega) (by omega) (by omega), if_pos ⟨rfl, rfl⟩])) (S1 := sRec (N, H, u) (mMv N f p q)) (if_neg (by show ¬ (mP N f p = 0 ∨ (p ≠ -1 ∧ mP N f p ≤ mNeed N p f) ∨ 9 ≤ mP N f q); omega)) ⟨hNm, (zMo_AF (j := 0) (zMo_AF (j := 0) (zMo_AF (j := 0) p2.1 hMa2 (by decide) zMo_h1) hMa2 (by decide) zMo_h1) hMa2 (by decide) zMo_h1), (mHr_si (mHr_si (mHr_si hha2 (zMo_ne hM (j := 3) (k := 0) (by decide) (by decide) (by decide))) (zMo_ne hM (j := 3) (k := 0) (by decide) (by decide) (by decide))) (zMo_ne hM (j := 3) (k := 0) (by decide) (by decide) (by decide)))⟩)
                  · refine zF_bipush 99 dX12_move_97 rfl (by decide) ?_
                    exact zF_ireturn dX12_move_99 rfl (mopMR (mMu5 zFr.rf) (zsi_same _ _ _ _) (by repeat (first | rw [if_pos (by omega)] | rw [if_neg (by omega)])) (by unfold oMvV; first | (rw [if_pos (by omega)]; done) | (rw [if_neg (by omega), if_pos (by omega)]; done) | (rw [if_neg (by omega), if_neg (by omega), if_pos (by omega)]; done) | (rw [if_neg (by omega), if_neg (by omega), if_neg (by omega), mMv_p (by omega) (by omega) (by omega) (by omega) (by omega) (by assumption) (by omega) (by omega) (by omega), if_pos ⟨rfl, rfl⟩])) (S1 := (N, H, u)) (if_pos (by show mP N f p = 0 ∨ (p ≠ -1 ∧ mP N f p ≤ mNeed N p f) ∨ 9 ≤ mP N f q; omega)) ⟨(zMo_hN (k := 0) hN hM (by decide) zMo_h1), (zsi_F (by decide) hu), (mHr_si hh n3m)⟩)
                · refine zF_bipush 85 dX12_move_83 rfl (by decide) ?_
                  exact zF_ireturn dX12_move_85 rfl (mopMR (mMu5 zFr.rf) (zsi_same _ _ _ _) (by repeat (first | rw [if_pos (by omega)] | rw [if_neg (by omega)])) (by unfold oMvV; first | (rw [if_pos (by omega)]; done) | (rw [if_neg (by omega), if_pos (by omega)]; done) | (rw [if_neg (by omega), if_neg (by omega), if_pos (by omega)]; done) | (rw [if_neg (by omega), if_neg (by omega), if_neg (by omega), mMv_p (by omega) (by omega) (by omega) (by omega) (by omega) (by assumption) (by omega) (by omega) (by omega), if_pos ⟨rfl, rfl⟩])) (S1 := (N, H, u)) (if_pos (by show mP N f p = 0 ∨ (p ≠ -1 ∧ mP N f p ≤ mNeed N p f) ∨ 9 ≤ mP N f q; omega)) ⟨(zMo_hN (k := 0) hN hM (by decide) zMo_h1), (zsi_F (by decide) hu), (mHr_si hh n3m)⟩)
            · refine zF_bipush 62 dX12_move_60 rfl (by decide) ?_
              exact zF_ireturn dX12_move_62 rfl (mopMR (mMu5 zFr.rf) (zsi_same _ _ _ _) (by repeat (first | rw [if_pos (by omega)] | rw [if_neg (by omega)])) (by unfold oMvV; first | (rw [if_pos (by omega)]; done) | (rw [if_neg (by omega), if_pos (by omega)]; done) | (rw [if_neg (by omega), if_neg (by omega), if_pos (by omega)]; done) | (rw [if_neg (by omega), if_neg (by omega), if_neg (by omega), mMv_p (by omega) (by omega) (by omega) (by omega) (by omega) (by assumption) (by omega) (by omega) (by omega), if_pos ⟨rfl, rfl⟩])) (S1 := (N, H, u)) (if_pos (by show mP N f p = 0 ∨ (p ≠ -1 ∧ mP N f p ≤ mNeed N p f) ∨ 9 ≤ mP N f q; omega)) ⟨(zMo_hN (k := 0) hN hM (by decide) zMo_h1), (zsi_F (by decide) hu), (mHr_si hh n3m)⟩)
          · exact absurd c8 (by decide)
      · refine zF_iconst 26 dX12_move_25 rfl ?_
        refine zF_goto 39 dX12_move_26 rfl ?_
        refine zF_putI 42 dX12_move_39 rfl pX12_move_89 (Or.inl rfl) hM.1 hM.2.1 ?_
        refine zF_aload_n 43 dX12_move_42 rfl rfl ?_
        refine zF_getI 46 dX12_move_43 rfl gX12_89 (by decide) (by decide) hM.1 hM.2.1 (zsi_same _ _ _ _) ?_
        refine zF_if_eq 51 49 dX12_move_46 rfl rfl (by first | decide | assumption | exact hb _ | exact mSh_rg hb _ _ | exact zb_rg _ | (constructor <;> omega)) (fun c14 => ?_) (fun c14 => ?_)
        · exact absurd c14 (by decide)
        · refine zF_iconst 50 dX12_move_49 rfl ?_
          exact zF_ireturn dX12_move_50 rfl (mopMT (mMu5 zFr.rf) (zsi_same _ _ _ _) (by repeat (first | rw [if_pos (by omega)] | rw [if_neg (by omega)])) (by decide) ⟨(zMo_hN (k := 0) hN hM (by decide) zMo_h1), (zsi_F (by decide) hu), (mHr_si hh n3m)⟩)
end ZQ2
