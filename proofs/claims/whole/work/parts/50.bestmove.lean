/-! the class: the best move -/
section ZC15
variable {G : zG} {d : Nat} {σ : zMem} {B : Nat → Nat} {N : Int → Int}
noncomputable def gC (N : Int → Int) (f p v : Int) : Int := if p = -1 then 0 else bG N p (limD N p f v) - bG N p (lmP N p)
noncomputable def oL (N : Int → Int) (f y : Int) : Int := if y < N 0 + 1 then (if mHs N (y - 1) f (nS N) < mP N f (y - 1) then gC N f (y - 1) (-1) else -1000000000) else -1000000000
noncomputable def oM (N : Int → Int) (f y : Int) : Int := if y < N 0 + 1 then (if mP N f (y - 1) < 9 then gC N f (y - 1) 1 else -1000000000) else -1000000000
def wI (σ : zMem) (a : Nat) (F : Int → Int) (x : Nat) : Prop := ∀ y : Int, 0 ≤ y → y < 5 → (zia σ a y = if y < (x : Int) then F y else -1000000000) ∧ -1000000000 ≤ zia σ a y ∧ zia σ a y ≤ 60000000
theorem wI_0 {a : Nat} {F : Int → Int} {v : Int} (e : v = -1000000000) (h : ∀ j : Int, 0 ≤ j → j < ((5 : Nat) : Int) → zia σ a j = v) : wI σ a F 0 := fun y y0 y1 => by
  rw [h y y0 (by omega), if_neg (by omega)]; omega
theorem wI_no {a : Nat} {F : Int → Int} {x : Nat} (h : wI σ a F x) (e : F x = -1000000000) : wI σ a F (x + 1) := fun y y0 y1 => by
  obtain ⟨i, j, k⟩ := h y y0 y1
  refine ⟨?_, j, k⟩
  by_cases z : y = x
  · rw [i, if_neg (by omega), if_pos (by omega), z, e]
  · rw [i]
    by_cases q : y < (x : Int)
    · rw [if_pos q, if_pos (by omega)]
    · rw [if_neg q, if_neg (by omega)]
theorem wI_fr {a : Nat} {F : Int → Int} {x : Nat} {σ2 : zMem} (h : wI σ a F x) (e : ∀ j, zia σ2 a j = zia σ a j) : wI σ2 a F x := fun y y0 y1 => by rw [e]; exact h y y0 y1
theorem wI_set {a : Nat} {F : Int → Int} {x : Nat} {σ2 : zMem} {i v : Int} (h : wI σ a F x) (e : ∀ j, zia σ2 a j = zia σ a j) (ei : i = x) (ev : v = F x) (b : -1000000000 ≤ v ∧ v ≤ 60000000) : wI (zsi σ2 a i v) a F (x + 1) := fun y y0 y1 => by
  rw [zia_si]
  by_cases z : y = i
  · rw [if_pos ⟨rfl, z⟩, if_pos (by omega), show y = (x : Int) by omega]; exact ⟨ev, b⟩
  · rw [if_neg (fun q => z q.2), e]
    obtain ⟨i2, j, k⟩ := h y y0 y1
    refine ⟨?_, j, k⟩
    rw [i2]
    by_cases q : y < (x : Int)
    · rw [if_pos q, if_pos (by omega)]
    · rw [if_neg q, if_neg (by omega)]
theorem wI_at {a : Nat} {F : Int → Int} {x : Nat} (h : wI σ a F x) (hF : ∀ y : Int, (x : Int) ≤ y → F y = -1000000000) {y : Int} (y0 : 0 ≤ y) (y1 : y < 5) : zia σ a y = F y ∧ -1000000000 ≤ F y ∧ F y ≤ 60000000 := by
  obtain ⟨i, j, k⟩ := h y y0 y1
  have e : zia σ a y = F y := by
    rw [i]
    by_cases q : y < (x : Int)
    · rw [if_pos q]
    · rw [if_neg q, hF y (by omega)]
  rw [← e]; exact ⟨rfl, j, k⟩
def PWX (B : Nat → Nat) (h : Nat) (j : Int) : Prop := (∃ i, h = B i ∧ 400 ≤ i ∧ i ≤ 413 ∧ i ≠ 411) ∧ ¬ (h = B 408 ∧ j = 0)
theorem PWX_1 {i : Nat} {j : Int} (hj : ∀ i j, B i = B j → i = j) (h : 400 ≤ i ∧ i ≤ 413 ∧ i ≠ 411) (n : i ≠ 408) : PWX B (B i) j := ⟨⟨i, rfl, h⟩, fun q => n (hj _ _ q.1)⟩
theorem PWX_gg {σ2 : zMem} (f : zFr (PGG B) σ σ2) : zFr (PWX B) σ σ2 := f.wk fun _ _ ⟨⟨i, e, c⟩, n⟩ => ⟨⟨i, e, by omega⟩, n⟩
theorem PWX_sc {σ2 : zMem} (f : zFr (PWX B) σ σ2) : zFr (cSc B) σ σ2 := f.wk fun _ _ ⟨⟨i, e, c⟩, n⟩ => ⟨⟨i, e, by omega⟩, n⟩
theorem PGG_n {σ2 : zMem} {k : Nat} (hj : ∀ i j, B i = B j → i = j) (f : zFr (PGG B) σ σ2) (h : k < 400 ∨ 410 < k) (j : Int) : zia σ2 (B k) j = zia σ (B k) j := f.2.2.2.2.2 _ _ fun ⟨⟨i, e, c⟩, _⟩ => by have := hj _ _ e; omega
theorem PWX_n {σ2 : zMem} (hj : ∀ i j, B i = B j → i = j) (f : zFr (PWX B) σ σ2) (j : Int) : zia σ2 (B 411) j = zia σ (B 411) j := f.2.2.2.2.2 _ _ fun ⟨⟨i, e, c⟩, _⟩ => by have := hj _ _ e; omega
def g411 (N : Int → Int) (σ : zMem) (B : Nat → Nat) (n : Int) : Prop := ∀ h : Int, 0 ≤ h → h < n → zia σ (B 411) h = bG N h (lmP N h) ∧ -1 ≤ bG N h (lmP N h) ∧ bG N h (lmP N h) ≤ 50000000
theorem g411_fr {σ2 : zMem} {n : Int} (h : g411 N σ B n) (e : ∀ j, zia σ2 (B 411) j = zia σ (B 411) j) : g411 N σ2 B n := fun k k0 k1 => by rw [e]; exact h k k0 k1
theorem g411_st {σ2 : zMem} {x : Nat} {v : Int} (h : g411 N σ B x) (e : ∀ j, zia σ2 (B 411) j = zia σ (B 411) j) (ev : v = bG N x (lmP N x)) (b : -1 ≤ v ∧ v ≤ 50000000) : g411 N (zsi σ2 (B 411) (x : Int) v) B ((x + 1 : Nat) : Int) := fun k k0 k1 => by
  rw [zia_si]
  by_cases z : k = (x : Int)
  · rw [if_pos ⟨rfl, z⟩, z, ← ev]; exact ⟨rfl, b⟩
  · rw [if_neg (fun q => z q.2), e]; exact h k k0 (by omega)
theorem cPv_lim {h f v x : Int} {ch : Int → Int} (hj : ∀ i j, B i = B j → i = j) (w : cPv N h (lmP N h) ch σ B) (e : v = mP N f h + x) : cPv N h (limD N h f x) ch (zsi σ (B 407) f v) B := by
  obtain ⟨a, b, c, g, l, m⟩ := w
  have ne : ∀ {i j : Nat}, i ≠ j → B i ≠ B j := fun h e => h (hj _ _ e)
  refine ⟨zsi_N (ne (by decide)) a, zsi_N (ne (by decide)) b, fun k hk => zsi_N (ne (by decide)) (c k hk), fun k hk => zsi_N (ne (by decide)) (g k hk), fun y y0 y1 => ?_, fun k hk => zsi_N (ne (by decide)) (m k hk)⟩
  rw [zia_si]
  unfold limD
  by_cases z : y = f
  · rw [if_pos ⟨rfl, z⟩, if_pos z]; exact e
  · rw [if_neg (fun q => z q.2), if_neg z]; exact l y y0 y1
theorem limD_r (hV : mV N) {h f x : Int} (h0 : 0 ≤ h) (h1 : h < 4) (x0 : -1 ≤ x) (x1 : x ≤ 1) : ∀ g, 0 ≤ g → g < N 2 → zrg (limD N h f x g) := fun g g0 g1 => by
  have hn := hV.n
  have a := hV.p g h g0 (by omega) (by omega) h1
  unfold limD
  by_cases z : g = f
  · rw [if_pos z]; rw [z] at a; constructor <;> omega
  · rw [if_neg z]; constructor <;> omega
theorem mHs_n (hV : mV N) (f : Int) : mHs N (-1) f (nS N) = 0 := by
  have hs := nS_eq hV
  refine (zsum_congr (g := fun _ => 0) fun s hs2 => ?_).trans (zsum_0 _)
  have := hV.s (s : Int) (by omega) (by omega)
  exact (zbF (by omega)).symm
theorem oL_hi {f y : Int} (h : ((nH N + 1 : Nat) : Int) ≤ y) (hh : N 0 = (nH N : Int)) : oL N f y = -1000000000 := if_neg (by omega)
theorem oM_hi {f y : Int} (h : ((nH N + 1 : Nat) : Int) ≤ y) (hh : N 0 = (nH N : Int)) : oM N f y = -1000000000 := if_neg (by omega)
/-- one pair of places -/
theorem bm_step (hV : mV N) {f x : Nat} (hf : f < nF N) (hx : x < 25) {fo mo a b : Int} (j : bmJ N (100 * (f : Int) + 10 * ((x : Int) / 5) + (x : Int) % 5) fo mo) (ea : a = oL N f ((x : Int) / 5)) (eb : b = oM N f ((x : Int) % 5)) (la : a ≤ 60000000) (lb : b ≤ 60000000) :
    bmJ N (100 * (f : Int) + 10 * (((x + 1 : Nat) : Int) / 5) + ((x + 1 : Nat) : Int) % 5) (if (x : Int) / 5 ≠ (x : Int) % 5 ∧ mo < a + b then 100 * (f : Int) + 10 * ((x : Int) / 5) + (x : Int) % 5 else fo) (if (x : Int) / 5 ≠ (x : Int) % 5 ∧ mo < a + b then a + b else mo) := by
  have hn := hV.n
  have hfe := nF_eq hV
  have mo0 := j.1
  obtain ⟨p, hp⟩ : ∃ p : Int, (x : Int) / 5 = p + 1 := ⟨(x : Int) / 5 - 1, by omega⟩
  obtain ⟨q, hq⟩ : ∃ q : Int, (x : Int) % 5 = q + 1 := ⟨(x : Int) % 5 - 1, by omega⟩
  have q0 : -1 ≤ q ∧ q ≤ 3 := by omega
  have p0 : -1 ≤ p ∧ p ≤ 3 := by omega
  have en : ((x + 1 : Nat) : Int) / 5 = p + 1 ∧ ((x + 1 : Nat) : Int) % 5 = q + 2 ∨ ((x + 1 : Nat) : Int) / 5 = p + 2 ∧ ((x + 1 : Nat) : Int) % 5 = 0 ∧ q = 3 := by omega
  rw [hp] at ea
  rw [hq] at eb
  rw [hp, hq] at j ⊢
  have ep : p + 1 - 1 = p := by omega
  have eq1 : q + 1 - 1 = q := by omega
  have ec : 100 * (f : Int) + 10 * (p + 1) + (q + 1) = cdM f p q := by unfold cdM; omega
  unfold oL at ea
  unfold oM at eb
  rw [ep] at ea
  rw [eq1] at eb
  by_cases v : p < N 0 ∧ q < N 0
  · have vt : vT N f p q := ⟨⟨by omega, by omega⟩, ⟨by omega, v.1⟩, ⟨by omega, v.2⟩⟩
    rw [ec] at j ⊢
    have s := bmJ_step (by omega) vt j
    rw [if_pos (by omega)] at ea eb
    have hb := mHs_b N p f (nS N)
    have key : ((p + 1 ≠ q + 1 ∧ mo < a + b) ↔ mo < bmM N f p q) ∧ (mo < bmM N f p q → a + b = bmM N f p q) := by
      by_cases cm : cmP N f p q
      · have em : bmM N f p q = mbV N f p q := if_pos cm
        obtain ⟨c1, c2, c3, c4⟩ := cm
        have la2 : mHs N p f (nS N) < mP N f p := by
          rcases c4 with c4 | c4
          · rw [c4, mHs_n hV]; rw [c4] at c2; exact c2
          · exact c4
        rw [if_pos la2] at ea
        rw [if_pos c3] at eb
        have : a + b = bmM N f p q := by rw [em, ea, eb]; rfl
        rw [this]
        exact ⟨⟨fun z => z.2, fun z => ⟨by omega, z⟩⟩, fun _ => rfl⟩
      · have em : bmM N f p q = 0 := if_neg cm
        rw [em]
        refine ⟨⟨fun z => ?_, fun z => by omega⟩, fun z => by omega⟩
        exfalso
        apply cm
        have zl : mHs N p f (nS N) < mP N f p := Decidable.byContradiction fun w => by rw [if_neg w] at ea; omega
        have zm : mP N f q < 9 := Decidable.byContradiction fun w => by rw [if_neg w] at eb; omega
        exact ⟨by omega, by omega, zm, Or.inr zl⟩
    have e1 : (if p + 1 ≠ q + 1 ∧ mo < a + b then cdM f p q else fo) = if mo < bmM N f p q then cdM f p q else fo := by
      by_cases z : mo < bmM N f p q
      · rw [if_pos (key.1.mpr z), if_pos z]
      · rw [if_neg (fun w => z (key.1.mp w)), if_neg z]
    have e2 : (if p + 1 ≠ q + 1 ∧ mo < a + b then a + b else mo) = max mo (bmM N f p q) := by
      by_cases z : mo < bmM N f p q
      · rw [if_pos (key.1.mpr z), key.2 z]; omega
      · rw [if_neg (fun w => z (key.1.mp w))]; omega
    rw [e1, e2]
    refine bmJ_skip s ?_ fun f2 p2 q2 w l => ?_
    · unfold cdM; rcases en with ⟨e, e'⟩ | ⟨e, e', e3⟩ <;> rw [e, e'] <;> omega
    · obtain ⟨w1, w2, w3⟩ := w
      unfold cdM at l ⊢
      rcases en with ⟨e, e'⟩ | ⟨e, e', e3⟩ <;> rw [e, e'] at l <;> omega
  · have no : ¬ (p + 1 ≠ q + 1 ∧ mo < a + b) := fun z => by
      by_cases c : p < N 0
      · rw [if_neg (by omega)] at eb; omega
      · rw [if_neg (by omega)] at ea; omega
    rw [if_neg no, if_neg no]
    refine bmJ_skip j ?_ fun f2 p2 q2 w l => ?_
    · rcases en with ⟨e, e'⟩ | ⟨e, e', e3⟩ <;> rw [e, e'] <;> omega
    · obtain ⟨w1, w2, w3⟩ := w
      unfold cdM at l ⊢
      rcases en with ⟨e, e'⟩ | ⟨e, e', e3⟩ <;> rw [e, e'] at l <;> omega
theorem zt_X5_heldScreens {f p : Int} (hB : cM σ B) (hP : cPr σ B) (hR : cR N σ B) (hV : mV N) (zf : zrg f) (zp : zrg p) : zP1 G mX5_heldScreens d [zR (B 400), zI f, zI p] σ (mHs N p f (nS N)) := by
  refine zE_of rfl (by simp [zcat]) (Nat.le_of_ble_eq_true rfl) ?_
  show zF G mX5_heldScreens d 0 [(0, zR (B 400)), (1, zI f), (2, zI p)] [] σ _
  have hb := hV.b
  have hn := hV.n
  have hs := nS_eq hV
  refine zF_iconst 1 dX5_heldScreens_0 rfl ?_
  refine zF_istore_n 2 (ls' := [(3, zI 0), (0, zR (B 400)), (1, zI f), (2, zI p)]) dX5_heldScreens_1 rfl (by decide) rfl ?_
  refine zF_iconst 3 dX5_heldScreens_2 rfl ?_
  refine zF_istore 5 (ls' := [(4, zI 0), (3, zI 0), (0, zR (B 400)), (1, zI f), (2, zI p)]) dX5_heldScreens_3 rfl (by decide) rfl ?_
  refine zF_locs (ls' := (fun (i : Nat) => [(4, zI (i : Int)), (3, zI (mHs N p f i)), (0, zR (B 400)), (1, zI f), (2, zI p)]) 0) ⟨zlI rfl (by first | rfl | omega | (push_cast; omega) | exact congrArg (_ + ·) (zbT (by assumption)) | exact congrArg (_ + ·) (zbF (by assumption)) | exact congrArg (_ + ·) (zbT (by omega)) | exact congrArg (_ + ·) (zbF (by omega)) | exact congrArg (_ + ·) (if_pos (by omega)).symm | exact congrArg (_ + ·) (if_neg (by omega)).symm | exact (if_pos (by omega)).symm | exact (if_neg (by omega)).symm | exact zsub_s (if_pos (by omega)).symm | exact zsub_s0 (if_neg (by omega)).symm | exact zadd0 (if_neg (by omega)).symm | exact zadd0 (zbF (by omega)) | exact (Int.sub_zero _).symm), zlI rfl (by first | rfl | omega | (push_cast; omega) | exact congrArg (_ + ·) (zbT (by assumption)) | exact congrArg (_ + ·) (zbF (by assumption)) | exact congrArg (_ + ·) (zbT (by omega)) | exact congrArg (_ + ·) (zbF (by omega)) | exact congrArg (_ + ·) (if_pos (by omega)).symm | exact congrArg (_ + ·) (if_neg (by omega)).symm | exact (if_pos (by omega)).symm | exact (if_neg (by omega)).symm | exact zsub_s (if_pos (by omega)).symm | exact zsub_s0 (if_neg (by omega)).symm | exact zadd0 (if_neg (by omega)).symm | exact zadd0 (zbF (by omega)) | exact (Int.sub_zero _).symm), rfl, rfl, rfl, trivial⟩ ?_
  refine zF_loop (n := (nS N)) (fun (i : Nat) => [(4, zI (i : Int)), (3, zI (mHs N p f i)), (0, zR (B 400)), (1, zI f), (2, zI p)]) (fun _ => σ) (fun i hi ih5 => ?_) ?_
  · show zF G mX5_heldScreens d 5 [(4, zI (i : Int)), (3, zI (mHs N p f i)), (0, zR (B 400)), (1, zI f), (2, zI p)] [] σ _
    have qh := mHs_b N p f i
    have qs := hV.s (i : Int) (by omega) (by omega)
    refine zF_iload 7 dX5_heldScreens_5 rfl rfl ?_
    refine zF_aload_n 8 dX5_heldScreens_7 rfl rfl ?_
    refine zF_getR 11 dX5_heldScreens_8 rfl gX5_39 hP.1 hP.2.1 hP.2.2.1 ?_
    refine zF_getI 14 dX5_heldScreens_11 rfl gX5_89 (by decide) (by decide) hB.ch.1 hB.ch.2.1 hR.c.1.2.1 ?_
    refine zF_icmp_ge 67 17 dX5_heldScreens_14 rfl rfl (by first | decide | assumption | exact hb _ | exact mSh_rg hb _ _ | exact zb_rg _ | (constructor <;> omega)) (by first | decide | assumption | exact hb _ | exact mSh_rg hb _ _ | exact zb_rg _ | (constructor <;> omega)) (fun c1 => ?_) (fun c1 => ?_)
    · exact absurd c1 (by omega)
    · refine zF_aload_n 18 dX5_heldScreens_17 rfl rfl ?_
      refine zF_getR 21 dX5_heldScreens_18 rfl gX5_39 hP.1 hP.2.1 hP.2.2.1 ?_
      refine zF_getR 24 dX5_heldScreens_21 rfl gX5_91 hB.ch.1 hB.ch.2.1 (cB_104 hB).1 ?_
      refine zF_iload 26 dX5_heldScreens_24 rfl rfl ?_
      refine zF_iaload 27 dX5_heldScreens_26 rfl (cB_104 hB).2.2 (cB_104 hB).2.1 (by omega) (by omega) (hR.c.2.2.1 _ (by omega) (by omega)).1 ?_
      refine zF_iload_n 28 dX5_heldScreens_27 rfl rfl ?_
      refine zF_icmp_ne 61 31 dX5_heldScreens_28 rfl rfl (by first | decide | assumption | exact hb _ | exact mSh_rg hb _ _ | exact zb_rg _ | (constructor <;> omega)) (by first | decide | assumption | exact hb _ | exact mSh_rg hb _ _ | exact zb_rg _ | (constructor <;> omega)) (fun c2 => ?_) (fun c2 => ?_)
      · refine zF_iinc 64 (ls' := [(4, zI ((i : Int) + 1)), (3, zI (mHs N p f i)), (0, zR (B 400)), (1, zI f), (2, zI p)]) dX5_heldScreens_61 rfl rfl rfl (by decide) rfl ?_
        refine zF_goto 5 dX5_heldScreens_64 rfl ?_
        exact zF_locs (ls' := [(4, zI ((i + 1 : Nat) : Int)), (3, zI (mHs N p f (i + 1))), (0, zR (B 400)), (1, zI f), (2, zI p)]) ⟨zlI rfl (by first | rfl | omega | (push_cast; omega) | exact congrArg (_ + ·) (zbT (by assumption)) | exact congrArg (_ + ·) (zbF (by assumption)) | exact congrArg (_ + ·) (zbT (by omega)) | exact congrArg (_ + ·) (zbF (by omega)) | exact congrArg (_ + ·) (if_pos (by omega)).symm | exact congrArg (_ + ·) (if_neg (by omega)).symm | exact (if_pos (by omega)).symm | exact (if_neg (by omega)).symm | exact zsub_s (if_pos (by omega)).symm | exact zsub_s0 (if_neg (by omega)).symm | exact zadd0 (if_neg (by omega)).symm | exact zadd0 (zbF (by omega)) | exact (Int.sub_zero _).symm), zlI rfl (by first | rfl | omega | (push_cast; omega) | exact congrArg (_ + ·) (zbT (by assumption)) | exact congrArg (_ + ·) (zbF (by assumption)) | exact congrArg (_ + ·) (zbT (by omega)) | exact congrArg (_ + ·) (zbF (by omega)) | exact congrArg (_ + ·) (if_pos (by omega)).symm | exact congrArg (_ + ·) (if_neg (by omega)).symm | exact (if_pos (by omega)).symm | exact (if_neg (by omega)).symm | exact zsub_s (if_pos (by omega)).symm | exact zsub_s0 (if_neg (by omega)).symm | exact zadd0 (if_neg (by omega)).symm | exact zadd0 (zbF (by omega)) | exact (Int.sub_zero _).symm), rfl, rfl, rfl, trivial⟩ ih5
      · refine zF_aload_n 32 dX5_heldScreens_31 rfl rfl ?_
        refine zF_getR 35 dX5_heldScreens_32 rfl gX5_43 hP.1 hP.2.1 hP.2.2.2.1 ?_
        refine zF_getR 38 dX5_heldScreens_35 rfl gX5_94 hB.st.1 hB.st.2.1 (cB_209 hB).1 ?_
        refine zF_iload 40 dX5_heldScreens_38 rfl rfl ?_
        refine zF_iaload 41 dX5_heldScreens_40 rfl (cB_209 hB).2.2 (cB_209 hB).2.1 (by omega) (by omega) (hR.s.2.2.1 _ (by omega) (by omega)).2.2.2.2 ?_
        refine zF_if_eq 61 44 dX5_heldScreens_41 rfl rfl (by first | decide | assumption | exact hb _ | exact mSh_rg hb _ _ | exact zb_rg _ | (constructor <;> omega)) (fun c3 => ?_) (fun c3 => ?_)
        · refine zF_iinc 64 (ls' := [(4, zI ((i : Int) + 1)), (3, zI (mHs N p f i)), (0, zR (B 400)), (1, zI f), (2, zI p)]) dX5_heldScreens_61 rfl rfl rfl (by decide) rfl ?_
          refine zF_goto 5 dX5_heldScreens_64 rfl ?_
          exact zF_locs (ls' := [(4, zI ((i + 1 : Nat) : Int)), (3, zI (mHs N p f (i + 1))), (0, zR (B 400)), (1, zI f), (2, zI p)]) ⟨zlI rfl (by first | rfl | omega | (push_cast; omega) | exact congrArg (_ + ·) (zbT (by assumption)) | exact congrArg (_ + ·) (zbF (by assumption)) | exact congrArg (_ + ·) (zbT (by omega)) | exact congrArg (_ + ·) (zbF (by omega)) | exact congrArg (_ + ·) (if_pos (by omega)).symm | exact congrArg (_ + ·) (if_neg (by omega)).symm | exact (if_pos (by omega)).symm | exact (if_neg (by omega)).symm | exact zsub_s (if_pos (by omega)).symm | exact zsub_s0 (if_neg (by omega)).symm | exact zadd0 (if_neg (by omega)).symm | exact zadd0 (zbF (by omega)) | exact (Int.sub_zero _).symm), zlI rfl (by first | rfl | omega | (push_cast; omega) | exact congrArg (_ + ·) (zbT (by assumption)) | exact congrArg (_ + ·) (zbF (by assumption)) | exact congrArg (_ + ·) (zbT (by omega)) | exact congrArg (_ + ·) (zbF (by omega)) | exact congrArg (_ + ·) (if_pos (by omega)).symm | exact congrArg (_ + ·) (if_neg (by omega)).symm | exact (if_pos (by omega)).symm | exact (if_neg (by omega)).symm | exact zsub_s (if_pos (by omega)).symm | exact zsub_s0 (if_neg (by omega)).symm | exact zadd0 (if_neg (by omega)).symm | exact zadd0 (zbF (by omega)) | exact (Int.sub_zero _).symm), rfl, rfl, rfl, trivial⟩ ih5
        · refine zF_aload_n 45 dX5_heldScreens_44 rfl rfl ?_
          refine zF_getR 48 dX5_heldScreens_45 rfl gX5_43 hP.1 hP.2.1 hP.2.2.2.1 ?_
          refine zF_getR 51 dX5_heldScreens_48 rfl gX5_97 hB.st.1 hB.st.2.1 (cB_206 hB).1 ?_
          refine zF_iload 53 dX5_heldScreens_51 rfl rfl ?_
          refine zF_iaload 54 dX5_heldScreens_53 rfl (cB_206 hB).2.2 (cB_206 hB).2.1 (by omega) (by omega) (hR.s.2.2.1 _ (by omega) (by omega)).2.1 ?_
          refine zF_iload_n 55 dX5_heldScreens_54 rfl rfl ?_
          refine zF_icmp_ne 61 58 dX5_heldScreens_55 rfl rfl (by first | decide | assumption | exact hb _ | exact mSh_rg hb _ _ | exact zb_rg _ | (constructor <;> omega)) (by first | decide | assumption | exact hb _ | exact mSh_rg hb _ _ | exact zb_rg _ | (constructor <;> omega)) (fun c4 => ?_) (fun c4 => ?_)
          · refine zF_iinc 64 (ls' := [(4, zI ((i : Int) + 1)), (3, zI (mHs N p f i)), (0, zR (B 400)), (1, zI f), (2, zI p)]) dX5_heldScreens_61 rfl rfl rfl (by decide) rfl ?_
            refine zF_goto 5 dX5_heldScreens_64 rfl ?_
            exact zF_locs (ls' := [(4, zI ((i + 1 : Nat) : Int)), (3, zI (mHs N p f (i + 1))), (0, zR (B 400)), (1, zI f), (2, zI p)]) ⟨zlI rfl (by first | rfl | omega | (push_cast; omega) | exact congrArg (_ + ·) (zbT (by assumption)) | exact congrArg (_ + ·) (zbF (by assumption)) | exact congrArg (_ + ·) (zbT (by omega)) | exact congrArg (_ + ·) (zbF (by omega)) | exact congrArg (_ + ·) (if_pos (by omega)).symm | exact congrArg (_ + ·) (if_neg (by omega)).symm | exact (if_pos (by omega)).symm | exact (if_neg (by omega)).symm | exact zsub_s (if_pos (by omega)).symm | exact zsub_s0 (if_neg (by omega)).symm | exact zadd0 (if_neg (by omega)).symm | exact zadd0 (zbF (by omega)) | exact (Int.sub_zero _).symm), zlI rfl (by first | rfl | omega | (push_cast; omega) | exact congrArg (_ + ·) (zbT (by assumption)) | exact congrArg (_ + ·) (zbF (by assumption)) | exact congrArg (_ + ·) (zbT (by omega)) | exact congrArg (_ + ·) (zbF (by omega)) | exact congrArg (_ + ·) (if_pos (by omega)).symm | exact congrArg (_ + ·) (if_neg (by omega)).symm | exact (if_pos (by omega)).symm | exact (if_neg (by omega)).symm | exact zsub_s (if_pos (by omega)).symm | exact zsub_s0 (if_neg (by omega)).symm | exact zadd0 (if_neg (by omega)).symm | exact zadd0 (zbF (by omega)) | exact (Int.sub_zero _).symm), rfl, rfl, rfl, trivial⟩ ih5
          · refine zF_iinc 61 (ls' := [(3, zI ((mHs N p f i) + 1)), (4, zI (i : Int)), (0, zR (B 400)), (1, zI f), (2, zI p)]) dX5_heldScreens_58 rfl rfl rfl (by decide) rfl ?_
            refine zF_iinc 64 (ls' := [(4, zI ((i : Int) + 1)), (3, zI ((mHs N p f i) + 1)), (0, zR (B 400)), (1, zI f), (2, zI p)]) dX5_heldScreens_61 rfl rfl rfl (by decide) rfl ?_
            refine zF_goto 5 dX5_heldScreens_64 rfl ?_
            exact zF_locs (ls' := [(4, zI ((i + 1 : Nat) : Int)), (3, zI (mHs N p f (i + 1))), (0, zR (B 400)), (1, zI f), (2, zI p)]) ⟨zlI rfl (by first | rfl | omega | (push_cast; omega) | exact congrArg (_ + ·) (zbT (by assumption)) | exact congrArg (_ + ·) (zbF (by assumption)) | exact congrArg (_ + ·) (zbT (by omega)) | exact congrArg (_ + ·) (zbF (by omega)) | exact congrArg (_ + ·) (if_pos (by omega)).symm | exact congrArg (_ + ·) (if_neg (by omega)).symm | exact (if_pos (by omega)).symm | exact (if_neg (by omega)).symm | exact zsub_s (if_pos (by omega)).symm | exact zsub_s0 (if_neg (by omega)).symm | exact zadd0 (if_neg (by omega)).symm | exact zadd0 (zbF (by omega)) | exact (Int.sub_zero _).symm), zlI rfl (by first | rfl | omega | (push_cast; omega) | exact congrArg (_ + ·) (zbT (by assumption)) | exact congrArg (_ + ·) (zbF (by assumption)) | exact congrArg (_ + ·) (zbT (by omega)) | exact congrArg (_ + ·) (zbF (by omega)) | exact congrArg (_ + ·) (if_pos (by omega)).symm | exact congrArg (_ + ·) (if_neg (by omega)).symm | exact (if_pos (by omega)).symm | exact (if_neg (by omega)).symm | exact zsub_s (if_pos (by omega)).symm | exact zsub_s0 (if_neg (by omega)).symm | exact zadd0 (if_neg (by omega)).symm | exact zadd0 (zbF (by omega)) | exact (Int.sub_zero _).symm), rfl, rfl, rfl, trivial⟩ ih5
  · show zF G mX5_heldScreens d 5 [(4, zI (((nS N) : Nat) : Int)), (3, zI (mHs N p f (nS N))), (0, zR (B 400)), (1, zI f), (2, zI p)] [] σ _
    have qh := mHs_b N p f (nS N)
    refine zF_iload 7 dX5_heldScreens_5 rfl rfl ?_
    refine zF_aload_n 8 dX5_heldScreens_7 rfl rfl ?_
    refine zF_getR 11 dX5_heldScreens_8 rfl gX5_39 hP.1 hP.2.1 hP.2.2.1 ?_
    refine zF_getI 14 dX5_heldScreens_11 rfl gX5_89 (by decide) (by decide) hB.ch.1 hB.ch.2.1 hR.c.1.2.1 ?_
    refine zF_icmp_ge 67 17 dX5_heldScreens_14 rfl rfl (by first | decide | assumption | exact hb _ | exact mSh_rg hb _ _ | exact zb_rg _ | (constructor <;> omega)) (by first | decide | assumption | exact hb _ | exact mSh_rg hb _ _ | exact zb_rg _ | (constructor <;> omega)) (fun c5 => ?_) (fun c5 => ?_)
    · refine zF_iload_n 68 dX5_heldScreens_67 rfl rfl ?_
      exact zF_iretP dX5_heldScreens_68 rfl (rfl)
    · exact absurd c5 (by omega)
theorem zt_X5_gainChange {f p v : Int} (hB : cM σ B) (hP : cPr σ B) (hR : cR N σ B) (hV : mV N) (hQ : mC4 N) (f0 : 0 ≤ f) (f1 : f < N 2) (p0 : -1 ≤ p) (pN : p < N 0) (v0 : -1 ≤ v) (v1 : v ≤ 1) (hr0 : zia σ (B 408) 0 = 0) (g4 : g411 N σ B (N 0)) : zE G mX5_gainChange (d + 6) [zR (B 400), zI p, zI f, zI v] σ (fun ro σ1 => ro = .inl (some (zI (gC N f p v))) ∧ zFr (PGG B) σ σ1 ∧ -60000000 ≤ gC N f p v ∧ gC N f p v ≤ 60000000) := by
  refine zE_of rfl (by simp [zcat]) (Nat.le_of_ble_eq_true rfl) ?_
  show zF G mX5_gainChange (d + 6) 0 [(0, zR (B 400)), (1, zI p), (2, zI f), (3, zI v)] [] σ _
  have hb := hV.b
  have hn := hV.n
  have hnn := nn_eq hQ p
  have hf0 := nF_eq hV
  refine zF_iload_n 1 dX5_gainChange_0 rfl rfl ?_
  refine zF_iconst 2 dX5_gainChange_1 rfl ?_
  refine zF_icmp_ne 7 5 dX5_gainChange_2 rfl rfl (by first | decide | assumption | exact hb _ | (constructor <;> omega)) (by first | decide | assumption | exact hb _ | (constructor <;> omega)) (fun c1 => ?_) (fun c1 => ?_)
  · refine zF_aload_n 8 dX5_gainChange_7 rfl rfl ?_
    refine zF_iload_n 9 dX5_gainChange_8 rfl rfl ?_
    refine zF_callV 12 (d2 := (d + 5)) (as := [zI p]) dX5_gainChange_9 rfl kX5_51 iX5_prepare (ci := 5) rfl eX5_prepare (Nat.le_refl _) hP.1 hP.2.1 rfl rfl (Nat.le_of_ble_eq_true rfl) (zE.mono (zt_X5_prepare hB hP hR hV hQ (h := p) (by omega) pN hr0) fun ro σa1 hh1 => ?_)
    obtain ⟨er1, fr1, p1⟩ := hh1
    subst er1
    refine ⟨fr1.1, ?_⟩
    show zF G mX5_gainChange (d + 6) 12 [(0, zR (B 400)), (1, zI p), (2, zI f), (3, zI v)] [] σa1 _
    have fp := PGG_pr hB.inj fr1
    have hB2 := cM_fr hB fp
    have hP2 := cPr_fr hP fp
    have hR2 := PGG_cR hB fp hR
    have pv1 := p1
    refine zF_aload_n 13 dX5_gainChange_12 rfl rfl ?_
    refine zF_getR 16 dX5_gainChange_13 rfl gX5_18 hP2.1 hP2.2.1 (cB_407 hP2).1 ?_
    refine zF_iload_n 17 dX5_gainChange_16 rfl rfl ?_
    refine zF_dup2 18 dX5_gainChange_17 rfl rfl rfl ?_
    refine zF_iaload 19 dX5_gainChange_18 rfl (cB_407 hP2).2.2 (cB_407 hP2).2.1 (by omega) (by omega) (pv1.2.2.2.2.1 f f0 f1) ?_
    refine zF_iload_n 20 dX5_gainChange_19 rfl rfl ?_
    refine zF_iadd 21 dX5_gainChange_20 rfl ?_
    refine zF_iastore 22 dX5_gainChange_21 rfl (cB_407 hP2).2.2 (cB_407 hP2).2.1 (by omega) (by omega) ?_
    have fr3 : zFr (PGG B) σ (zsi σa1 (B 407) f ((mP N f p) + v)) := zFr_si (PGG_1 hB.inj (by decide) (by decide)) fp
    have hB3 := cM_fr hB fr3
    have hP3 := cPr_fr hP fr3
    have hR3 := PGG_cR hB fr3 hR
    have v3 := cPv_lim (N := N) (x := v) (σ := σa1) (h := p) (f := f) hB.inj p1 (rfl : mP N f p + v = _)
    refine zF_aload_n 23 dX5_gainChange_22 rfl rfl ?_
    refine zF_callV 26 (d2 := (d + 5)) (as := []) dX5_gainChange_23 rfl kX5_55 iX5_search (ci := 5) rfl eX5_search (Nat.le_refl _) hP2.1 hP2.2.1 rfl rfl (Nat.le_of_ble_eq_true rfl) (zE.mono (zt_X5_search (h := p) (lim := limD N p f v) hB3 hP3 hR3 hV hQ (by omega) pN v3 (fun k hk => by have := ch0_b hV (h := p) (k := (k : Int)) (by omega) (by omega); constructor <;> omega) (limD_r hV (by omega) (by omega) v0 v1)) fun ro σg2 hh2 => ?_)
    obtain ⟨g2, er2, fr2, pm2, gl2, gu2⟩ := hh2
    subst er2
    refine ⟨fr2.1, ?_⟩
    have fA := fr3.tr (PGG_se hB.inj fr2)
    have hP4 := cPr_fr hP fA
    have hB4 := cM_fr hB fA
    have g44 := g411_fr g4 (PGG_n hB.inj fA (by omega))
    have eg := bG_eq pm2
    have gp := g44 p (by omega) pN
    have ge : gC N f p v = bG N p (limD N p f v) - bG N p (lmP N p) := if_neg (by omega)
    refine zF_aload_n 27 dX5_gainChange_26 rfl rfl ?_
    refine zF_getR 30 dX5_gainChange_27 rfl gX5_30 hP4.1 hP4.2.1 (cB_411 hP4).1 ?_
    refine zF_iload_n 31 dX5_gainChange_30 rfl rfl ?_
    refine zF_iaload 32 dX5_gainChange_31 rfl (cB_411 hP4).2.2 (cB_411 hP4).2.1 (by omega) (by omega) gp.1 ?_
    refine zF_isub 33 dX5_gainChange_32 rfl ?_
    exact zF_ireturn dX5_gainChange_33 rfl (⟨congrArg (fun z => Sum.inl (some (zI z))) (by rw [ge, eg]), fA, by omega⟩)
  · refine zF_iconst 6 dX5_gainChange_5 rfl ?_
    exact zF_ireturn dX5_gainChange_6 rfl (⟨congrArg (fun z => Sum.inl (some (zI z))) (if_pos (by omega)).symm, zFr.rf, by rw [show gC N f p v = 0 from if_pos (by omega)]; omega⟩)
theorem zia_N {h h2 : Nat} {i j v : Int} (e : h2 ≠ h) : zia (zsi σ h i v) h2 j = zia σ h2 j := zsi_N e rfl
theorem zt_X5_weighPlaces {f : Nat} (hB : cM σ B) (hP : cPr σ B) (hR : cR N σ B) (hV : mV N) (hQ : mC4 N) (hf : f < nF N) (hr0 : zia σ (B 408) 0 = 0) (g4 : g411 N σ B (N 0)) : zE G mX5_weighPlaces (d + 7) [zR (B 400), zI (f : Int)] σ (fun ro σ1 => ro = .inl none ∧ zFr (PWX B) σ σ1 ∧ wI σ1 (B 412) (oL N f) (nH N + 1) ∧ wI σ1 (B 413) (oM N f) (nH N + 1)) := by
  refine zE_of rfl (by simp [zcat]) (Nat.le_of_ble_eq_true rfl) ?_
  show zF G mX5_weighPlaces (d + 7) 0 [(0, zR (B 400)), (1, zI (f : Int))] [] σ _
  have hb := hV.b
  have hn := hV.n
  have hf0 := nF_eq hV
  have hh0 := nH_eq hV
  have hs := nS_eq hV
  refine zF_aload_n 1 dX5_weighPlaces_0 rfl rfl ?_
  refine zF_getR 4 dX5_weighPlaces_1 rfl gX5_33 hP.1 hP.2.1 (cB_412 hP).1 ?_
  refine zF_ldc 6 dX5_weighPlaces_4 rfl oX5_159 ?_
  refine zF_callS 9 (d2 := (d + 6)) (as := [zR (B 412), zI (-1000000000)]) dX5_weighPlaces_6 rfl kX5_113 sJ7_fill_53178 (Nat.le_refl _) rfl rfl (Nat.le_of_ble_eq_true rfl) (zE.mono (zt_J7_fill (cB_412 hP).2.2 (cB_412 hP).2.1 (by decide)) fun ro σa1 hh1 => ?_)
  obtain ⟨er1, fr1, p1⟩ := hh1
  subst er1
  refine ⟨fr1.1, ?_⟩
  show zF G mX5_weighPlaces (d + 7) 9 [(0, zR (B 400)), (1, zI (f : Int))] [] σa1 _
  have ff1 : zFr (PWX B) σ σa1 := (zFr.rf : zFr (PWX B) σ σ).tr (fr1.wk fun _ _ q => q ▸ PWX_1 hB.inj (by decide) (by decide))
  have hBf1 := cM_fr hB ff1
  have hPf1 := cPr_fr hP ff1
  refine zF_aload_n 10 dX5_weighPlaces_9 rfl rfl ?_
  refine zF_getR 13 dX5_weighPlaces_10 rfl gX5_36 hPf1.1 hPf1.2.1 (cB_413 hPf1).1 ?_
  refine zF_ldc 15 dX5_weighPlaces_13 rfl oX5_159 ?_
  refine zF_callS 18 (d2 := (d + 6)) (as := [zR (B 413), zI (-1000000000)]) dX5_weighPlaces_15 rfl kX5_113 sJ7_fill_53178 (Nat.le_refl _) rfl rfl (Nat.le_of_ble_eq_true rfl) (zE.mono (zt_J7_fill (cB_413 hPf1).2.2 (cB_413 hPf1).2.1 (by decide)) fun ro σa2 hh2 => ?_)
  obtain ⟨er2, fr2, p2⟩ := hh2
  subst er2
  refine ⟨fr2.1, ?_⟩
  show zF G mX5_weighPlaces (d + 7) 18 [(0, zR (B 400)), (1, zI (f : Int))] [] σa2 _
  have ff2 : zFr (PWX B) σ σa2 := ff1.tr (fr2.wk fun _ _ q => q ▸ PWX_1 hB.inj (by decide) (by decide))
  have hBf2 := cM_fr hB ff2
  have hPf2 := cPr_fr hP ff2
  refine zF_iconst 19 dX5_weighPlaces_18 rfl ?_
  refine zF_istore_n 20 (ls' := [(2, zI (-1)), (0, zR (B 400)), (1, zI (f : Int))]) dX5_weighPlaces_19 rfl (by decide) rfl ?_
  refine zF_locs (ls' := [(2, zI (((0 : Nat) : Int) - 1)), (0, zR (B 400)), (1, zI (f : Int))]) ⟨zlI rfl (by first | rfl | omega | (push_cast; omega) | exact congrArg (_ + ·) (zbT (by assumption)) | exact congrArg (_ + ·) (zbF (by assumption)) | exact congrArg (_ + ·) (zbT (by omega)) | exact congrArg (_ + ·) (zbF (by omega)) | exact congrArg (_ + ·) (if_pos (by omega)).symm | exact congrArg (_ + ·) (if_neg (by omega)).symm | exact (if_pos (by omega)).symm | exact (if_neg (by omega)).symm | exact zsub_s (if_pos (by omega)).symm | exact zsub_s0 (if_neg (by omega)).symm | exact zadd0 (if_neg (by omega)).symm | exact zadd0 (zbF (by omega)) | exact (Int.sub_zero _).symm), rfl, rfl, trivial⟩ ?_
  refine zF_while (X := Nat) (fun x => nH N + 1 - x) (fun x σ2 => x ≤ nH N + 1 ∧ zFr (PWX B) σ σ2 ∧ wI σ2 (B 412) (oL N f) x ∧ wI σ2 (B 413) (oM N f) x) (fun x => [(2, zI (((x : Nat) : Int) - 1)), (0, zR (B 400)), (1, zI (f : Int))]) ?_ 0 σa2 (⟨Nat.zero_le _, ff2, wI_fr (wI_0 rfl p1) (fun j => fr2.2.2.2.2.2 _ _ (fun e => absurd (hB.inj _ _ e) (by decide))), wI_0 rfl p2⟩)
  intro x σ2 hI20 ih20
  show zF G mX5_weighPlaces (d + 7) 20 [(2, zI (((x : Nat) : Int) - 1)), (0, zR (B 400)), (1, zI (f : Int))] [] σ2 _
  obtain ⟨hx, fw2, l12, l13⟩ := hI20
  have hB2 := cM_fr hB fw2
  have hP2 := cPr_fr hP fw2
  have hR2 := cR_sc hB (PWX_sc fw2) hR
  have h02 := cSc_0 (PWX_sc fw2) hr0
  have g42 := g411_fr g4 (PWX_n hB.inj fw2)
  refine zF_iload_n 21 dX5_weighPlaces_20 rfl rfl ?_
  refine zF_aload_n 22 dX5_weighPlaces_21 rfl rfl ?_
  refine zF_getR 25 dX5_weighPlaces_22 rfl gX5_39 hP2.1 hP2.2.1 hP2.2.2.1 ?_
  refine zF_getI 28 dX5_weighPlaces_25 rfl gX5_153 (by decide) (by decide) hB2.ch.1 hB2.ch.2.1 hR2.c.1.1 ?_
  refine zF_icmp_ge 93 31 dX5_weighPlaces_28 rfl rfl (by first | decide | assumption | exact hb _ | exact mSh_rg hb _ _ | exact zb_rg _ | (constructor <;> omega)) (by first | decide | assumption | exact hb _ | exact mSh_rg hb _ _ | exact zb_rg _ | (constructor <;> omega)) (fun c1 => ?_) (fun c1 => ?_)
  · exact zF_return dX5_weighPlaces_93 rfl (⟨rfl, fw2, by have ex : x = nH N + 1 := (by omega); rw [ex] at l12; exact l12, by have ex : x = nH N + 1 := (by omega); rw [ex] at l13; exact l13⟩)
  · have qp := hV.p (f : Int) (((x : Nat) : Int) - 1) (by omega) (by omega) (by omega) (by omega)
    have qm := mHs_b N (((x : Nat) : Int) - 1) (f : Int) (nS N)
    refine zF_aload_n 32 dX5_weighPlaces_31 rfl rfl ?_
    refine zF_getR 35 dX5_weighPlaces_32 rfl gX5_43 hP2.1 hP2.2.1 hP2.2.2.2.1 ?_
    refine zF_iload_n 36 dX5_weighPlaces_35 rfl rfl ?_
    refine zF_iload_n 37 dX5_weighPlaces_36 rfl rfl ?_
    refine zF_callVi 40 (d2 := (d + 6)) (as := [zI (f : Int), zI (((x : Nat) : Int) - 1)]) dX5_weighPlaces_37 rfl kX5_106 iX8_printsAt (ci := 8) rfl eX8_printsAt (Nat.le_refl _) hB2.st.1 hB2.st.2.1 rfl rfl (Nat.le_of_ble_eq_true rfl) (zt_X8_printsAt hB2 hR2 hV (by omega) (by omega) (by omega) (by omega)) ?_
    refine zF_istore_n 41 (ls' := [(3, zI (mP N (f : Int) (((x : Nat) : Int) - 1))), (2, zI (((x : Nat) : Int) - 1)), (0, zR (B 400)), (1, zI (f : Int))]) dX5_weighPlaces_40 rfl (by decide) rfl ?_
    refine zF_iload_n 42 dX5_weighPlaces_41 rfl rfl ?_
    refine zF_aload_n 43 dX5_weighPlaces_42 rfl rfl ?_
    refine zF_iload_n 44 dX5_weighPlaces_43 rfl rfl ?_
    refine zF_iload_n 45 dX5_weighPlaces_44 rfl rfl ?_
    refine zF_callVi 48 (d2 := (d + 6)) (as := [zI (f : Int), zI (((x : Nat) : Int) - 1)]) dX5_weighPlaces_45 rfl kX5_160 iX5_heldScreens (ci := 5) rfl eX5_heldScreens (Nat.le_refl _) hP2.1 hP2.2.1 rfl rfl (Nat.le_of_ble_eq_true rfl) (zt_X5_heldScreens hB2 hP2 hR2 hV (by first | decide | assumption | exact hb _ | exact mSh_rg hb _ _ | exact zb_rg _ | (constructor <;> omega)) (by first | decide | assumption | exact hb _ | exact mSh_rg hb _ _ | exact zb_rg _ | (constructor <;> omega))) ?_
    refine zF_icmp_le 66 51 dX5_weighPlaces_48 rfl rfl (by first | decide | assumption | exact hb _ | exact mSh_rg hb _ _ | exact zb_rg _ | (constructor <;> omega)) (by first | decide | assumption | exact hb _ | exact mSh_rg hb _ _ | exact zb_rg _ | (constructor <;> omega)) (fun c2 => ?_) (fun c2 => ?_)
    · have fw3 := fw2
      have q12 : wI σ2 (B 412) (oL N f) (x + 1) := wI_no l12 (by unfold oL; rw [if_pos (by omega), if_neg (by omega)])
      have q13 := l13
      have hB3 := cM_fr hB fw3
      have hP3 := cPr_fr hP fw3
      have hR3 := cR_sc hB (PWX_sc fw3) hR
      have h03 := cSc_0 (PWX_sc fw3) hr0
      have g43 := g411_fr g4 (PWX_n hB.inj fw3)
      refine zF_iload_n 67 dX5_weighPlaces_66 rfl rfl ?_
      refine zF_bipush 69 dX5_weighPlaces_67 rfl (by decide) ?_
      refine zF_icmp_ge 87 72 dX5_weighPlaces_69 rfl rfl (by first | decide | assumption | exact hb _ | exact mSh_rg hb _ _ | exact zb_rg _ | (constructor <;> omega)) (by first | decide | assumption | exact hb _ | exact mSh_rg hb _ _ | exact zb_rg _ | (constructor <;> omega)) (fun c3 => ?_) (fun c3 => ?_)
      · refine zF_iinc 90 (ls' := [(2, zI ((((x : Nat) : Int) - 1) + 1)), (3, zI (mP N (f : Int) (((x : Nat) : Int) - 1))), (0, zR (B 400)), (1, zI (f : Int))]) dX5_weighPlaces_87 rfl rfl rfl (by decide) rfl ?_
        refine zF_goto 20 dX5_weighPlaces_90 rfl ?_
        exact zF_locs (ls' := [(2, zI ((((x + 1) : Nat) : Int) - 1)), (0, zR (B 400)), (1, zI (f : Int))]) ⟨zlI rfl (by first | rfl | omega | (push_cast; omega) | exact congrArg (_ + ·) (zbT (by assumption)) | exact congrArg (_ + ·) (zbF (by assumption)) | exact congrArg (_ + ·) (zbT (by omega)) | exact congrArg (_ + ·) (zbF (by omega)) | exact congrArg (_ + ·) (if_pos (by omega)).symm | exact congrArg (_ + ·) (if_neg (by omega)).symm | exact (if_pos (by omega)).symm | exact (if_neg (by omega)).symm | exact zsub_s (if_pos (by omega)).symm | exact zsub_s0 (if_neg (by omega)).symm | exact zadd0 (if_neg (by omega)).symm | exact zadd0 (zbF (by omega)) | exact (Int.sub_zero _).symm), rfl, rfl, trivial⟩ (ih20 (x + 1) _ (by omega) (⟨by omega, fw3, q12, wI_no q13 (by unfold oM; rw [if_pos (by omega), if_neg (by omega)])⟩))
      · refine zF_aload_n 73 dX5_weighPlaces_72 rfl rfl ?_
        refine zF_getR 76 dX5_weighPlaces_73 rfl gX5_36 hP2.1 hP2.2.1 (cB_413 hP2).1 ?_
        refine zF_iload_n 77 dX5_weighPlaces_76 rfl rfl ?_
        refine zF_iconst 78 dX5_weighPlaces_77 rfl ?_
        refine zF_iadd 79 dX5_weighPlaces_78 rfl ?_
        refine zF_aload_n 80 dX5_weighPlaces_79 rfl rfl ?_
        refine zF_iload_n 81 dX5_weighPlaces_80 rfl rfl ?_
        refine zF_iload_n 82 dX5_weighPlaces_81 rfl rfl ?_
        refine zF_iconst 83 dX5_weighPlaces_82 rfl ?_
        refine zF_callV 86 (d2 := (d + 6)) (as := [zI (((x : Nat) : Int) - 1), zI (f : Int), zI 1]) dX5_weighPlaces_83 rfl kX5_163 iX5_gainChange (ci := 5) rfl eX5_gainChange (Nat.le_refl _) hP2.1 hP2.2.1 rfl rfl (Nat.le_of_ble_eq_true rfl) (zE.mono (zt_X5_gainChange (f := (f : Int)) (p := (((x : Nat) : Int) - 1)) (v := 1) hB3 hP3 hR3 hV hQ (by omega) (by omega) (by omega) (by omega) (by omega) (by omega) h03 g43) fun ro σg3 hh3 => ?_)
        obtain ⟨er3, fr3, gb3x⟩ := hh3
        subst er3
        refine ⟨fr3.1, ?_⟩
        have fg3 := fw3.tr (PWX_gg fr3)
        have hBg3 := cM_fr hB fg3
        have hPg3 := cPr_fr hP fg3
        refine zF_iastore 87 dX5_weighPlaces_86 rfl (cB_413 hPg3).2.2 (cB_413 hPg3).2.1 (by omega) (by omega) ?_
        refine zF_iinc 90 (ls' := [(2, zI ((((x : Nat) : Int) - 1) + 1)), (3, zI (mP N (f : Int) (((x : Nat) : Int) - 1))), (0, zR (B 400)), (1, zI (f : Int))]) dX5_weighPlaces_87 rfl rfl rfl (by decide) rfl ?_
        refine zF_goto 20 dX5_weighPlaces_90 rfl ?_
        exact zF_locs (ls' := [(2, zI ((((x + 1) : Nat) : Int) - 1)), (0, zR (B 400)), (1, zI (f : Int))]) ⟨zlI rfl (by first | rfl | omega | (push_cast; omega) | exact congrArg (_ + ·) (zbT (by assumption)) | exact congrArg (_ + ·) (zbF (by assumption)) | exact congrArg (_ + ·) (zbT (by omega)) | exact congrArg (_ + ·) (zbF (by omega)) | exact congrArg (_ + ·) (if_pos (by omega)).symm | exact congrArg (_ + ·) (if_neg (by omega)).symm | exact (if_pos (by omega)).symm | exact (if_neg (by omega)).symm | exact zsub_s (if_pos (by omega)).symm | exact zsub_s0 (if_neg (by omega)).symm | exact zadd0 (if_neg (by omega)).symm | exact zadd0 (zbF (by omega)) | exact (Int.sub_zero _).symm), rfl, rfl, trivial⟩ (ih20 (x + 1) _ (by omega) (⟨by omega, zFr_si (PWX_1 hB.inj (by decide) (by decide)) fg3, wI_fr q12 (fun j => (zia_N (fun e => absurd (hB.inj _ _ e) (by decide))).trans (PGG_n hB.inj fr3 (by omega) j)), wI_set q13 (PGG_n hB.inj fr3 (by omega)) (by omega) (by unfold oM; rw [if_pos (by omega), if_pos (by omega)]) (by omega)⟩))
    · refine zF_aload_n 52 dX5_weighPlaces_51 rfl rfl ?_
      refine zF_getR 55 dX5_weighPlaces_52 rfl gX5_33 hP2.1 hP2.2.1 (cB_412 hP2).1 ?_
      refine zF_iload_n 56 dX5_weighPlaces_55 rfl rfl ?_
      refine zF_iconst 57 dX5_weighPlaces_56 rfl ?_
      refine zF_iadd 58 dX5_weighPlaces_57 rfl ?_
      refine zF_aload_n 59 dX5_weighPlaces_58 rfl rfl ?_
      refine zF_iload_n 60 dX5_weighPlaces_59 rfl rfl ?_
      refine zF_iload_n 61 dX5_weighPlaces_60 rfl rfl ?_
      refine zF_iconst 62 dX5_weighPlaces_61 rfl ?_
      refine zF_callV 65 (d2 := (d + 6)) (as := [zI (((x : Nat) : Int) - 1), zI (f : Int), zI (-1)]) dX5_weighPlaces_62 rfl kX5_163 iX5_gainChange (ci := 5) rfl eX5_gainChange (Nat.le_refl _) hP2.1 hP2.2.1 rfl rfl (Nat.le_of_ble_eq_true rfl) (zE.mono (zt_X5_gainChange (f := (f : Int)) (p := (((x : Nat) : Int) - 1)) (v := (-1)) hB2 hP2 hR2 hV hQ (by omega) (by omega) (by omega) (by omega) (by omega) (by omega) h02 g42) fun ro σg4 hh4 => ?_)
      obtain ⟨er4, fr4, gb4x⟩ := hh4
      subst er4
      refine ⟨fr4.1, ?_⟩
      have fg4 := fw2.tr (PWX_gg fr4)
      have hBg4 := cM_fr hB fg4
      have hPg4 := cPr_fr hP fg4
      refine zF_iastore 66 dX5_weighPlaces_65 rfl (cB_412 hPg4).2.2 (cB_412 hPg4).2.1 (by omega) (by omega) ?_
      have fw3 : zFr (PWX B) σ (zsi σg4 (B 412) ((((x : Nat) : Int) - 1) + 1) (gC N (f : Int) (((x : Nat) : Int) - 1) (-1))) := zFr_si (PWX_1 hB.inj (by decide) (by decide)) fg4
      have q12 : wI (zsi σg4 (B 412) ((((x : Nat) : Int) - 1) + 1) (gC N (f : Int) (((x : Nat) : Int) - 1) (-1))) (B 412) (oL N f) (x + 1) := wI_set l12 (PGG_n hB.inj fr4 (by omega)) (by omega) (by unfold oL; rw [if_pos (by omega), if_pos (by omega)]) (by omega)
      have q13 : wI (zsi σg4 (B 412) ((((x : Nat) : Int) - 1) + 1) (gC N (f : Int) (((x : Nat) : Int) - 1) (-1))) (B 413) (oM N f) x := wI_fr l13 (fun j => (zia_N (fun e => absurd (hB.inj _ _ e) (by decide))).trans (PGG_n hB.inj fr4 (by omega) j))
      have hB3 := cM_fr hB fw3
      have hP3 := cPr_fr hP fw3
      have hR3 := cR_sc hB (PWX_sc fw3) hR
      have h03 := cSc_0 (PWX_sc fw3) hr0
      have g43 := g411_fr g4 (PWX_n hB.inj fw3)
      refine zF_iload_n 67 dX5_weighPlaces_66 rfl rfl ?_
      refine zF_bipush 69 dX5_weighPlaces_67 rfl (by decide) ?_
      refine zF_icmp_ge 87 72 dX5_weighPlaces_69 rfl rfl (by first | decide | assumption | exact hb _ | exact mSh_rg hb _ _ | exact zb_rg _ | (constructor <;> omega)) (by first | decide | assumption | exact hb _ | exact mSh_rg hb _ _ | exact zb_rg _ | (constructor <;> omega)) (fun c4 => ?_) (fun c4 => ?_)
      · refine zF_iinc 90 (ls' := [(2, zI ((((x : Nat) : Int) - 1) + 1)), (3, zI (mP N (f : Int) (((x : Nat) : Int) - 1))), (0, zR (B 400)), (1, zI (f : Int))]) dX5_weighPlaces_87 rfl rfl rfl (by decide) rfl ?_
        refine zF_goto 20 dX5_weighPlaces_90 rfl ?_
        exact zF_locs (ls' := [(2, zI ((((x + 1) : Nat) : Int) - 1)), (0, zR (B 400)), (1, zI (f : Int))]) ⟨zlI rfl (by first | rfl | omega | (push_cast; omega) | exact congrArg (_ + ·) (zbT (by assumption)) | exact congrArg (_ + ·) (zbF (by assumption)) | exact congrArg (_ + ·) (zbT (by omega)) | exact congrArg (_ + ·) (zbF (by omega)) | exact congrArg (_ + ·) (if_pos (by omega)).symm | exact congrArg (_ + ·) (if_neg (by omega)).symm | exact (if_pos (by omega)).symm | exact (if_neg (by omega)).symm | exact zsub_s (if_pos (by omega)).symm | exact zsub_s0 (if_neg (by omega)).symm | exact zadd0 (if_neg (by omega)).symm | exact zadd0 (zbF (by omega)) | exact (Int.sub_zero _).symm), rfl, rfl, trivial⟩ (ih20 (x + 1) _ (by omega) (⟨by omega, fw3, q12, wI_no q13 (by unfold oM; rw [if_pos (by omega), if_neg (by omega)])⟩))
      · refine zF_aload_n 73 dX5_weighPlaces_72 rfl rfl ?_
        refine zF_getR 76 dX5_weighPlaces_73 rfl gX5_36 hPg4.1 hPg4.2.1 (cB_413 hPg4).1 ?_
        refine zF_iload_n 77 dX5_weighPlaces_76 rfl rfl ?_
        refine zF_iconst 78 dX5_weighPlaces_77 rfl ?_
        refine zF_iadd 79 dX5_weighPlaces_78 rfl ?_
        refine zF_aload_n 80 dX5_weighPlaces_79 rfl rfl ?_
        refine zF_iload_n 81 dX5_weighPlaces_80 rfl rfl ?_
        refine zF_iload_n 82 dX5_weighPlaces_81 rfl rfl ?_
        refine zF_iconst 83 dX5_weighPlaces_82 rfl ?_
        refine zF_callV 86 (d2 := (d + 6)) (as := [zI (((x : Nat) : Int) - 1), zI (f : Int), zI 1]) dX5_weighPlaces_83 rfl kX5_163 iX5_gainChange (ci := 5) rfl eX5_gainChange (Nat.le_refl _) hPg4.1 hPg4.2.1 rfl rfl (Nat.le_of_ble_eq_true rfl) (zE.mono (zt_X5_gainChange (f := (f : Int)) (p := (((x : Nat) : Int) - 1)) (v := 1) hB3 hP3 hR3 hV hQ (by omega) (by omega) (by omega) (by omega) (by omega) (by omega) h03 g43) fun ro σg5 hh5 => ?_)
        obtain ⟨er5, fr5, gb5x⟩ := hh5
        subst er5
        refine ⟨fr5.1, ?_⟩
        have fg5 := fw3.tr (PWX_gg fr5)
        have hBg5 := cM_fr hB fg5
        have hPg5 := cPr_fr hP fg5
        refine zF_iastore 87 dX5_weighPlaces_86 rfl (cB_413 hPg5).2.2 (cB_413 hPg5).2.1 (by omega) (by omega) ?_
        refine zF_iinc 90 (ls' := [(2, zI ((((x : Nat) : Int) - 1) + 1)), (3, zI (mP N (f : Int) (((x : Nat) : Int) - 1))), (0, zR (B 400)), (1, zI (f : Int))]) dX5_weighPlaces_87 rfl rfl rfl (by decide) rfl ?_
        refine zF_goto 20 dX5_weighPlaces_90 rfl ?_
        exact zF_locs (ls' := [(2, zI ((((x + 1) : Nat) : Int) - 1)), (0, zR (B 400)), (1, zI (f : Int))]) ⟨zlI rfl (by first | rfl | omega | (push_cast; omega) | exact congrArg (_ + ·) (zbT (by assumption)) | exact congrArg (_ + ·) (zbF (by assumption)) | exact congrArg (_ + ·) (zbT (by omega)) | exact congrArg (_ + ·) (zbF (by omega)) | exact congrArg (_ + ·) (if_pos (by omega)).symm | exact congrArg (_ + ·) (if_neg (by omega)).symm | exact (if_pos (by omega)).symm | exact (if_neg (by omega)).symm | exact zsub_s (if_pos (by omega)).symm | exact zsub_s0 (if_neg (by omega)).symm | exact zadd0 (if_neg (by omega)).symm | exact zadd0 (zbF (by omega)) | exact (Int.sub_zero _).symm), rfl, rfl, trivial⟩ (ih20 (x + 1) _ (by omega) (⟨by omega, zFr_si (PWX_1 hB.inj (by decide) (by decide)) fg5, wI_fr q12 (fun j => (zia_N (fun e => absurd (hB.inj _ _ e) (by decide))).trans (PGG_n hB.inj fr5 (by omega) j)), wI_set q13 (PGG_n hB.inj fr5 (by omega)) (by omega) (by unfold oM; rw [if_pos (by omega), if_pos (by omega)]) (by omega)⟩))
theorem zt_X5_findMove (hB : cM σ B) (hP : cPr σ B) (hR : cR N σ B) (hV : mV N) (hQ : mC4 N) (hr0 : zia σ (B 408) 0 = 0) : zE G mX5_findMove (d + 8) [zR (B 400)] σ (fun ro σ1 => ro = .inl (some (zI (bmV N))) ∧ zFr (cSc B) σ σ1 ∧ True) := by
  refine zE_of rfl (by simp [zcat]) (Nat.le_of_ble_eq_true rfl) ?_
  show zF G mX5_findMove (d + 8) 0 [(0, zR (B 400))] [] σ _
  have hb := hV.b
  have hn := hV.n
  have hf0 := nF_eq hV
  have hh0 := nH_eq hV
  refine zF_iconst 1 dX5_findMove_0 rfl ?_
  refine zF_istore_n 2 (ls' := [(1, zI 0), (0, zR (B 400))]) dX5_findMove_1 rfl (by decide) rfl ?_
  refine zF_locs (ls' := [(1, zI ((0 : Nat) : Int)), (0, zR (B 400))]) ⟨zlI rfl (by first | rfl | omega | (push_cast; omega) | exact congrArg (_ + ·) (zbT (by assumption)) | exact congrArg (_ + ·) (zbF (by assumption)) | exact congrArg (_ + ·) (zbT (by omega)) | exact congrArg (_ + ·) (zbF (by omega)) | exact congrArg (_ + ·) (if_pos (by omega)).symm | exact congrArg (_ + ·) (if_neg (by omega)).symm | exact (if_pos (by omega)).symm | exact (if_neg (by omega)).symm | exact zsub_s (if_pos (by omega)).symm | exact zsub_s0 (if_neg (by omega)).symm | exact zadd0 (if_neg (by omega)).symm | exact zadd0 (zbF (by omega)) | exact (Int.sub_zero _).symm), rfl, trivial⟩ ?_
  refine zF_while (X := Nat) (fun x => nH N - x) (fun x σ2 => x ≤ nH N ∧ zFr (cSc B) σ σ2 ∧ g411 N σ2 B ((x : Nat) : Int)) (fun x => [(1, zI ((x : Nat) : Int)), (0, zR (B 400))]) ?_ 0 σ (⟨Nat.zero_le _, zFr.rf, fun k k0 k1 => absurd k1 (by omega)⟩)
  intro x σ2 hI2 ih2
  show zF G mX5_findMove (d + 8) 2 [(1, zI ((x : Nat) : Int)), (0, zR (B 400))] [] σ2 _
  obtain ⟨hx, f2, g42⟩ := hI2
  have hB2 := cM_fr hB f2
  have hP2 := cPr_fr hP f2
  have hR2 := cR_sc hB f2 hR
  have h02 := cSc_0 f2 hr0
  refine zF_iload_n 3 dX5_findMove_2 rfl rfl ?_
  refine zF_aload_n 4 dX5_findMove_3 rfl rfl ?_
  refine zF_getR 7 dX5_findMove_4 rfl gX5_39 hP2.1 hP2.2.1 hP2.2.2.1 ?_
  refine zF_getI 10 dX5_findMove_7 rfl gX5_153 (by decide) (by decide) hB2.ch.1 hB2.ch.2.1 hR2.c.1.1 ?_
  refine zF_icmp_ge 30 13 dX5_findMove_10 rfl rfl (by first | decide | assumption | exact hb _ | exact mSh_rg hb _ _ | exact zb_rg _ | (constructor <;> omega)) (by first | decide | assumption | exact hb _ | exact mSh_rg hb _ _ | exact zb_rg _ | (constructor <;> omega)) (fun c1 => ?_) (fun c1 => ?_)
  · refine zF_iconst 31 dX5_findMove_30 rfl ?_
    refine zF_istore_n 32 (ls' := [(1, zI 0), (0, zR (B 400))]) dX5_findMove_31 rfl (by decide) rfl ?_
    refine zF_iconst 33 dX5_findMove_32 rfl ?_
    refine zF_istore_n 34 (ls' := [(2, zI (-1)), (1, zI 0), (0, zR (B 400))]) dX5_findMove_33 rfl (by decide) rfl ?_
    refine zF_iconst 35 dX5_findMove_34 rfl ?_
    refine zF_istore_n 36 (ls' := [(3, zI 0), (2, zI (-1)), (1, zI 0), (0, zR (B 400))]) dX5_findMove_35 rfl (by decide) rfl ?_
    refine zF_locs (ls' := [(3, zI ((0 : Nat) : Int)), (2, zI (-1)), (1, zI 0), (0, zR (B 400))]) ⟨zlI rfl (by first | rfl | omega | (push_cast; omega) | exact congrArg (_ + ·) (zbT (by assumption)) | exact congrArg (_ + ·) (zbF (by assumption)) | exact congrArg (_ + ·) (zbT (by omega)) | exact congrArg (_ + ·) (zbF (by omega)) | exact congrArg (_ + ·) (if_pos (by omega)).symm | exact congrArg (_ + ·) (if_neg (by omega)).symm | exact (if_pos (by omega)).symm | exact (if_neg (by omega)).symm | exact zsub_s (if_pos (by omega)).symm | exact zsub_s0 (if_neg (by omega)).symm | exact zadd0 (if_neg (by omega)).symm | exact zadd0 (zbF (by omega)) | exact (Int.sub_zero _).symm), rfl, rfl, rfl, trivial⟩ ?_
    refine zF_while (X := Int × Int × Nat) (fun x => nF N - x.2.2) (fun x σ3 => x.2.2 ≤ nF N ∧ zFr (cSc B) σ σ3 ∧ g411 N σ3 B (N 0) ∧ bmJ N (100 * (x.2.2 : Int)) x.1 x.2.1 ∧ x.2.1 ≤ 200000000) (fun x => [(3, zI ((x.2.2 : Nat) : Int)), (2, zI x.1), (1, zI x.2.1), (0, zR (B 400))]) ?_ ((-1), 0, 0) σ2 (⟨Nat.zero_le _, f2, by rw [show N 0 = ((x : Nat) : Int) by omega]; exact g42, bmJ_0, by show (0 : Int) ≤ 200000000; decide⟩)
    intro ⟨fo, mo, f⟩ σ3 hI36 ih36
    show zF G mX5_findMove (d + 8) 36 [(3, zI ((f : Nat) : Int)), (2, zI fo), (1, zI mo), (0, zR (B 400))] [] σ3 _
    obtain ⟨hf, f3, g43, j3, m3⟩ := hI36
    dsimp only at hf j3 m3
    have hB3 := cM_fr hB f3
    have hP3 := cPr_fr hP f3
    have hR3 := cR_sc hB f3 hR
    have h03 := cSc_0 f3 hr0
    have j30 := j3.1
    refine zF_iload_n 37 dX5_findMove_36 rfl rfl ?_
    refine zF_aload_n 38 dX5_findMove_37 rfl rfl ?_
    refine zF_getR 41 dX5_findMove_38 rfl gX5_39 hP3.1 hP3.2.1 hP3.2.2.1 ?_
    refine zF_getI 44 dX5_findMove_41 rfl gX5_71 (by decide) (by decide) hB3.ch.1 hB3.ch.2.1 hR3.c.1.2.2 ?_
    refine zF_icmp_ge 142 47 dX5_findMove_44 rfl rfl (by first | decide | assumption | exact hb _ | exact mSh_rg hb _ _ | exact zb_rg _ | (constructor <;> omega)) (by first | decide | assumption | exact hb _ | exact mSh_rg hb _ _ | exact zb_rg _ | (constructor <;> omega)) (fun c2 => ?_) (fun c2 => ?_)
    · refine zF_iload_n 143 dX5_findMove_142 rfl rfl ?_
      exact zF_ireturn dX5_findMove_143 rfl (⟨congrArg (fun z => Sum.inl (some (zI z))) (bmJ_V (bmJ_skip j3 (by omega) (fun f2 p2 q2 v l => by unfold cdM at l ⊢; have := v.1; have := v.2.1; have := v.2.2; omega))), f3, trivial⟩)
    · refine zF_aload_n 48 dX5_findMove_47 rfl rfl ?_
      refine zF_iload_n 49 dX5_findMove_48 rfl rfl ?_
      refine zF_callV 52 (d2 := (d + 7)) (as := [zI ((f : Nat) : Int)]) dX5_findMove_49 rfl kX5_156 iX5_weighPlaces (ci := 5) rfl eX5_weighPlaces (Nat.le_refl _) hP3.1 hP3.2.1 rfl rfl (Nat.le_of_ble_eq_true rfl) (zE.mono (zt_X5_weighPlaces (f := f) hB3 hP3 hR3 hV hQ (by omega) h03 g43) fun ro σg1 hh1 => ?_)
      obtain ⟨er1, fr1, wl1, wm1⟩ := hh1
      subst er1
      refine ⟨fr1.1, ?_⟩
      have f4 := f3.tr (PWX_sc fr1)
      have hB4 := cM_fr hB f4
      have hP4 := cPr_fr hP f4
      have hR4 := cR_sc hB f4 hR
      have h04 := cSc_0 f4 hr0
      have g44 := g411_fr g43 (PWX_n hB.inj fr1)
      refine zF_iconst 53 dX5_findMove_52 rfl ?_
      refine zF_istore 55 (ls' := [(4, zI 0), (3, zI ((f : Nat) : Int)), (2, zI fo), (1, zI mo), (0, zR (B 400))]) dX5_findMove_53 rfl (by decide) rfl ?_
      refine zF_locs (ls' := [(4, zI ((0 : Nat) : Int)), (3, zI ((f : Nat) : Int)), (2, zI fo), (1, zI mo), (0, zR (B 400))]) ⟨zlI rfl (by first | rfl | omega | (push_cast; omega) | exact congrArg (_ + ·) (zbT (by assumption)) | exact congrArg (_ + ·) (zbF (by assumption)) | exact congrArg (_ + ·) (zbT (by omega)) | exact congrArg (_ + ·) (zbF (by omega)) | exact congrArg (_ + ·) (if_pos (by omega)).symm | exact congrArg (_ + ·) (if_neg (by omega)).symm | exact (if_pos (by omega)).symm | exact (if_neg (by omega)).symm | exact zsub_s (if_pos (by omega)).symm | exact zsub_s0 (if_neg (by omega)).symm | exact zadd0 (if_neg (by omega)).symm | exact zadd0 (zbF (by omega)) | exact (Int.sub_zero _).symm), rfl, rfl, rfl, rfl, trivial⟩ ?_
      refine zF_while (X := Int × Int × Nat) (fun x => 25 - x.2.2) (fun x σ5 => x.2.2 ≤ 25 ∧ σ5 = σg1 ∧ bmJ N (100 * (f : Int) + 10 * ((x.2.2 : Int) / 5) + (x.2.2 : Int) % 5) x.1 x.2.1 ∧ x.2.1 ≤ 200000000) (fun x => [(4, zI ((x.2.2 : Nat) : Int)), (3, zI ((f : Nat) : Int)), (2, zI x.1), (1, zI x.2.1), (0, zR (B 400))]) ?_ (fo, mo, 0) σg1 (⟨Nat.zero_le _, rfl, by show bmJ N (100 * (f : Int) + 10 * (((0 : Nat) : Int) / 5) + ((0 : Nat) : Int) % 5) fo mo; rw [show 100 * (f : Int) + 10 * (((0 : Nat) : Int) / 5) + ((0 : Nat) : Int) % 5 = 100 * (f : Int) by omega]; exact j3, m3⟩)
      intro ⟨fo5, mo5, x⟩ σ5 hI55 ih55
      show zF G mX5_findMove (d + 8) 55 [(4, zI ((x : Nat) : Int)), (3, zI ((f : Nat) : Int)), (2, zI fo5), (1, zI mo5), (0, zR (B 400))] [] σ5 _
      obtain ⟨hx, e5, j5, m5⟩ := hI55
      dsimp only at hx j5 m5
      subst e5
      have j50 := j5.1
      refine zF_iload 57 dX5_findMove_55 rfl rfl ?_
      refine zF_bipush 59 dX5_findMove_57 rfl (by decide) ?_
      refine zF_icmp_ge 136 62 dX5_findMove_59 rfl rfl (by first | decide | assumption | exact hb _ | exact mSh_rg hb _ _ | exact zb_rg _ | (constructor <;> omega)) (by first | decide | assumption | exact hb _ | exact mSh_rg hb _ _ | exact zb_rg _ | (constructor <;> omega)) (fun c3 => ?_) (fun c3 => ?_)
      · refine zF_iinc 139 (ls' := [(3, zI (((f : Nat) : Int) + 1)), (4, zI ((x : Nat) : Int)), (2, zI fo5), (1, zI mo5), (0, zR (B 400))]) dX5_findMove_136 rfl rfl rfl (by decide) rfl ?_
        refine zF_goto 36 dX5_findMove_139 rfl ?_
        exact zF_locs (ls' := [(3, zI (((f + 1) : Nat) : Int)), (2, zI fo5), (1, zI mo5), (0, zR (B 400))]) ⟨zlI rfl (by first | rfl | omega | (push_cast; omega) | exact congrArg (_ + ·) (zbT (by assumption)) | exact congrArg (_ + ·) (zbF (by assumption)) | exact congrArg (_ + ·) (zbT (by omega)) | exact congrArg (_ + ·) (zbF (by omega)) | exact congrArg (_ + ·) (if_pos (by omega)).symm | exact congrArg (_ + ·) (if_neg (by omega)).symm | exact (if_pos (by omega)).symm | exact (if_neg (by omega)).symm | exact zsub_s (if_pos (by omega)).symm | exact zsub_s0 (if_neg (by omega)).symm | exact zadd0 (if_neg (by omega)).symm | exact zadd0 (zbF (by omega)) | exact (Int.sub_zero _).symm), rfl, rfl, rfl, trivial⟩ (ih36 (fo5, mo5, (f + 1)) _ (by show nF N - (f + 1) < nF N - f; omega) (⟨by show f + 1 ≤ nF N; omega, f4, g44, bmJ_skip j5 (by show _ ≤ 100 * ((f + 1 : Nat) : Int); omega) (fun f2 p2 q2 v l => by replace l : cdM f2 p2 q2 < 100 * ((f + 1 : Nat) : Int) := l; unfold cdM at l ⊢; have := v.1; have := v.2.1; have := v.2.2; omega), m5⟩))
      · have ql := wI_at wl1 (fun y hy => oL_hi hy hh0.1) (y := ((x : Nat) : Int) / 5) (by omega) (by omega)
        have qm := wI_at wm1 (fun y hy => oM_hi hy hh0.1) (y := ((x : Nat) : Int) % 5) (by omega) (by omega)
        refine zF_iload 64 dX5_findMove_62 rfl rfl ?_
        refine zF_iconst 65 dX5_findMove_64 rfl ?_
        refine zF_idiv 66 dX5_findMove_65 rfl (by omega) (by omega) (by omega) (by omega) ?_
        refine zF_istore 68 (ls' := [(5, zI (((x : Nat) : Int) / 5)), (4, zI ((x : Nat) : Int)), (3, zI ((f : Nat) : Int)), (2, zI fo5), (1, zI mo5), (0, zR (B 400))]) dX5_findMove_66 rfl (by decide) rfl ?_
        refine zF_iload 70 dX5_findMove_68 rfl rfl ?_
        refine zF_iconst 71 dX5_findMove_70 rfl ?_
        refine zF_irem 72 dX5_findMove_71 rfl (by omega) (by omega) (by omega) (by omega) ?_
        refine zF_istore 74 (ls' := [(6, zI (((x : Nat) : Int) % 5)), (5, zI (((x : Nat) : Int) / 5)), (4, zI ((x : Nat) : Int)), (3, zI ((f : Nat) : Int)), (2, zI fo5), (1, zI mo5), (0, zR (B 400))]) dX5_findMove_72 rfl (by decide) rfl ?_
        refine zF_iload 76 dX5_findMove_74 rfl rfl ?_
        refine zF_iload 78 dX5_findMove_76 rfl rfl ?_
        refine zF_icmp_eq 130 81 dX5_findMove_78 rfl rfl (by first | decide | assumption | exact hb _ | exact mSh_rg hb _ _ | exact zb_rg _ | (constructor <;> omega)) (by first | decide | assumption | exact hb _ | exact mSh_rg hb _ _ | exact zb_rg _ | (constructor <;> omega)) (fun c4 => ?_) (fun c4 => ?_)
        · refine zF_iinc 133 (ls' := [(4, zI (((x : Nat) : Int) + 1)), (6, zI (((x : Nat) : Int) % 5)), (5, zI (((x : Nat) : Int) / 5)), (3, zI ((f : Nat) : Int)), (2, zI fo5), (1, zI mo5), (0, zR (B 400))]) dX5_findMove_130 rfl rfl rfl (by decide) rfl ?_
          refine zF_goto 55 dX5_findMove_133 rfl ?_
          exact zF_locs (ls' := [(4, zI (((x + 1) : Nat) : Int)), (3, zI ((f : Nat) : Int)), (2, zI fo5), (1, zI mo5), (0, zR (B 400))]) ⟨zlI rfl (by first | rfl | omega | (push_cast; omega) | exact congrArg (_ + ·) (zbT (by assumption)) | exact congrArg (_ + ·) (zbF (by assumption)) | exact congrArg (_ + ·) (zbT (by omega)) | exact congrArg (_ + ·) (zbF (by omega)) | exact congrArg (_ + ·) (if_pos (by omega)).symm | exact congrArg (_ + ·) (if_neg (by omega)).symm | exact (if_pos (by omega)).symm | exact (if_neg (by omega)).symm | exact zsub_s (if_pos (by omega)).symm | exact zsub_s0 (if_neg (by omega)).symm | exact zadd0 (if_neg (by omega)).symm | exact zadd0 (zbF (by omega)) | exact (Int.sub_zero _).symm), rfl, rfl, rfl, rfl, trivial⟩ (ih55 (fo5, mo5, (x + 1)) _ (by show 25 - (x + 1) < 25 - x; omega) (⟨by show x + 1 ≤ 25; omega, rfl, by have z := bm_step hV (f := f) (x := x) (by omega) (by omega) j5 rfl rfl (by omega) (by omega); rw [if_neg (by omega), if_neg (by omega)] at z; exact z, m5⟩))
        · refine zF_aload_n 82 dX5_findMove_81 rfl rfl ?_
          refine zF_getR 85 dX5_findMove_82 rfl gX5_33 hP4.1 hP4.2.1 (cB_412 hP4).1 ?_
          refine zF_iload 87 dX5_findMove_85 rfl rfl ?_
          refine zF_iaload 88 dX5_findMove_87 rfl (cB_412 hP4).2.2 (cB_412 hP4).2.1 (by omega) (by omega) ql.1 ?_
          refine zF_aload_n 89 dX5_findMove_88 rfl rfl ?_
          refine zF_getR 92 dX5_findMove_89 rfl gX5_36 hP4.1 hP4.2.1 (cB_413 hP4).1 ?_
          refine zF_iload 94 dX5_findMove_92 rfl rfl ?_
          refine zF_iaload 95 dX5_findMove_94 rfl (cB_413 hP4).2.2 (cB_413 hP4).2.1 (by omega) (by omega) qm.1 ?_
          refine zF_iadd 96 dX5_findMove_95 rfl ?_
          refine zF_iload_n 97 dX5_findMove_96 rfl rfl ?_
          refine zF_icmp_le 130 100 dX5_findMove_97 rfl rfl (by first | decide | assumption | exact hb _ | exact mSh_rg hb _ _ | exact zb_rg _ | (constructor <;> omega)) (by first | decide | assumption | exact hb _ | exact mSh_rg hb _ _ | exact zb_rg _ | (constructor <;> omega)) (fun c5 => ?_) (fun c5 => ?_)
          · refine zF_iinc 133 (ls' := [(4, zI (((x : Nat) : Int) + 1)), (6, zI (((x : Nat) : Int) % 5)), (5, zI (((x : Nat) : Int) / 5)), (3, zI ((f : Nat) : Int)), (2, zI fo5), (1, zI mo5), (0, zR (B 400))]) dX5_findMove_130 rfl rfl rfl (by decide) rfl ?_
            refine zF_goto 55 dX5_findMove_133 rfl ?_
            exact zF_locs (ls' := [(4, zI (((x + 1) : Nat) : Int)), (3, zI ((f : Nat) : Int)), (2, zI fo5), (1, zI mo5), (0, zR (B 400))]) ⟨zlI rfl (by first | rfl | omega | (push_cast; omega) | exact congrArg (_ + ·) (zbT (by assumption)) | exact congrArg (_ + ·) (zbF (by assumption)) | exact congrArg (_ + ·) (zbT (by omega)) | exact congrArg (_ + ·) (zbF (by omega)) | exact congrArg (_ + ·) (if_pos (by omega)).symm | exact congrArg (_ + ·) (if_neg (by omega)).symm | exact (if_pos (by omega)).symm | exact (if_neg (by omega)).symm | exact zsub_s (if_pos (by omega)).symm | exact zsub_s0 (if_neg (by omega)).symm | exact zadd0 (if_neg (by omega)).symm | exact zadd0 (zbF (by omega)) | exact (Int.sub_zero _).symm), rfl, rfl, rfl, rfl, trivial⟩ (ih55 (fo5, mo5, (x + 1)) _ (by show 25 - (x + 1) < 25 - x; omega) (⟨by show x + 1 ≤ 25; omega, rfl, by have z := bm_step hV (f := f) (x := x) (by omega) (by omega) j5 rfl rfl (by omega) (by omega); rw [if_neg (by omega), if_neg (by omega)] at z; exact z, m5⟩))
          · refine zF_aload_n 101 dX5_findMove_100 rfl rfl ?_
            refine zF_getR 104 dX5_findMove_101 rfl gX5_33 hP4.1 hP4.2.1 (cB_412 hP4).1 ?_
            refine zF_iload 106 dX5_findMove_104 rfl rfl ?_
            refine zF_iaload 107 dX5_findMove_106 rfl (cB_412 hP4).2.2 (cB_412 hP4).2.1 (by omega) (by omega) ql.1 ?_
            refine zF_aload_n 108 dX5_findMove_107 rfl rfl ?_
            refine zF_getR 111 dX5_findMove_108 rfl gX5_36 hP4.1 hP4.2.1 (cB_413 hP4).1 ?_
            refine zF_iload 113 dX5_findMove_111 rfl rfl ?_
            refine zF_iaload 114 dX5_findMove_113 rfl (cB_413 hP4).2.2 (cB_413 hP4).2.1 (by omega) (by omega) qm.1 ?_
            refine zF_iadd 115 dX5_findMove_114 rfl ?_
            refine zF_istore_n 116 (ls' := [(1, zI ((oL N (f : Int) (((x : Nat) : Int) / 5)) + (oM N (f : Int) (((x : Nat) : Int) % 5)))), (6, zI (((x : Nat) : Int) % 5)), (5, zI (((x : Nat) : Int) / 5)), (4, zI ((x : Nat) : Int)), (3, zI ((f : Nat) : Int)), (2, zI fo5), (0, zR (B 400))]) dX5_findMove_115 rfl (by decide) rfl ?_
            refine zF_bipush 118 dX5_findMove_116 rfl (by decide) ?_
            refine zF_iload_n 119 dX5_findMove_118 rfl rfl ?_
            refine zF_imul 120 dX5_findMove_119 rfl ?_
            refine zF_bipush 122 dX5_findMove_120 rfl (by decide) ?_
            refine zF_iload 124 dX5_findMove_122 rfl rfl ?_
            refine zF_imul 125 dX5_findMove_124 rfl ?_
            refine zF_iadd 126 dX5_findMove_125 rfl ?_
            refine zF_iload 128 dX5_findMove_126 rfl rfl ?_
            refine zF_iadd 129 dX5_findMove_128 rfl ?_
            refine zF_istore_n 130 (ls' := [(2, zI (((100 * ((f : Nat) : Int)) + (10 * (((x : Nat) : Int) / 5))) + (((x : Nat) : Int) % 5))), (1, zI ((oL N (f : Int) (((x : Nat) : Int) / 5)) + (oM N (f : Int) (((x : Nat) : Int) % 5)))), (6, zI (((x : Nat) : Int) % 5)), (5, zI (((x : Nat) : Int) / 5)), (4, zI ((x : Nat) : Int)), (3, zI ((f : Nat) : Int)), (0, zR (B 400))]) dX5_findMove_129 rfl (by decide) rfl ?_
            refine zF_iinc 133 (ls' := [(4, zI (((x : Nat) : Int) + 1)), (2, zI (((100 * ((f : Nat) : Int)) + (10 * (((x : Nat) : Int) / 5))) + (((x : Nat) : Int) % 5))), (1, zI ((oL N (f : Int) (((x : Nat) : Int) / 5)) + (oM N (f : Int) (((x : Nat) : Int) % 5)))), (6, zI (((x : Nat) : Int) % 5)), (5, zI (((x : Nat) : Int) / 5)), (3, zI ((f : Nat) : Int)), (0, zR (B 400))]) dX5_findMove_130 rfl rfl rfl (by decide) rfl ?_
            refine zF_goto 55 dX5_findMove_133 rfl ?_
            exact zF_locs (ls' := [(4, zI (((x + 1) : Nat) : Int)), (3, zI ((f : Nat) : Int)), (2, zI (((100 * ((f : Nat) : Int)) + (10 * (((x : Nat) : Int) / 5))) + (((x : Nat) : Int) % 5))), (1, zI ((oL N (f : Int) (((x : Nat) : Int) / 5)) + (oM N (f : Int) (((x : Nat) : Int) % 5)))), (0, zR (B 400))]) ⟨zlI rfl (by first | rfl | omega | (push_cast; omega) | exact congrArg (_ + ·) (zbT (by assumption)) | exact congrArg (_ + ·) (zbF (by assumption)) | exact congrArg (_ + ·) (zbT (by omega)) | exact congrArg (_ + ·) (zbF (by omega)) | exact congrArg (_ + ·) (if_pos (by omega)).symm | exact congrArg (_ + ·) (if_neg (by omega)).symm | exact (if_pos (by omega)).symm | exact (if_neg (by omega)).symm | exact zsub_s (if_pos (by omega)).symm | exact zsub_s0 (if_neg (by omega)).symm | exact zadd0 (if_neg (by omega)).symm | exact zadd0 (zbF (by omega)) | exact (Int.sub_zero _).symm), rfl, rfl, rfl, rfl, trivial⟩ (ih55 ((((100 * ((f : Nat) : Int)) + (10 * (((x : Nat) : Int) / 5))) + (((x : Nat) : Int) % 5)), ((oL N (f : Int) (((x : Nat) : Int) / 5)) + (oM N (f : Int) (((x : Nat) : Int) % 5))), (x + 1)) _ (by show 25 - (x + 1) < 25 - x; omega) (⟨by show x + 1 ≤ 25; omega, rfl, by have z := bm_step hV (f := f) (x := x) (by omega) (by omega) j5 rfl rfl (by omega) (by omega); rw [if_pos ⟨by omega, by omega⟩, if_pos ⟨by omega, by omega⟩] at z; exact z, by show ((oL N (f : Int) (((x : Nat) : Int) / 5)) + (oM N (f : Int) (((x : Nat) : Int) % 5))) ≤ (200000000 : Int); omega⟩))
  · refine zF_aload_n 14 dX5_findMove_13 rfl rfl ?_
    refine zF_getR 17 dX5_findMove_14 rfl gX5_30 hP2.1 hP2.2.1 (cB_411 hP2).1 ?_
    refine zF_iload_n 18 dX5_findMove_17 rfl rfl ?_
    refine zF_aload_n 19 dX5_findMove_18 rfl rfl ?_
    refine zF_iload_n 20 dX5_findMove_19 rfl rfl ?_
    refine zF_callV 23 (d2 := (d + 7)) (as := [zI ((x : Nat) : Int)]) dX5_findMove_20 rfl kX5_59 iX5_greatestGain (ci := 5) rfl eX5_greatestGain (Nat.le_refl _) hP2.1 hP2.2.1 rfl rfl (Nat.le_of_ble_eq_true rfl) (zE.mono (zt_X5_greatestGain (h := ((x : Nat) : Int)) hB2 hP2 hR2 hV hQ (by omega) (by omega) h02) fun ro σg2 hh2 => ?_)
    obtain ⟨g2, er2, fr2, vv2, pm2, gl2, gu2⟩ := hh2
    subst er2
    refine ⟨fr2.1, ?_⟩
    have hPx := cPr_fr hP2 fr2
    have hBx := cM_fr hB2 fr2
    refine zF_iastore 24 dX5_findMove_23 rfl (cB_411 hPx).2.2 (cB_411 hPx).2.1 (by omega) (by omega) ?_
    refine zF_iinc 27 (ls' := [(1, zI (((x : Nat) : Int) + 1)), (0, zR (B 400))]) dX5_findMove_24 rfl rfl rfl (by decide) rfl ?_
    refine zF_goto 2 dX5_findMove_27 rfl ?_
    exact zF_locs (ls' := [(1, zI (((x + 1) : Nat) : Int)), (0, zR (B 400))]) ⟨zlI rfl (by first | rfl | omega | (push_cast; omega) | exact congrArg (_ + ·) (zbT (by assumption)) | exact congrArg (_ + ·) (zbF (by assumption)) | exact congrArg (_ + ·) (zbT (by omega)) | exact congrArg (_ + ·) (zbF (by omega)) | exact congrArg (_ + ·) (if_pos (by omega)).symm | exact congrArg (_ + ·) (if_neg (by omega)).symm | exact (if_pos (by omega)).symm | exact (if_neg (by omega)).symm | exact zsub_s (if_pos (by omega)).symm | exact zsub_s0 (if_neg (by omega)).symm | exact zadd0 (if_neg (by omega)).symm | exact zadd0 (zbF (by omega)) | exact (Int.sub_zero _).symm), rfl, trivial⟩ (ih2 (x + 1) _ (by omega) (⟨by omega, zFr_si ⟨⟨411, rfl, by decide⟩, fun z => absurd (hB.inj _ _ z.1) (by decide)⟩ (f2.tr (PGG_sc fr2)), g411_st g42 (PGG_n hB.inj fr2 (by omega)) (bG_eq pm2) ⟨gl2, gu2⟩⟩))
theorem zt_X11_bestMove  (hG : zGd G) (hO : cO σ B) (hR : cR N σ B) (hV : mV N) (hP : cPr σ B) (hr0 : zia σ (B 408) 0 = 0) (hQ : mQ N) : zE G mX11_bestMove (d + 11) [zR (B 0)] σ (cop 0 (bmV N) B σ) := by
  refine zE_of rfl (by simp [zcat]) (Nat.le_of_ble_eq_true rfl) ?_
  show zF G mX11_bestMove (d + 11) 0 [(0, zR (B 0))] [] σ _
  have hB := hO.1
  have hb := hV.b
  have hn := hV.n
  refine zF_aload_n 1 dX11_bestMove_0 rfl rfl ?_
  refine zF_getR 4 dX11_bestMove_1 rfl gX11_52 hO.2.1 hO.2.2.1 hO.2.2.2.2.2.2.2.2.1 ?_
  refine zF_callV 7 (d2 := (d + 10)) (as := []) dX11_bestMove_4 rfl kX11_307 iX5_findMove (ci := 5) rfl eX5_findMove (Nat.le_refl _) hP.1 hP.2.1 rfl rfl (Nat.le_of_ble_eq_true rfl) (zE.mono (zt_X5_findMove hB hP hR hV hQ.c hr0) fun ro σa1 hh1 => ?_)
  obtain ⟨er1, fr1, _p1⟩ := hh1
  subst er1
  refine ⟨fr1.1, ?_⟩
  show zF G mX11_bestMove (d + 11) 7 [(0, zR (B 0))] [zI (bmV N)] σa1 _
  exact zF_ireturn dX11_bestMove_7 rfl (copR fr1 rfl rfl)
end ZC15
