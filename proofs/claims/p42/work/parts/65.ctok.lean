/-! the class: tokens -/
section ZTC
variable {G : zG} {d : Nat} {σ σ0 : zMem} {B : Nat → Nat} {t : Int → Int} {L : Nat}
/-- the tokens' object (20), its text (10) of L bytes -/
def cTk (σ : zMem) (B : Nat → Nat) (t : Int → Int) (L : Nat) : Prop := zkd σ (B 20) = (0, 9) ∧ B 20 < zn σ ∧ zra σ (B 20) ((0 : Nat) : Int) = some (B 10) ∧ zkd σ (B 10) = (2, 700) ∧ B 10 < zn σ ∧ B 10 ≠ B 20 ∧ L ≤ 700 ∧ (∀ j : Int, 0 ≤ j → j < (L : Int) → zia σ (B 10) j = t j ∧ -128 ≤ t j ∧ t j < 128)
theorem cTk.b (h : cTk σ B t L) : ∀ j : Int, 0 ≤ j → j < (L : Int) → -128 ≤ t j ∧ t j < 128 := fun j a b => (h.2.2.2.2.2.2.2 j a b).2
def PAd (B : Nat → Nat) (h : Nat) (j : Int) : Prop := h = B 20 ∧ 2 ≤ j ∧ j ≤ 5
def PTk (B : Nat → Nat) (h : Nat) (j : Int) : Prop := h = B 20 ∧ 1 ≤ j
theorem PAd.tk {σ1 : zMem} (f : zFr (PAd B) σ σ1) : zFr (PTk B) σ σ1 := f.wk fun _ _ q => ⟨q.1, by have := q.2; omega⟩
theorem cTk_fr {P : Nat → Int → Prop} {σ1 : zMem} (h : cTk σ B t L) (f : zFr P σ σ1) (n : ∀ j, ¬ P (B 10) j) : cTk σ1 B t L := by
  unfold cTk at h ⊢
  rw [f.1, f.2.1, f.2.2.1, f.at n]
  exact h
theorem cTk_ad {σ1 : zMem} (h : cTk σ B t L) (f : zFr (PTk B) σ σ1) : cTk σ1 B t L := cTk_fr h f fun _ q => h.2.2.2.2.2.1 q.1
theorem PAd_o {σ1 : zMem} {k v : Int} (f : zFr (PAd B) σ σ1) (hk : k < 2 ∨ 5 < k) (e : zia σ (B 20) k = v) : zia σ1 (B 20) k = v := (f.2.2.2.2.2 _ _ fun q => by have := q.2; omega).trans e
/-- what the fields say at a reading's state -/
def cTs (σ : zMem) (B : Nat → Nat) (t : Int → Int) (L : Nat) (s : tS) : Prop := s.1 ≤ L ∧ zia σ (B 20) ((1 : Nat) : Int) = (L : Int) ∧ zia σ (B 20) ((2 : Nat) : Int) = ((te t L s.1 : Nat) : Int) ∧ zia σ (B 20) ((3 : Nat) : Int) = ((tbg t L s.1 : Nat) : Int) ∧ zia σ (B 20) ((4 : Nat) : Int) = tKd t L s ∧ zia σ (B 20) ((5 : Nat) : Int) = tv t L s.1 ∧ zia σ (B 20) ((6 : Nat) : Int) = s.2 ∧ zia σ (B 20) ((7 : Nat) : Int) = (if s.2 = 0 then -1 else ((tbg t L s.1 : Nat) : Int)) ∧ 0 ≤ s.2 ∧ s.2 ≤ 100
theorem zTx_1 (n : B 10 ≠ B 20) {k0 v0 : Int} : zia (zsi σ (B 20) k0 v0) (B 10) = zia σ (B 10) := funext fun j => zsi_N n rfl
theorem tk_word {q b x : Nat} (eb : b = tbg t L q) (h1 : b < x) (h2 : x ≤ L) (ez : zrun tA t L b = x) (al : tA (t b) = true) : te t L q = x ∧ tk t L q = 1 ∧ tv t L q = 0 := by
  subst eb
  have c : tbg t L q < L := by omega
  exact ⟨by unfold te; rw [if_pos c, if_pos al, ez], by unfold tk; rw [if_pos c, if_pos al], by unfold tv; rw [if_pos c, if_pos al]⟩
theorem tk_num {q b x : Nat} (eb : b = tbg t L q) (nA : ¬ (b < L ∧ tA (t b) = true)) (h1 : b < x) (h2 : x ≤ L) (ez : zrun tD t L b = x) (dg : ∀ i, b ≤ i → i < x → 48 ≤ t i ∧ t i ≤ 57) : te t L q = x ∧ tk t L q = 2 ∧ tv t L q = tvN t b (x - b) := by
  subst eb
  have c : tbg t L q < L := by omega
  have n1 : ¬ tA (t (tbg t L q)) = true := fun z => nA ⟨c, z⟩
  have d1 : tD (t (tbg t L q)) = true := tD_i.mpr (dg _ (Nat.le_refl _) h1)
  have e1 : te t L q = x := by unfold te; rw [if_pos c, if_neg n1, if_pos d1, ez]
  exact ⟨e1, by unfold tk; rw [if_pos c, if_neg n1, if_pos d1], by unfold tv; rw [if_pos c, if_neg n1, if_pos d1, e1]⟩
theorem tk_sign {q b : Nat} (eb : b = tbg t L q) (nA : ¬ (b < L ∧ tA (t b) = true)) (nD : ¬ (b < L ∧ tD (t b) = true)) (h : b < L) : te t L q = b + 1 ∧ tk t L q = 3 ∧ tv t L q = t b := by
  subst eb
  have n1 : ¬ tA (t (tbg t L q)) = true := fun z => nA ⟨h, z⟩
  have d1 : ¬ tD (t (tbg t L q)) = true := fun z => nD ⟨h, z⟩
  exact ⟨by unfold te; rw [if_pos h, if_neg n1, if_neg d1], by unfold tk; rw [if_pos h, if_neg n1, if_neg d1], by unfold tv; rw [if_pos h, if_neg n1, if_neg d1]⟩
theorem tk_end {q b : Nat} (eb : b = tbg t L q) (h : ¬ b < L) : te t L q = b ∧ tk t L q = 0 ∧ tv t L q = 0 := by
  subst eb
  exact ⟨by unfold te; rw [if_neg h], by unfold tk; rw [if_neg h], by unfold tv; rw [if_neg h]⟩
theorem tvN_step {b z : Nat} {v : Int} (h : b ≤ z) (e : v = if tvN t b (z - b) < 1000000 then tvN t b (z - b) * 10 + t z - 48 else 1000000) : v = tvN t b (z + 1 - b) := by
  rw [show z + 1 - b = (z - b) + 1 by omega, e]
  show _ = if tvN t b (z - b) < 1000000 then tvN t b (z - b) * 10 + t ((b + (z - b) : Nat) : Int) - 48 else 1000000
  rw [show b + (z - b) = z by omega]
theorem zt_X9_advance {q : Nat} (hT : cTk σ B t L) (hq : q ≤ L) (h1 : zia σ (B 20) ((1 : Nat) : Int) = (L : Int)) (h2 : zia σ (B 20) ((2 : Nat) : Int) = (q : Int)) : zE G mX9_advance d [zR (B 20)] σ (fun ro σ1 => ro = .inl none ∧ zFr (PAd B) σ σ1 ∧ zia σ1 (B 20) ((2 : Nat) : Int) = ((te t L q : Nat) : Int) ∧ zia σ1 (B 20) ((3 : Nat) : Int) = ((tbg t L q : Nat) : Int) ∧ zia σ1 (B 20) ((4 : Nat) : Int) = tk t L q ∧ zia σ1 (B 20) ((5 : Nat) : Int) = tv t L q) := by
  refine zE_of rfl (by simp [zcat]) (Nat.le_of_ble_eq_true rfl) ?_
  show zF G mX9_advance d 0 [(0, zR (B 20))] [] σ _
  have hL7 : L ≤ 700 := hT.2.2.2.2.2.2.1
  refine zF_locs (ls' := [(0, zR (B 20))]) ⟨rfl, trivial⟩ ?_
  refine zF_while (X := Nat) (fun x => L - x) (fun x σ2 => q ≤ x ∧ x ≤ L ∧ zFr (PAd B) σ σ2 ∧ zia σ2 (B 20) ((2 : Nat) : Int) = (x : Int) ∧ zrun tW t L x = tbg t L q) (fun x => [(0, zR (B 20))]) ?_ q σ (⟨Nat.le_refl _, hq, zFr.rf, h2, rfl⟩)
  intro x σ2 hI0 ih0
  show zF G mX9_advance d 0 [(0, zR (B 20))] [] σ2 _
  obtain ⟨hx0, hx1, f2, g2, ez2⟩ := hI0
  have hT2 := cTk_ad hT (PAd.tk f2)
  have g1 := PAd_o f2 (by omega) h1
  have hb := hT.b
  refine zF_aload_n 1 dX9_advance_0 rfl rfl ?_
  refine zF_getI 4 dX9_advance_1 rfl gX9_25 (by decide) (by decide) hT2.1 hT2.2.1 g2 ?_
  refine zF_aload_n 5 dX9_advance_4 rfl rfl ?_
  refine zF_getI 8 dX9_advance_5 rfl gX9_21 (by decide) (by decide) hT2.1 hT2.2.1 g1 ?_
  refine zF_icmp_ge 52 11 dX9_advance_8 rfl rfl (by first | decide | assumption | (constructor <;> omega)) (by first | decide | assumption | (constructor <;> omega)) (fun c1 => ?_) (fun c1 => ?_)
  · obtain ⟨b, hbx⟩ : ∃ b : Nat, b = x := ⟨x, rfl⟩
    subst hbx
    have eb : b = tbg t L q := (zrun_e (fun z => by first | omega | (have := tW_i.mp z.2; omega))).symm.trans ez2
    refine zF_aload_n 53 dX9_advance_52 rfl rfl ?_
    refine zF_aload_n 54 dX9_advance_53 rfl rfl ?_
    refine zF_getI 57 dX9_advance_54 rfl gX9_25 (by decide) (by decide) hT2.1 hT2.2.1 g2 ?_
    refine zF_putI 60 dX9_advance_57 rfl pX9_advance_37 (Or.inl rfl) hT2.1 hT2.2.1 ?_
    refine zF_aload_n 61 dX9_advance_60 rfl rfl ?_
    refine zF_iconst 62 dX9_advance_61 rfl ?_
    refine zF_putI 65 dX9_advance_62 rfl pX9_advance_43 (Or.inl rfl) hT2.1 hT2.2.1 ?_
    refine zF_locs (ls' := [(0, zR (B 20))]) ⟨rfl, trivial⟩ ?_
    refine zF_while (X := Nat) (fun x => L - x) (fun x σ3 => b ≤ x ∧ x ≤ L ∧ zFr (PAd B) σ σ3 ∧ zia σ3 (B 20) ((2 : Nat) : Int) = (x : Int) ∧ zia σ3 (B 20) ((3 : Nat) : Int) = (b : Int) ∧ zia σ3 (B 20) ((5 : Nat) : Int) = 0 ∧ (b < x → zia σ3 (B 20) ((4 : Nat) : Int) = 1) ∧ zrun tA t L x = zrun tA t L b ∧ (b < x → tA (t b) = true)) (fun x => [(0, zR (B 20))]) ?_ b (zsi (zsi σ2 (B 20) ((3 : Nat) : Int) (b : Int)) (B 20) ((5 : Nat) : Int) 0) (⟨Nat.le_refl _, hx1, (zFr_si ⟨rfl, by decide, by decide⟩ (zFr_si ⟨rfl, by decide, by decide⟩ f2)), (zsi_F (by decide) (zsi_F (by decide) g2)), (zsi_F (by decide) (zsi_same _ _ _ _)), (zsi_same _ _ _ _), fun z => absurd z (Nat.lt_irrefl _), rfl, fun z => absurd z (Nat.lt_irrefl _)⟩)
    intro y σ3 hI65 ih65
    show zF G mX9_advance d 65 [(0, zR (B 20))] [] σ3 _
    obtain ⟨hy0, hy1, f3, g23, g33, g53, k43, ez3, al3⟩ := hI65
    have hT3 := cTk_ad hT (PAd.tk f3)
    have g13 := PAd_o f3 (by omega) h1
    refine zF_aload_n 66 dX9_advance_65 rfl rfl ?_
    refine zF_getI 69 dX9_advance_66 rfl gX9_25 (by decide) (by decide) hT3.1 hT3.2.1 g23 ?_
    refine zF_aload_n 70 dX9_advance_69 rfl rfl ?_
    refine zF_getI 73 dX9_advance_70 rfl gX9_21 (by decide) (by decide) hT3.1 hT3.2.1 g13 ?_
    refine zF_icmp_ge 122 76 dX9_advance_73 rfl rfl (by first | decide | assumption | (constructor <;> omega)) (by first | decide | assumption | (constructor <;> omega)) (fun c2 => ?_) (fun c2 => ?_)
    · refine zF_aload_n 123 dX9_advance_122 rfl rfl ?_
      refine zF_getI 126 dX9_advance_123 rfl gX9_25 (by decide) (by decide) hT3.1 hT3.2.1 g23 ?_
      refine zF_aload_n 127 dX9_advance_126 rfl rfl ?_
      refine zF_getI 130 dX9_advance_127 rfl gX9_37 (by decide) (by decide) hT3.1 hT3.2.1 g33 ?_
      refine zF_icmp_le 134 133 dX9_advance_130 rfl rfl (by first | decide | assumption | (constructor <;> omega)) (by first | decide | assumption | (constructor <;> omega)) (fun c3 => ?_) (fun c3 => ?_)
      · obtain ⟨eyb, nA⟩ : y = b ∧ ¬ (b < L ∧ tA (t b) = true) := by refine ⟨by omega, fun w9 => ?_⟩; have e9 : (y : Int) = (b : Int) := (by omega); rw [← e9] at w9; first | omega | (have q9 := tA_i.mp w9.2; omega)
        refine zF_locs (ls' := [(0, zR (B 20))]) ⟨rfl, trivial⟩ ?_
        refine zF_while (X := Nat) (fun x => L - x) (fun x σ4 => b ≤ x ∧ x ≤ L ∧ zFr (PAd B) σ σ4 ∧ zia σ4 (B 20) ((2 : Nat) : Int) = (x : Int) ∧ zia σ4 (B 20) ((3 : Nat) : Int) = (b : Int) ∧ zia σ4 (B 20) ((5 : Nat) : Int) = tvN t b (x - b) ∧ (b < x → zia σ4 (B 20) ((4 : Nat) : Int) = 2) ∧ zrun tD t L x = zrun tD t L b ∧ ∀ i, b ≤ i → i < x → 48 ≤ t i ∧ t i ≤ 57) (fun x => [(0, zR (B 20))]) ?_ b σ3 (⟨Nat.le_refl _, by omega, f3, by rw [g23, eyb], g33, by rw [g53, show b - b = 0 by omega]; rfl, fun z => absurd z (Nat.lt_irrefl _), rfl, fun i a c => absurd c (by omega)⟩)
        intro z σ4 hI134 ih134
        show zF G mX9_advance d 134 [(0, zR (B 20))] [] σ4 _
        obtain ⟨hz0, hz1, f4, g24, g34, g54, k44, ez4, dg4⟩ := hI134
        have hT4 := cTk_ad hT (PAd.tk f4)
        have g14 := PAd_o f4 (by omega) h1
        have vb := tvN_b (t := t) (b := b) (n := z - b) fun i a c => dg4 i a (by omega)
        refine zF_aload_n 135 dX9_advance_134 rfl rfl ?_
        refine zF_getI 138 dX9_advance_135 rfl gX9_25 (by decide) (by decide) hT4.1 hT4.2.1 g24 ?_
        refine zF_aload_n 139 dX9_advance_138 rfl rfl ?_
        refine zF_getI 142 dX9_advance_139 rfl gX9_21 (by decide) (by decide) hT4.1 hT4.2.1 g14 ?_
        refine zF_icmp_ge 229 145 dX9_advance_142 rfl rfl (by first | decide | assumption | (constructor <;> omega)) (by first | decide | assumption | (constructor <;> omega)) (fun c4 => ?_) (fun c4 => ?_)
        · refine zF_aload_n 230 dX9_advance_229 rfl rfl ?_
          refine zF_getI 233 dX9_advance_230 rfl gX9_25 (by decide) (by decide) hT4.1 hT4.2.1 g24 ?_
          refine zF_aload_n 234 dX9_advance_233 rfl rfl ?_
          refine zF_getI 237 dX9_advance_234 rfl gX9_37 (by decide) (by decide) hT4.1 hT4.2.1 g34 ?_
          refine zF_icmp_le 241 240 dX9_advance_237 rfl rfl (by first | decide | assumption | (constructor <;> omega)) (by first | decide | assumption | (constructor <;> omega)) (fun c5 => ?_) (fun c5 => ?_)
          · have ezb : z = b := by omega
            refine zF_aload_n 242 dX9_advance_241 rfl rfl ?_
            refine zF_iconst 243 dX9_advance_242 rfl ?_
            refine zF_putI 246 dX9_advance_243 rfl pX9_advance_40 (Or.inl rfl) hT4.1 hT4.2.1 ?_
            refine zF_aload_n 247 dX9_advance_246 rfl rfl ?_
            refine zF_getI 250 dX9_advance_247 rfl gX9_25 (by decide) (by decide) hT4.1 hT4.2.1 (zsi_F (by decide) g24) ?_
            refine zF_aload_n 251 dX9_advance_250 rfl rfl ?_
            refine zF_getI 254 dX9_advance_251 rfl gX9_21 (by decide) (by decide) hT4.1 hT4.2.1 (zsi_F (by decide) g14) ?_
            refine zF_icmp_ge 285 257 dX9_advance_254 rfl rfl (by first | decide | assumption | (constructor <;> omega)) (by first | decide | assumption | (constructor <;> omega)) (fun c6 => ?_) (fun c6 => ?_)
            · exact zF_return dX9_advance_285 rfl ((by
    have e1 := tk_end (t := t) (L := L) (q := q) (b := z) (by rw [ezb]; exact eb) (by omega)
    exact ⟨rfl, (zFr_si ⟨rfl, by decide, by decide⟩ f4), by rw [e1.1]; exact (zsi_F (by decide) g24), by rw [← eb]; exact (zsi_F (by decide) g34), by rw [e1.2.1]; exact (zsi_same _ _ _ _), by rw [e1.2.2]; exact (zsi_F (by decide) g54).trans (by rw [ezb, Nat.sub_self]; rfl)⟩))
            · refine zF_aload_n 258 dX9_advance_257 rfl rfl ?_
              refine zF_aload_n 259 dX9_advance_258 rfl rfl ?_
              refine zF_getR 262 dX9_advance_259 rfl gX9_9 hT4.1 hT4.2.1 hT4.2.2.1 ?_
              refine zF_aload_n 263 dX9_advance_262 rfl rfl ?_
              refine zF_getI 266 dX9_advance_263 rfl gX9_25 (by decide) (by decide) hT4.1 hT4.2.1 (zsi_F (by decide) g24) ?_
              have tb4 := hb (z : Int) (by omega) (by omega)
              refine zF_baload 267 dX9_advance_266 rfl hT4.2.2.2.1 hT4.2.2.2.2.1 (by omega) (by omega) ((congrFun (zTx_1 hT4.2.2.2.2.2.1) _).trans ((hT4.2.2.2.2.2.2.2 (z : Int) (by omega) (by omega)).1)) ?_
              refine zF_putI 270 dX9_advance_267 rfl pX9_advance_43 (Or.inl rfl) hT4.1 hT4.2.1 ?_
              refine zF_aload_n 271 dX9_advance_270 rfl rfl ?_
              refine zF_dup 272 dX9_advance_271 rfl rfl ?_
              refine zF_getI 275 dX9_advance_272 rfl gX9_25 (by decide) (by decide) hT4.1 hT4.2.1 (zsi_F (by decide) (zsi_F (by decide) g24)) ?_
              refine zF_iconst 276 dX9_advance_275 rfl ?_
              refine zF_iadd 277 dX9_advance_276 rfl ?_
              refine zF_putI 280 dX9_advance_277 rfl pX9_advance_25 (Or.inl rfl) hT4.1 hT4.2.1 ?_
              refine zF_aload_n 281 dX9_advance_280 rfl rfl ?_
              refine zF_iconst 282 dX9_advance_281 rfl ?_
              refine zF_putI 285 dX9_advance_282 rfl pX9_advance_40 (Or.inl rfl) hT4.1 hT4.2.1 ?_
              exact zF_return dX9_advance_285 rfl ((by
    have e1 := tk_sign (t := t) (L := L) (q := q) (b := z) (by rw [ezb]; exact eb) (by rw [ezb]; exact nA) (fun w9 => by first | omega | (have := tD_i.mp w9.2; omega)) (by omega)
    exact ⟨rfl, (zFr_si ⟨rfl, by decide, by decide⟩ (zFr_si ⟨rfl, by decide, by decide⟩ (zFr_si ⟨rfl, by decide, by decide⟩ (zFr_si ⟨rfl, by decide, by decide⟩ f4)))), by rw [e1.1]; exact (zsi_F (by decide) (zsi_same _ _ _ _)).trans (by push_cast; omega), by rw [← eb]; exact (zsi_F (by decide) (zsi_F (by decide) (zsi_F (by decide) (zsi_F (by decide) g34)))), by rw [e1.2.1]; exact (zsi_same _ _ _ _), by rw [e1.2.2]; exact (zsi_F (by decide) (zsi_F (by decide) (zsi_same _ _ _ _)))⟩))
          · exact zF_return dX9_advance_240 rfl ((by
    have e1 := tk_num (t := t) (L := L) (q := q) eb nA (by omega) (by omega) (ez4.symm.trans (zrun_e (fun w9 => by first | omega | (have := tD_i.mp w9.2; omega)))) (dg4)
    exact ⟨rfl, f4, by rw [e1.1]; exact g24, by rw [← eb]; exact g34, by rw [e1.2.1]; exact k44 (by omega), by rw [e1.2.2]; exact g54⟩))
        · refine zF_aload_n 146 dX9_advance_145 rfl rfl ?_
          refine zF_getR 149 dX9_advance_146 rfl gX9_9 hT4.1 hT4.2.1 hT4.2.2.1 ?_
          refine zF_aload_n 150 dX9_advance_149 rfl rfl ?_
          refine zF_getI 153 dX9_advance_150 rfl gX9_25 (by decide) (by decide) hT4.1 hT4.2.1 g24 ?_
          have tb3 := hb (z : Int) (by omega) (by omega)
          refine zF_baload 154 dX9_advance_153 rfl hT4.2.2.2.1 hT4.2.2.2.2.1 (by omega) (by omega) ((hT4.2.2.2.2.2.2.2 (z : Int) (by omega) (by omega)).1) ?_
          refine zF_bipush 156 dX9_advance_154 rfl (by decide) ?_
          refine zF_icmp_lt 229 159 dX9_advance_156 rfl rfl (by first | decide | assumption | (constructor <;> omega)) (by first | decide | assumption | (constructor <;> omega)) (fun c7 => ?_) (fun c7 => ?_)
          · refine zF_aload_n 230 dX9_advance_229 rfl rfl ?_
            refine zF_getI 233 dX9_advance_230 rfl gX9_25 (by decide) (by decide) hT4.1 hT4.2.1 g24 ?_
            refine zF_aload_n 234 dX9_advance_233 rfl rfl ?_
            refine zF_getI 237 dX9_advance_234 rfl gX9_37 (by decide) (by decide) hT4.1 hT4.2.1 g34 ?_
            refine zF_icmp_le 241 240 dX9_advance_237 rfl rfl (by first | decide | assumption | (constructor <;> omega)) (by first | decide | assumption | (constructor <;> omega)) (fun c8 => ?_) (fun c8 => ?_)
            · have ezb : z = b := by omega
              refine zF_aload_n 242 dX9_advance_241 rfl rfl ?_
              refine zF_iconst 243 dX9_advance_242 rfl ?_
              refine zF_putI 246 dX9_advance_243 rfl pX9_advance_40 (Or.inl rfl) hT4.1 hT4.2.1 ?_
              refine zF_aload_n 247 dX9_advance_246 rfl rfl ?_
              refine zF_getI 250 dX9_advance_247 rfl gX9_25 (by decide) (by decide) hT4.1 hT4.2.1 (zsi_F (by decide) g24) ?_
              refine zF_aload_n 251 dX9_advance_250 rfl rfl ?_
              refine zF_getI 254 dX9_advance_251 rfl gX9_21 (by decide) (by decide) hT4.1 hT4.2.1 (zsi_F (by decide) g14) ?_
              refine zF_icmp_ge 285 257 dX9_advance_254 rfl rfl (by first | decide | assumption | (constructor <;> omega)) (by first | decide | assumption | (constructor <;> omega)) (fun c9 => ?_) (fun c9 => ?_)
              · exact zF_return dX9_advance_285 rfl ((by
    have e1 := tk_end (t := t) (L := L) (q := q) (b := z) (by rw [ezb]; exact eb) (by omega)
    exact ⟨rfl, (zFr_si ⟨rfl, by decide, by decide⟩ f4), by rw [e1.1]; exact (zsi_F (by decide) g24), by rw [← eb]; exact (zsi_F (by decide) g34), by rw [e1.2.1]; exact (zsi_same _ _ _ _), by rw [e1.2.2]; exact (zsi_F (by decide) g54).trans (by rw [ezb, Nat.sub_self]; rfl)⟩))
              · refine zF_aload_n 258 dX9_advance_257 rfl rfl ?_
                refine zF_aload_n 259 dX9_advance_258 rfl rfl ?_
                refine zF_getR 262 dX9_advance_259 rfl gX9_9 hT4.1 hT4.2.1 hT4.2.2.1 ?_
                refine zF_aload_n 263 dX9_advance_262 rfl rfl ?_
                refine zF_getI 266 dX9_advance_263 rfl gX9_25 (by decide) (by decide) hT4.1 hT4.2.1 (zsi_F (by decide) g24) ?_
                have tb4 := hb (z : Int) (by omega) (by omega)
                refine zF_baload 267 dX9_advance_266 rfl hT4.2.2.2.1 hT4.2.2.2.2.1 (by omega) (by omega) ((congrFun (zTx_1 hT4.2.2.2.2.2.1) _).trans ((hT4.2.2.2.2.2.2.2 (z : Int) (by omega) (by omega)).1)) ?_
                refine zF_putI 270 dX9_advance_267 rfl pX9_advance_43 (Or.inl rfl) hT4.1 hT4.2.1 ?_
                refine zF_aload_n 271 dX9_advance_270 rfl rfl ?_
                refine zF_dup 272 dX9_advance_271 rfl rfl ?_
                refine zF_getI 275 dX9_advance_272 rfl gX9_25 (by decide) (by decide) hT4.1 hT4.2.1 (zsi_F (by decide) (zsi_F (by decide) g24)) ?_
                refine zF_iconst 276 dX9_advance_275 rfl ?_
                refine zF_iadd 277 dX9_advance_276 rfl ?_
                refine zF_putI 280 dX9_advance_277 rfl pX9_advance_25 (Or.inl rfl) hT4.1 hT4.2.1 ?_
                refine zF_aload_n 281 dX9_advance_280 rfl rfl ?_
                refine zF_iconst 282 dX9_advance_281 rfl ?_
                refine zF_putI 285 dX9_advance_282 rfl pX9_advance_40 (Or.inl rfl) hT4.1 hT4.2.1 ?_
                exact zF_return dX9_advance_285 rfl ((by
    have e1 := tk_sign (t := t) (L := L) (q := q) (b := z) (by rw [ezb]; exact eb) (by rw [ezb]; exact nA) (fun w9 => by first | omega | (have := tD_i.mp w9.2; omega)) (by omega)
    exact ⟨rfl, (zFr_si ⟨rfl, by decide, by decide⟩ (zFr_si ⟨rfl, by decide, by decide⟩ (zFr_si ⟨rfl, by decide, by decide⟩ (zFr_si ⟨rfl, by decide, by decide⟩ f4)))), by rw [e1.1]; exact (zsi_F (by decide) (zsi_same _ _ _ _)).trans (by push_cast; omega), by rw [← eb]; exact (zsi_F (by decide) (zsi_F (by decide) (zsi_F (by decide) (zsi_F (by decide) g34)))), by rw [e1.2.1]; exact (zsi_same _ _ _ _), by rw [e1.2.2]; exact (zsi_F (by decide) (zsi_F (by decide) (zsi_same _ _ _ _)))⟩))
            · exact zF_return dX9_advance_240 rfl ((by
    have e1 := tk_num (t := t) (L := L) (q := q) eb nA (by omega) (by omega) (ez4.symm.trans (zrun_e (fun w9 => by first | omega | (have := tD_i.mp w9.2; omega)))) (dg4)
    exact ⟨rfl, f4, by rw [e1.1]; exact g24, by rw [← eb]; exact g34, by rw [e1.2.1]; exact k44 (by omega), by rw [e1.2.2]; exact g54⟩))
          · refine zF_aload_n 160 dX9_advance_159 rfl rfl ?_
            refine zF_getR 163 dX9_advance_160 rfl gX9_9 hT4.1 hT4.2.1 hT4.2.2.1 ?_
            refine zF_aload_n 164 dX9_advance_163 rfl rfl ?_
            refine zF_getI 167 dX9_advance_164 rfl gX9_25 (by decide) (by decide) hT4.1 hT4.2.1 g24 ?_
            refine zF_baload 168 dX9_advance_167 rfl hT4.2.2.2.1 hT4.2.2.2.2.1 (by omega) (by omega) ((hT4.2.2.2.2.2.2.2 (z : Int) (by omega) (by omega)).1) ?_
            refine zF_bipush 170 dX9_advance_168 rfl (by decide) ?_
            refine zF_icmp_gt 229 173 dX9_advance_170 rfl rfl (by first | decide | assumption | (constructor <;> omega)) (by first | decide | assumption | (constructor <;> omega)) (fun c10 => ?_) (fun c10 => ?_)
            · refine zF_aload_n 230 dX9_advance_229 rfl rfl ?_
              refine zF_getI 233 dX9_advance_230 rfl gX9_25 (by decide) (by decide) hT4.1 hT4.2.1 g24 ?_
              refine zF_aload_n 234 dX9_advance_233 rfl rfl ?_
              refine zF_getI 237 dX9_advance_234 rfl gX9_37 (by decide) (by decide) hT4.1 hT4.2.1 g34 ?_
              refine zF_icmp_le 241 240 dX9_advance_237 rfl rfl (by first | decide | assumption | (constructor <;> omega)) (by first | decide | assumption | (constructor <;> omega)) (fun c11 => ?_) (fun c11 => ?_)
              · have ezb : z = b := by omega
                refine zF_aload_n 242 dX9_advance_241 rfl rfl ?_
                refine zF_iconst 243 dX9_advance_242 rfl ?_
                refine zF_putI 246 dX9_advance_243 rfl pX9_advance_40 (Or.inl rfl) hT4.1 hT4.2.1 ?_
                refine zF_aload_n 247 dX9_advance_246 rfl rfl ?_
                refine zF_getI 250 dX9_advance_247 rfl gX9_25 (by decide) (by decide) hT4.1 hT4.2.1 (zsi_F (by decide) g24) ?_
                refine zF_aload_n 251 dX9_advance_250 rfl rfl ?_
                refine zF_getI 254 dX9_advance_251 rfl gX9_21 (by decide) (by decide) hT4.1 hT4.2.1 (zsi_F (by decide) g14) ?_
                refine zF_icmp_ge 285 257 dX9_advance_254 rfl rfl (by first | decide | assumption | (constructor <;> omega)) (by first | decide | assumption | (constructor <;> omega)) (fun c12 => ?_) (fun c12 => ?_)
                · exact zF_return dX9_advance_285 rfl ((by
    have e1 := tk_end (t := t) (L := L) (q := q) (b := z) (by rw [ezb]; exact eb) (by omega)
    exact ⟨rfl, (zFr_si ⟨rfl, by decide, by decide⟩ f4), by rw [e1.1]; exact (zsi_F (by decide) g24), by rw [← eb]; exact (zsi_F (by decide) g34), by rw [e1.2.1]; exact (zsi_same _ _ _ _), by rw [e1.2.2]; exact (zsi_F (by decide) g54).trans (by rw [ezb, Nat.sub_self]; rfl)⟩))
                · refine zF_aload_n 258 dX9_advance_257 rfl rfl ?_
                  refine zF_aload_n 259 dX9_advance_258 rfl rfl ?_
                  refine zF_getR 262 dX9_advance_259 rfl gX9_9 hT4.1 hT4.2.1 hT4.2.2.1 ?_
                  refine zF_aload_n 263 dX9_advance_262 rfl rfl ?_
                  refine zF_getI 266 dX9_advance_263 rfl gX9_25 (by decide) (by decide) hT4.1 hT4.2.1 (zsi_F (by decide) g24) ?_
                  have tb4 := hb (z : Int) (by omega) (by omega)
                  refine zF_baload 267 dX9_advance_266 rfl hT4.2.2.2.1 hT4.2.2.2.2.1 (by omega) (by omega) ((congrFun (zTx_1 hT4.2.2.2.2.2.1) _).trans ((hT4.2.2.2.2.2.2.2 (z : Int) (by omega) (by omega)).1)) ?_
                  refine zF_putI 270 dX9_advance_267 rfl pX9_advance_43 (Or.inl rfl) hT4.1 hT4.2.1 ?_
                  refine zF_aload_n 271 dX9_advance_270 rfl rfl ?_
                  refine zF_dup 272 dX9_advance_271 rfl rfl ?_
                  refine zF_getI 275 dX9_advance_272 rfl gX9_25 (by decide) (by decide) hT4.1 hT4.2.1 (zsi_F (by decide) (zsi_F (by decide) g24)) ?_
                  refine zF_iconst 276 dX9_advance_275 rfl ?_
                  refine zF_iadd 277 dX9_advance_276 rfl ?_
                  refine zF_putI 280 dX9_advance_277 rfl pX9_advance_25 (Or.inl rfl) hT4.1 hT4.2.1 ?_
                  refine zF_aload_n 281 dX9_advance_280 rfl rfl ?_
                  refine zF_iconst 282 dX9_advance_281 rfl ?_
                  refine zF_putI 285 dX9_advance_282 rfl pX9_advance_40 (Or.inl rfl) hT4.1 hT4.2.1 ?_
                  exact zF_return dX9_advance_285 rfl ((by
    have e1 := tk_sign (t := t) (L := L) (q := q) (b := z) (by rw [ezb]; exact eb) (by rw [ezb]; exact nA) (fun w9 => by first | omega | (have := tD_i.mp w9.2; omega)) (by omega)
    exact ⟨rfl, (zFr_si ⟨rfl, by decide, by decide⟩ (zFr_si ⟨rfl, by decide, by decide⟩ (zFr_si ⟨rfl, by decide, by decide⟩ (zFr_si ⟨rfl, by decide, by decide⟩ f4)))), by rw [e1.1]; exact (zsi_F (by decide) (zsi_same _ _ _ _)).trans (by push_cast; omega), by rw [← eb]; exact (zsi_F (by decide) (zsi_F (by decide) (zsi_F (by decide) (zsi_F (by decide) g34)))), by rw [e1.2.1]; exact (zsi_same _ _ _ _), by rw [e1.2.2]; exact (zsi_F (by decide) (zsi_F (by decide) (zsi_same _ _ _ _)))⟩))
              · exact zF_return dX9_advance_240 rfl ((by
    have e1 := tk_num (t := t) (L := L) (q := q) eb nA (by omega) (by omega) (ez4.symm.trans (zrun_e (fun w9 => by first | omega | (have := tD_i.mp w9.2; omega)))) (dg4)
    exact ⟨rfl, f4, by rw [e1.1]; exact g24, by rw [← eb]; exact g34, by rw [e1.2.1]; exact k44 (by omega), by rw [e1.2.2]; exact g54⟩))
            · refine zF_aload_n 174 dX9_advance_173 rfl rfl ?_
              refine zF_aload_n 175 dX9_advance_174 rfl rfl ?_
              refine zF_getI 178 dX9_advance_175 rfl gX9_43 (by decide) (by decide) hT4.1 hT4.2.1 g54 ?_
              refine zF_ldc 180 dX9_advance_178 rfl oX9_46 ?_
              refine zF_icmp_ge 206 183 dX9_advance_180 rfl rfl (by first | decide | assumption | (constructor <;> omega)) (by first | decide | assumption | (constructor <;> omega)) (fun c13 => ?_) (fun c13 => ?_)
              · refine zF_ldc 208 dX9_advance_206 rfl oX9_46 ?_
                refine zF_putI 211 dX9_advance_208 rfl pX9_advance_43 (Or.inl rfl) hT4.1 hT4.2.1 ?_
                refine zF_aload_n 212 dX9_advance_211 rfl rfl ?_
                refine zF_dup 213 dX9_advance_212 rfl rfl ?_
                refine zF_getI 216 dX9_advance_213 rfl gX9_25 (by decide) (by decide) hT4.1 hT4.2.1 (zsi_F (by decide) g24) ?_
                refine zF_iconst 217 dX9_advance_216 rfl ?_
                refine zF_iadd 218 dX9_advance_217 rfl ?_
                refine zF_putI 221 dX9_advance_218 rfl pX9_advance_25 (Or.inl rfl) hT4.1 hT4.2.1 ?_
                refine zF_aload_n 222 dX9_advance_221 rfl rfl ?_
                refine zF_iconst 223 dX9_advance_222 rfl ?_
                refine zF_putI 226 dX9_advance_223 rfl pX9_advance_40 (Or.inl rfl) hT4.1 hT4.2.1 ?_
                refine zF_goto 134 dX9_advance_226 rfl ?_
                exact zF_locs (ls' := [(0, zR (B 20))]) ⟨rfl, trivial⟩ (ih134 (z + 1) _ (by omega) (⟨by omega, by omega, (zFr_si ⟨rfl, by decide, by decide⟩ (zFr_si ⟨rfl, by decide, by decide⟩ (zFr_si ⟨rfl, by decide, by decide⟩ f4))), (zsi_F (by decide) (zsi_same _ _ _ _)).trans (by push_cast; rfl), (zsi_F (by decide) (zsi_F (by decide) (zsi_F (by decide) g34))), (zsi_F (by decide) (zsi_F (by decide) (zsi_same _ _ _ _))).trans (tvN_step (by omega) (by first | exact (if_pos (by omega)).symm | exact (if_neg (by omega)).symm)), fun _ => (zsi_same _ _ _ _), (zrun_s (by omega) (tD_i.mpr (by omega))).symm.trans ez4, fun i a c => by
              by_cases e : i = z
              · subst e; omega
              · exact dg4 i a (by omega)⟩))
              · refine zF_aload_n 184 dX9_advance_183 rfl rfl ?_
                refine zF_getI 187 dX9_advance_184 rfl gX9_43 (by decide) (by decide) hT4.1 hT4.2.1 g54 ?_
                refine zF_bipush 189 dX9_advance_187 rfl (by decide) ?_
                refine zF_imul 190 dX9_advance_189 rfl ?_
                refine zF_aload_n 191 dX9_advance_190 rfl rfl ?_
                refine zF_getR 194 dX9_advance_191 rfl gX9_9 hT4.1 hT4.2.1 hT4.2.2.1 ?_
                refine zF_aload_n 195 dX9_advance_194 rfl rfl ?_
                refine zF_getI 198 dX9_advance_195 rfl gX9_25 (by decide) (by decide) hT4.1 hT4.2.1 g24 ?_
                refine zF_baload 199 dX9_advance_198 rfl hT4.2.2.2.1 hT4.2.2.2.2.1 (by omega) (by omega) ((hT4.2.2.2.2.2.2.2 (z : Int) (by omega) (by omega)).1) ?_
                refine zF_iadd 200 dX9_advance_199 rfl ?_
                refine zF_bipush 202 dX9_advance_200 rfl (by decide) ?_
                refine zF_isub 203 dX9_advance_202 rfl ?_
                refine zF_goto 208 dX9_advance_203 rfl ?_
                refine zF_putI 211 dX9_advance_208 rfl pX9_advance_43 (Or.inl rfl) hT4.1 hT4.2.1 ?_
                refine zF_aload_n 212 dX9_advance_211 rfl rfl ?_
                refine zF_dup 213 dX9_advance_212 rfl rfl ?_
                refine zF_getI 216 dX9_advance_213 rfl gX9_25 (by decide) (by decide) hT4.1 hT4.2.1 (zsi_F (by decide) g24) ?_
                refine zF_iconst 217 dX9_advance_216 rfl ?_
                refine zF_iadd 218 dX9_advance_217 rfl ?_
                refine zF_putI 221 dX9_advance_218 rfl pX9_advance_25 (Or.inl rfl) hT4.1 hT4.2.1 ?_
                refine zF_aload_n 222 dX9_advance_221 rfl rfl ?_
                refine zF_iconst 223 dX9_advance_222 rfl ?_
                refine zF_putI 226 dX9_advance_223 rfl pX9_advance_40 (Or.inl rfl) hT4.1 hT4.2.1 ?_
                refine zF_goto 134 dX9_advance_226 rfl ?_
                exact zF_locs (ls' := [(0, zR (B 20))]) ⟨rfl, trivial⟩ (ih134 (z + 1) _ (by omega) (⟨by omega, by omega, (zFr_si ⟨rfl, by decide, by decide⟩ (zFr_si ⟨rfl, by decide, by decide⟩ (zFr_si ⟨rfl, by decide, by decide⟩ f4))), (zsi_F (by decide) (zsi_same _ _ _ _)).trans (by push_cast; rfl), (zsi_F (by decide) (zsi_F (by decide) (zsi_F (by decide) g34))), (zsi_F (by decide) (zsi_F (by decide) (zsi_same _ _ _ _))).trans (tvN_step (by omega) (by first | exact (if_pos (by omega)).symm | exact (if_neg (by omega)).symm)), fun _ => (zsi_same _ _ _ _), (zrun_s (by omega) (tD_i.mpr (by omega))).symm.trans ez4, fun i a c => by
              by_cases e : i = z
              · subst e; omega
              · exact dg4 i a (by omega)⟩))
      · exact zF_return dX9_advance_133 rfl ((by
    have e1 := tk_word (t := t) (L := L) (q := q) eb (by omega) (by omega) (ez3.symm.trans (zrun_e (fun z => by first | omega | (have := tA_i.mp z.2; omega)))) (al3 (by omega))
    exact ⟨rfl, f3, by rw [e1.1]; exact g23, by rw [← eb]; exact g33, by rw [e1.2.1]; exact k43 (by omega), by rw [e1.2.2]; exact g53⟩))
    · refine zF_aload_n 77 dX9_advance_76 rfl rfl ?_
      refine zF_getR 80 dX9_advance_77 rfl gX9_9 hT3.1 hT3.2.1 hT3.2.2.1 ?_
      refine zF_aload_n 81 dX9_advance_80 rfl rfl ?_
      refine zF_getI 84 dX9_advance_81 rfl gX9_25 (by decide) (by decide) hT3.1 hT3.2.1 g23 ?_
      have tb2 := hb (y : Int) (by omega) (by omega)
      refine zF_baload 85 dX9_advance_84 rfl hT3.2.2.2.1 hT3.2.2.2.2.1 (by omega) (by omega) ((hT3.2.2.2.2.2.2.2 (y : Int) (by omega) (by omega)).1) ?_
      refine zF_bipush 87 dX9_advance_85 rfl (by decide) ?_
      refine zF_icmp_lt 122 90 dX9_advance_87 rfl rfl (by first | decide | assumption | (constructor <;> omega)) (by first | decide | assumption | (constructor <;> omega)) (fun c14 => ?_) (fun c14 => ?_)
      · refine zF_aload_n 123 dX9_advance_122 rfl rfl ?_
        refine zF_getI 126 dX9_advance_123 rfl gX9_25 (by decide) (by decide) hT3.1 hT3.2.1 g23 ?_
        refine zF_aload_n 127 dX9_advance_126 rfl rfl ?_
        refine zF_getI 130 dX9_advance_127 rfl gX9_37 (by decide) (by decide) hT3.1 hT3.2.1 g33 ?_
        refine zF_icmp_le 134 133 dX9_advance_130 rfl rfl (by first | decide | assumption | (constructor <;> omega)) (by first | decide | assumption | (constructor <;> omega)) (fun c15 => ?_) (fun c15 => ?_)
        · obtain ⟨eyb, nA⟩ : y = b ∧ ¬ (b < L ∧ tA (t b) = true) := by refine ⟨by omega, fun w9 => ?_⟩; have e9 : (y : Int) = (b : Int) := (by omega); rw [← e9] at w9; first | omega | (have q9 := tA_i.mp w9.2; omega)
          refine zF_locs (ls' := [(0, zR (B 20))]) ⟨rfl, trivial⟩ ?_
          refine zF_while (X := Nat) (fun x => L - x) (fun x σ4 => b ≤ x ∧ x ≤ L ∧ zFr (PAd B) σ σ4 ∧ zia σ4 (B 20) ((2 : Nat) : Int) = (x : Int) ∧ zia σ4 (B 20) ((3 : Nat) : Int) = (b : Int) ∧ zia σ4 (B 20) ((5 : Nat) : Int) = tvN t b (x - b) ∧ (b < x → zia σ4 (B 20) ((4 : Nat) : Int) = 2) ∧ zrun tD t L x = zrun tD t L b ∧ ∀ i, b ≤ i → i < x → 48 ≤ t i ∧ t i ≤ 57) (fun x => [(0, zR (B 20))]) ?_ b σ3 (⟨Nat.le_refl _, by omega, f3, by rw [g23, eyb], g33, by rw [g53, show b - b = 0 by omega]; rfl, fun z => absurd z (Nat.lt_irrefl _), rfl, fun i a c => absurd c (by omega)⟩)
          intro z σ4 hI134 ih134
          show zF G mX9_advance d 134 [(0, zR (B 20))] [] σ4 _
          obtain ⟨hz0, hz1, f4, g24, g34, g54, k44, ez4, dg4⟩ := hI134
          have hT4 := cTk_ad hT (PAd.tk f4)
          have g14 := PAd_o f4 (by omega) h1
          have vb := tvN_b (t := t) (b := b) (n := z - b) fun i a c => dg4 i a (by omega)
          refine zF_aload_n 135 dX9_advance_134 rfl rfl ?_
          refine zF_getI 138 dX9_advance_135 rfl gX9_25 (by decide) (by decide) hT4.1 hT4.2.1 g24 ?_
          refine zF_aload_n 139 dX9_advance_138 rfl rfl ?_
          refine zF_getI 142 dX9_advance_139 rfl gX9_21 (by decide) (by decide) hT4.1 hT4.2.1 g14 ?_
          refine zF_icmp_ge 229 145 dX9_advance_142 rfl rfl (by first | decide | assumption | (constructor <;> omega)) (by first | decide | assumption | (constructor <;> omega)) (fun c16 => ?_) (fun c16 => ?_)
          · refine zF_aload_n 230 dX9_advance_229 rfl rfl ?_
            refine zF_getI 233 dX9_advance_230 rfl gX9_25 (by decide) (by decide) hT4.1 hT4.2.1 g24 ?_
            refine zF_aload_n 234 dX9_advance_233 rfl rfl ?_
            refine zF_getI 237 dX9_advance_234 rfl gX9_37 (by decide) (by decide) hT4.1 hT4.2.1 g34 ?_
            refine zF_icmp_le 241 240 dX9_advance_237 rfl rfl (by first | decide | assumption | (constructor <;> omega)) (by first | decide | assumption | (constructor <;> omega)) (fun c17 => ?_) (fun c17 => ?_)
            · have ezb : z = b := by omega
              refine zF_aload_n 242 dX9_advance_241 rfl rfl ?_
              refine zF_iconst 243 dX9_advance_242 rfl ?_
              refine zF_putI 246 dX9_advance_243 rfl pX9_advance_40 (Or.inl rfl) hT4.1 hT4.2.1 ?_
              refine zF_aload_n 247 dX9_advance_246 rfl rfl ?_
              refine zF_getI 250 dX9_advance_247 rfl gX9_25 (by decide) (by decide) hT4.1 hT4.2.1 (zsi_F (by decide) g24) ?_
              refine zF_aload_n 251 dX9_advance_250 rfl rfl ?_
              refine zF_getI 254 dX9_advance_251 rfl gX9_21 (by decide) (by decide) hT4.1 hT4.2.1 (zsi_F (by decide) g14) ?_
              refine zF_icmp_ge 285 257 dX9_advance_254 rfl rfl (by first | decide | assumption | (constructor <;> omega)) (by first | decide | assumption | (constructor <;> omega)) (fun c18 => ?_) (fun c18 => ?_)
              · exact zF_return dX9_advance_285 rfl ((by
    have e1 := tk_end (t := t) (L := L) (q := q) (b := z) (by rw [ezb]; exact eb) (by omega)
    exact ⟨rfl, (zFr_si ⟨rfl, by decide, by decide⟩ f4), by rw [e1.1]; exact (zsi_F (by decide) g24), by rw [← eb]; exact (zsi_F (by decide) g34), by rw [e1.2.1]; exact (zsi_same _ _ _ _), by rw [e1.2.2]; exact (zsi_F (by decide) g54).trans (by rw [ezb, Nat.sub_self]; rfl)⟩))
              · refine zF_aload_n 258 dX9_advance_257 rfl rfl ?_
                refine zF_aload_n 259 dX9_advance_258 rfl rfl ?_
                refine zF_getR 262 dX9_advance_259 rfl gX9_9 hT4.1 hT4.2.1 hT4.2.2.1 ?_
                refine zF_aload_n 263 dX9_advance_262 rfl rfl ?_
                refine zF_getI 266 dX9_advance_263 rfl gX9_25 (by decide) (by decide) hT4.1 hT4.2.1 (zsi_F (by decide) g24) ?_
                have tb4 := hb (z : Int) (by omega) (by omega)
                refine zF_baload 267 dX9_advance_266 rfl hT4.2.2.2.1 hT4.2.2.2.2.1 (by omega) (by omega) ((congrFun (zTx_1 hT4.2.2.2.2.2.1) _).trans ((hT4.2.2.2.2.2.2.2 (z : Int) (by omega) (by omega)).1)) ?_
                refine zF_putI 270 dX9_advance_267 rfl pX9_advance_43 (Or.inl rfl) hT4.1 hT4.2.1 ?_
                refine zF_aload_n 271 dX9_advance_270 rfl rfl ?_
                refine zF_dup 272 dX9_advance_271 rfl rfl ?_
                refine zF_getI 275 dX9_advance_272 rfl gX9_25 (by decide) (by decide) hT4.1 hT4.2.1 (zsi_F (by decide) (zsi_F (by decide) g24)) ?_
                refine zF_iconst 276 dX9_advance_275 rfl ?_
                refine zF_iadd 277 dX9_advance_276 rfl ?_
                refine zF_putI 280 dX9_advance_277 rfl pX9_advance_25 (Or.inl rfl) hT4.1 hT4.2.1 ?_
                refine zF_aload_n 281 dX9_advance_280 rfl rfl ?_
                refine zF_iconst 282 dX9_advance_281 rfl ?_
                refine zF_putI 285 dX9_advance_282 rfl pX9_advance_40 (Or.inl rfl) hT4.1 hT4.2.1 ?_
                exact zF_return dX9_advance_285 rfl ((by
    have e1 := tk_sign (t := t) (L := L) (q := q) (b := z) (by rw [ezb]; exact eb) (by rw [ezb]; exact nA) (fun w9 => by first | omega | (have := tD_i.mp w9.2; omega)) (by omega)
    exact ⟨rfl, (zFr_si ⟨rfl, by decide, by decide⟩ (zFr_si ⟨rfl, by decide, by decide⟩ (zFr_si ⟨rfl, by decide, by decide⟩ (zFr_si ⟨rfl, by decide, by decide⟩ f4)))), by rw [e1.1]; exact (zsi_F (by decide) (zsi_same _ _ _ _)).trans (by push_cast; omega), by rw [← eb]; exact (zsi_F (by decide) (zsi_F (by decide) (zsi_F (by decide) (zsi_F (by decide) g34)))), by rw [e1.2.1]; exact (zsi_same _ _ _ _), by rw [e1.2.2]; exact (zsi_F (by decide) (zsi_F (by decide) (zsi_same _ _ _ _)))⟩))
            · exact zF_return dX9_advance_240 rfl ((by
    have e1 := tk_num (t := t) (L := L) (q := q) eb nA (by omega) (by omega) (ez4.symm.trans (zrun_e (fun w9 => by first | omega | (have := tD_i.mp w9.2; omega)))) (dg4)
    exact ⟨rfl, f4, by rw [e1.1]; exact g24, by rw [← eb]; exact g34, by rw [e1.2.1]; exact k44 (by omega), by rw [e1.2.2]; exact g54⟩))
          · refine zF_aload_n 146 dX9_advance_145 rfl rfl ?_
            refine zF_getR 149 dX9_advance_146 rfl gX9_9 hT4.1 hT4.2.1 hT4.2.2.1 ?_
            refine zF_aload_n 150 dX9_advance_149 rfl rfl ?_
            refine zF_getI 153 dX9_advance_150 rfl gX9_25 (by decide) (by decide) hT4.1 hT4.2.1 g24 ?_
            have tb3 := hb (z : Int) (by omega) (by omega)
            refine zF_baload 154 dX9_advance_153 rfl hT4.2.2.2.1 hT4.2.2.2.2.1 (by omega) (by omega) ((hT4.2.2.2.2.2.2.2 (z : Int) (by omega) (by omega)).1) ?_
            refine zF_bipush 156 dX9_advance_154 rfl (by decide) ?_
            refine zF_icmp_lt 229 159 dX9_advance_156 rfl rfl (by first | decide | assumption | (constructor <;> omega)) (by first | decide | assumption | (constructor <;> omega)) (fun c19 => ?_) (fun c19 => ?_)
            · refine zF_aload_n 230 dX9_advance_229 rfl rfl ?_
              refine zF_getI 233 dX9_advance_230 rfl gX9_25 (by decide) (by decide) hT4.1 hT4.2.1 g24 ?_
              refine zF_aload_n 234 dX9_advance_233 rfl rfl ?_
              refine zF_getI 237 dX9_advance_234 rfl gX9_37 (by decide) (by decide) hT4.1 hT4.2.1 g34 ?_
              refine zF_icmp_le 241 240 dX9_advance_237 rfl rfl (by first | decide | assumption | (constructor <;> omega)) (by first | decide | assumption | (constructor <;> omega)) (fun c20 => ?_) (fun c20 => ?_)
              · have ezb : z = b := by omega
                refine zF_aload_n 242 dX9_advance_241 rfl rfl ?_
                refine zF_iconst 243 dX9_advance_242 rfl ?_
                refine zF_putI 246 dX9_advance_243 rfl pX9_advance_40 (Or.inl rfl) hT4.1 hT4.2.1 ?_
                refine zF_aload_n 247 dX9_advance_246 rfl rfl ?_
                refine zF_getI 250 dX9_advance_247 rfl gX9_25 (by decide) (by decide) hT4.1 hT4.2.1 (zsi_F (by decide) g24) ?_
                refine zF_aload_n 251 dX9_advance_250 rfl rfl ?_
                refine zF_getI 254 dX9_advance_251 rfl gX9_21 (by decide) (by decide) hT4.1 hT4.2.1 (zsi_F (by decide) g14) ?_
                refine zF_icmp_ge 285 257 dX9_advance_254 rfl rfl (by first | decide | assumption | (constructor <;> omega)) (by first | decide | assumption | (constructor <;> omega)) (fun c21 => ?_) (fun c21 => ?_)
                · exact zF_return dX9_advance_285 rfl ((by
    have e1 := tk_end (t := t) (L := L) (q := q) (b := z) (by rw [ezb]; exact eb) (by omega)
    exact ⟨rfl, (zFr_si ⟨rfl, by decide, by decide⟩ f4), by rw [e1.1]; exact (zsi_F (by decide) g24), by rw [← eb]; exact (zsi_F (by decide) g34), by rw [e1.2.1]; exact (zsi_same _ _ _ _), by rw [e1.2.2]; exact (zsi_F (by decide) g54).trans (by rw [ezb, Nat.sub_self]; rfl)⟩))
                · refine zF_aload_n 258 dX9_advance_257 rfl rfl ?_
                  refine zF_aload_n 259 dX9_advance_258 rfl rfl ?_
                  refine zF_getR 262 dX9_advance_259 rfl gX9_9 hT4.1 hT4.2.1 hT4.2.2.1 ?_
                  refine zF_aload_n 263 dX9_advance_262 rfl rfl ?_
                  refine zF_getI 266 dX9_advance_263 rfl gX9_25 (by decide) (by decide) hT4.1 hT4.2.1 (zsi_F (by decide) g24) ?_
                  have tb4 := hb (z : Int) (by omega) (by omega)
                  refine zF_baload 267 dX9_advance_266 rfl hT4.2.2.2.1 hT4.2.2.2.2.1 (by omega) (by omega) ((congrFun (zTx_1 hT4.2.2.2.2.2.1) _).trans ((hT4.2.2.2.2.2.2.2 (z : Int) (by omega) (by omega)).1)) ?_
                  refine zF_putI 270 dX9_advance_267 rfl pX9_advance_43 (Or.inl rfl) hT4.1 hT4.2.1 ?_
                  refine zF_aload_n 271 dX9_advance_270 rfl rfl ?_
                  refine zF_dup 272 dX9_advance_271 rfl rfl ?_
                  refine zF_getI 275 dX9_advance_272 rfl gX9_25 (by decide) (by decide) hT4.1 hT4.2.1 (zsi_F (by decide) (zsi_F (by decide) g24)) ?_
                  refine zF_iconst 276 dX9_advance_275 rfl ?_
                  refine zF_iadd 277 dX9_advance_276 rfl ?_
                  refine zF_putI 280 dX9_advance_277 rfl pX9_advance_25 (Or.inl rfl) hT4.1 hT4.2.1 ?_
                  refine zF_aload_n 281 dX9_advance_280 rfl rfl ?_
                  refine zF_iconst 282 dX9_advance_281 rfl ?_
                  refine zF_putI 285 dX9_advance_282 rfl pX9_advance_40 (Or.inl rfl) hT4.1 hT4.2.1 ?_
                  exact zF_return dX9_advance_285 rfl ((by
    have e1 := tk_sign (t := t) (L := L) (q := q) (b := z) (by rw [ezb]; exact eb) (by rw [ezb]; exact nA) (fun w9 => by first | omega | (have := tD_i.mp w9.2; omega)) (by omega)
    exact ⟨rfl, (zFr_si ⟨rfl, by decide, by decide⟩ (zFr_si ⟨rfl, by decide, by decide⟩ (zFr_si ⟨rfl, by decide, by decide⟩ (zFr_si ⟨rfl, by decide, by decide⟩ f4)))), by rw [e1.1]; exact (zsi_F (by decide) (zsi_same _ _ _ _)).trans (by push_cast; omega), by rw [← eb]; exact (zsi_F (by decide) (zsi_F (by decide) (zsi_F (by decide) (zsi_F (by decide) g34)))), by rw [e1.2.1]; exact (zsi_same _ _ _ _), by rw [e1.2.2]; exact (zsi_F (by decide) (zsi_F (by decide) (zsi_same _ _ _ _)))⟩))
              · exact zF_return dX9_advance_240 rfl ((by
    have e1 := tk_num (t := t) (L := L) (q := q) eb nA (by omega) (by omega) (ez4.symm.trans (zrun_e (fun w9 => by first | omega | (have := tD_i.mp w9.2; omega)))) (dg4)
    exact ⟨rfl, f4, by rw [e1.1]; exact g24, by rw [← eb]; exact g34, by rw [e1.2.1]; exact k44 (by omega), by rw [e1.2.2]; exact g54⟩))
            · refine zF_aload_n 160 dX9_advance_159 rfl rfl ?_
              refine zF_getR 163 dX9_advance_160 rfl gX9_9 hT4.1 hT4.2.1 hT4.2.2.1 ?_
              refine zF_aload_n 164 dX9_advance_163 rfl rfl ?_
              refine zF_getI 167 dX9_advance_164 rfl gX9_25 (by decide) (by decide) hT4.1 hT4.2.1 g24 ?_
              refine zF_baload 168 dX9_advance_167 rfl hT4.2.2.2.1 hT4.2.2.2.2.1 (by omega) (by omega) ((hT4.2.2.2.2.2.2.2 (z : Int) (by omega) (by omega)).1) ?_
              refine zF_bipush 170 dX9_advance_168 rfl (by decide) ?_
              refine zF_icmp_gt 229 173 dX9_advance_170 rfl rfl (by first | decide | assumption | (constructor <;> omega)) (by first | decide | assumption | (constructor <;> omega)) (fun c22 => ?_) (fun c22 => ?_)
              · refine zF_aload_n 230 dX9_advance_229 rfl rfl ?_
                refine zF_getI 233 dX9_advance_230 rfl gX9_25 (by decide) (by decide) hT4.1 hT4.2.1 g24 ?_
                refine zF_aload_n 234 dX9_advance_233 rfl rfl ?_
                refine zF_getI 237 dX9_advance_234 rfl gX9_37 (by decide) (by decide) hT4.1 hT4.2.1 g34 ?_
                refine zF_icmp_le 241 240 dX9_advance_237 rfl rfl (by first | decide | assumption | (constructor <;> omega)) (by first | decide | assumption | (constructor <;> omega)) (fun c23 => ?_) (fun c23 => ?_)
                · have ezb : z = b := by omega
                  refine zF_aload_n 242 dX9_advance_241 rfl rfl ?_
                  refine zF_iconst 243 dX9_advance_242 rfl ?_
                  refine zF_putI 246 dX9_advance_243 rfl pX9_advance_40 (Or.inl rfl) hT4.1 hT4.2.1 ?_
                  refine zF_aload_n 247 dX9_advance_246 rfl rfl ?_
                  refine zF_getI 250 dX9_advance_247 rfl gX9_25 (by decide) (by decide) hT4.1 hT4.2.1 (zsi_F (by decide) g24) ?_
                  refine zF_aload_n 251 dX9_advance_250 rfl rfl ?_
                  refine zF_getI 254 dX9_advance_251 rfl gX9_21 (by decide) (by decide) hT4.1 hT4.2.1 (zsi_F (by decide) g14) ?_
                  refine zF_icmp_ge 285 257 dX9_advance_254 rfl rfl (by first | decide | assumption | (constructor <;> omega)) (by first | decide | assumption | (constructor <;> omega)) (fun c24 => ?_) (fun c24 => ?_)
                  · exact zF_return dX9_advance_285 rfl ((by
    have e1 := tk_end (t := t) (L := L) (q := q) (b := z) (by rw [ezb]; exact eb) (by omega)
    exact ⟨rfl, (zFr_si ⟨rfl, by decide, by decide⟩ f4), by rw [e1.1]; exact (zsi_F (by decide) g24), by rw [← eb]; exact (zsi_F (by decide) g34), by rw [e1.2.1]; exact (zsi_same _ _ _ _), by rw [e1.2.2]; exact (zsi_F (by decide) g54).trans (by rw [ezb, Nat.sub_self]; rfl)⟩))
                  · refine zF_aload_n 258 dX9_advance_257 rfl rfl ?_
                    refine zF_aload_n 259 dX9_advance_258 rfl rfl ?_
                    refine zF_getR 262 dX9_advance_259 rfl gX9_9 hT4.1 hT4.2.1 hT4.2.2.1 ?_
                    refine zF_aload_n 263 dX9_advance_262 rfl rfl ?_
                    refine zF_getI 266 dX9_advance_263 rfl gX9_25 (by decide) (by decide) hT4.1 hT4.2.1 (zsi_F (by decide) g24) ?_
                    have tb4 := hb (z : Int) (by omega) (by omega)
                    refine zF_baload 267 dX9_advance_266 rfl hT4.2.2.2.1 hT4.2.2.2.2.1 (by omega) (by omega) ((congrFun (zTx_1 hT4.2.2.2.2.2.1) _).trans ((hT4.2.2.2.2.2.2.2 (z : Int) (by omega) (by omega)).1)) ?_
                    refine zF_putI 270 dX9_advance_267 rfl pX9_advance_43 (Or.inl rfl) hT4.1 hT4.2.1 ?_
                    refine zF_aload_n 271 dX9_advance_270 rfl rfl ?_
                    refine zF_dup 272 dX9_advance_271 rfl rfl ?_
                    refine zF_getI 275 dX9_advance_272 rfl gX9_25 (by decide) (by decide) hT4.1 hT4.2.1 (zsi_F (by decide) (zsi_F (by decide) g24)) ?_
                    refine zF_iconst 276 dX9_advance_275 rfl ?_
                    refine zF_iadd 277 dX9_advance_276 rfl ?_
                    refine zF_putI 280 dX9_advance_277 rfl pX9_advance_25 (Or.inl rfl) hT4.1 hT4.2.1 ?_
                    refine zF_aload_n 281 dX9_advance_280 rfl rfl ?_
                    refine zF_iconst 282 dX9_advance_281 rfl ?_
                    refine zF_putI 285 dX9_advance_282 rfl pX9_advance_40 (Or.inl rfl) hT4.1 hT4.2.1 ?_
                    exact zF_return dX9_advance_285 rfl ((by
    have e1 := tk_sign (t := t) (L := L) (q := q) (b := z) (by rw [ezb]; exact eb) (by rw [ezb]; exact nA) (fun w9 => by first | omega | (have := tD_i.mp w9.2; omega)) (by omega)
    exact ⟨rfl, (zFr_si ⟨rfl, by decide, by decide⟩ (zFr_si ⟨rfl, by decide, by decide⟩ (zFr_si ⟨rfl, by decide, by decide⟩ (zFr_si ⟨rfl, by decide, by decide⟩ f4)))), by rw [e1.1]; exact (zsi_F (by decide) (zsi_same _ _ _ _)).trans (by push_cast; omega), by rw [← eb]; exact (zsi_F (by decide) (zsi_F (by decide) (zsi_F (by decide) (zsi_F (by decide) g34)))), by rw [e1.2.1]; exact (zsi_same _ _ _ _), by rw [e1.2.2]; exact (zsi_F (by decide) (zsi_F (by decide) (zsi_same _ _ _ _)))⟩))
                · exact zF_return dX9_advance_240 rfl ((by
    have e1 := tk_num (t := t) (L := L) (q := q) eb nA (by omega) (by omega) (ez4.symm.trans (zrun_e (fun w9 => by first | omega | (have := tD_i.mp w9.2; omega)))) (dg4)
    exact ⟨rfl, f4, by rw [e1.1]; exact g24, by rw [← eb]; exact g34, by rw [e1.2.1]; exact k44 (by omega), by rw [e1.2.2]; exact g54⟩))
              · refine zF_aload_n 174 dX9_advance_173 rfl rfl ?_
                refine zF_aload_n 175 dX9_advance_174 rfl rfl ?_
                refine zF_getI 178 dX9_advance_175 rfl gX9_43 (by decide) (by decide) hT4.1 hT4.2.1 g54 ?_
                refine zF_ldc 180 dX9_advance_178 rfl oX9_46 ?_
                refine zF_icmp_ge 206 183 dX9_advance_180 rfl rfl (by first | decide | assumption | (constructor <;> omega)) (by first | decide | assumption | (constructor <;> omega)) (fun c25 => ?_) (fun c25 => ?_)
                · refine zF_ldc 208 dX9_advance_206 rfl oX9_46 ?_
                  refine zF_putI 211 dX9_advance_208 rfl pX9_advance_43 (Or.inl rfl) hT4.1 hT4.2.1 ?_
                  refine zF_aload_n 212 dX9_advance_211 rfl rfl ?_
                  refine zF_dup 213 dX9_advance_212 rfl rfl ?_
                  refine zF_getI 216 dX9_advance_213 rfl gX9_25 (by decide) (by decide) hT4.1 hT4.2.1 (zsi_F (by decide) g24) ?_
                  refine zF_iconst 217 dX9_advance_216 rfl ?_
                  refine zF_iadd 218 dX9_advance_217 rfl ?_
                  refine zF_putI 221 dX9_advance_218 rfl pX9_advance_25 (Or.inl rfl) hT4.1 hT4.2.1 ?_
                  refine zF_aload_n 222 dX9_advance_221 rfl rfl ?_
                  refine zF_iconst 223 dX9_advance_222 rfl ?_
                  refine zF_putI 226 dX9_advance_223 rfl pX9_advance_40 (Or.inl rfl) hT4.1 hT4.2.1 ?_
                  refine zF_goto 134 dX9_advance_226 rfl ?_
                  exact zF_locs (ls' := [(0, zR (B 20))]) ⟨rfl, trivial⟩ (ih134 (z + 1) _ (by omega) (⟨by omega, by omega, (zFr_si ⟨rfl, by decide, by decide⟩ (zFr_si ⟨rfl, by decide, by decide⟩ (zFr_si ⟨rfl, by decide, by decide⟩ f4))), (zsi_F (by decide) (zsi_same _ _ _ _)).trans (by push_cast; rfl), (zsi_F (by decide) (zsi_F (by decide) (zsi_F (by decide) g34))), (zsi_F (by decide) (zsi_F (by decide) (zsi_same _ _ _ _))).trans (tvN_step (by omega) (by first | exact (if_pos (by omega)).symm | exact (if_neg (by omega)).symm)), fun _ => (zsi_same _ _ _ _), (zrun_s (by omega) (tD_i.mpr (by omega))).symm.trans ez4, fun i a c => by
              by_cases e : i = z
              · subst e; omega
              · exact dg4 i a (by omega)⟩))
                · refine zF_aload_n 184 dX9_advance_183 rfl rfl ?_
                  refine zF_getI 187 dX9_advance_184 rfl gX9_43 (by decide) (by decide) hT4.1 hT4.2.1 g54 ?_
                  refine zF_bipush 189 dX9_advance_187 rfl (by decide) ?_
                  refine zF_imul 190 dX9_advance_189 rfl ?_
                  refine zF_aload_n 191 dX9_advance_190 rfl rfl ?_
                  refine zF_getR 194 dX9_advance_191 rfl gX9_9 hT4.1 hT4.2.1 hT4.2.2.1 ?_
                  refine zF_aload_n 195 dX9_advance_194 rfl rfl ?_
                  refine zF_getI 198 dX9_advance_195 rfl gX9_25 (by decide) (by decide) hT4.1 hT4.2.1 g24 ?_
                  refine zF_baload 199 dX9_advance_198 rfl hT4.2.2.2.1 hT4.2.2.2.2.1 (by omega) (by omega) ((hT4.2.2.2.2.2.2.2 (z : Int) (by omega) (by omega)).1) ?_
                  refine zF_iadd 200 dX9_advance_199 rfl ?_
                  refine zF_bipush 202 dX9_advance_200 rfl (by decide) ?_
                  refine zF_isub 203 dX9_advance_202 rfl ?_
                  refine zF_goto 208 dX9_advance_203 rfl ?_
                  refine zF_putI 211 dX9_advance_208 rfl pX9_advance_43 (Or.inl rfl) hT4.1 hT4.2.1 ?_
                  refine zF_aload_n 212 dX9_advance_211 rfl rfl ?_
                  refine zF_dup 213 dX9_advance_212 rfl rfl ?_
                  refine zF_getI 216 dX9_advance_213 rfl gX9_25 (by decide) (by decide) hT4.1 hT4.2.1 (zsi_F (by decide) g24) ?_
                  refine zF_iconst 217 dX9_advance_216 rfl ?_
                  refine zF_iadd 218 dX9_advance_217 rfl ?_
                  refine zF_putI 221 dX9_advance_218 rfl pX9_advance_25 (Or.inl rfl) hT4.1 hT4.2.1 ?_
                  refine zF_aload_n 222 dX9_advance_221 rfl rfl ?_
                  refine zF_iconst 223 dX9_advance_222 rfl ?_
                  refine zF_putI 226 dX9_advance_223 rfl pX9_advance_40 (Or.inl rfl) hT4.1 hT4.2.1 ?_
                  refine zF_goto 134 dX9_advance_226 rfl ?_
                  exact zF_locs (ls' := [(0, zR (B 20))]) ⟨rfl, trivial⟩ (ih134 (z + 1) _ (by omega) (⟨by omega, by omega, (zFr_si ⟨rfl, by decide, by decide⟩ (zFr_si ⟨rfl, by decide, by decide⟩ (zFr_si ⟨rfl, by decide, by decide⟩ f4))), (zsi_F (by decide) (zsi_same _ _ _ _)).trans (by push_cast; rfl), (zsi_F (by decide) (zsi_F (by decide) (zsi_F (by decide) g34))), (zsi_F (by decide) (zsi_F (by decide) (zsi_same _ _ _ _))).trans (tvN_step (by omega) (by first | exact (if_pos (by omega)).symm | exact (if_neg (by omega)).symm)), fun _ => (zsi_same _ _ _ _), (zrun_s (by omega) (tD_i.mpr (by omega))).symm.trans ez4, fun i a c => by
              by_cases e : i = z
              · subst e; omega
              · exact dg4 i a (by omega)⟩))
        · exact zF_return dX9_advance_133 rfl ((by
    have e1 := tk_word (t := t) (L := L) (q := q) eb (by omega) (by omega) (ez3.symm.trans (zrun_e (fun z => by first | omega | (have := tA_i.mp z.2; omega)))) (al3 (by omega))
    exact ⟨rfl, f3, by rw [e1.1]; exact g23, by rw [← eb]; exact g33, by rw [e1.2.1]; exact k43 (by omega), by rw [e1.2.2]; exact g53⟩))
      · refine zF_aload_n 91 dX9_advance_90 rfl rfl ?_
        refine zF_getR 94 dX9_advance_91 rfl gX9_9 hT3.1 hT3.2.1 hT3.2.2.1 ?_
        refine zF_aload_n 95 dX9_advance_94 rfl rfl ?_
        refine zF_getI 98 dX9_advance_95 rfl gX9_25 (by decide) (by decide) hT3.1 hT3.2.1 g23 ?_
        refine zF_baload 99 dX9_advance_98 rfl hT3.2.2.2.1 hT3.2.2.2.2.1 (by omega) (by omega) ((hT3.2.2.2.2.2.2.2 (y : Int) (by omega) (by omega)).1) ?_
        refine zF_bipush 101 dX9_advance_99 rfl (by decide) ?_
        refine zF_icmp_gt 122 104 dX9_advance_101 rfl rfl (by first | decide | assumption | (constructor <;> omega)) (by first | decide | assumption | (constructor <;> omega)) (fun c26 => ?_) (fun c26 => ?_)
        · refine zF_aload_n 123 dX9_advance_122 rfl rfl ?_
          refine zF_getI 126 dX9_advance_123 rfl gX9_25 (by decide) (by decide) hT3.1 hT3.2.1 g23 ?_
          refine zF_aload_n 127 dX9_advance_126 rfl rfl ?_
          refine zF_getI 130 dX9_advance_127 rfl gX9_37 (by decide) (by decide) hT3.1 hT3.2.1 g33 ?_
          refine zF_icmp_le 134 133 dX9_advance_130 rfl rfl (by first | decide | assumption | (constructor <;> omega)) (by first | decide | assumption | (constructor <;> omega)) (fun c27 => ?_) (fun c27 => ?_)
          · obtain ⟨eyb, nA⟩ : y = b ∧ ¬ (b < L ∧ tA (t b) = true) := by refine ⟨by omega, fun w9 => ?_⟩; have e9 : (y : Int) = (b : Int) := (by omega); rw [← e9] at w9; first | omega | (have q9 := tA_i.mp w9.2; omega)
            refine zF_locs (ls' := [(0, zR (B 20))]) ⟨rfl, trivial⟩ ?_
            refine zF_while (X := Nat) (fun x => L - x) (fun x σ4 => b ≤ x ∧ x ≤ L ∧ zFr (PAd B) σ σ4 ∧ zia σ4 (B 20) ((2 : Nat) : Int) = (x : Int) ∧ zia σ4 (B 20) ((3 : Nat) : Int) = (b : Int) ∧ zia σ4 (B 20) ((5 : Nat) : Int) = tvN t b (x - b) ∧ (b < x → zia σ4 (B 20) ((4 : Nat) : Int) = 2) ∧ zrun tD t L x = zrun tD t L b ∧ ∀ i, b ≤ i → i < x → 48 ≤ t i ∧ t i ≤ 57) (fun x => [(0, zR (B 20))]) ?_ b σ3 (⟨Nat.le_refl _, by omega, f3, by rw [g23, eyb], g33, by rw [g53, show b - b = 0 by omega]; rfl, fun z => absurd z (Nat.lt_irrefl _), rfl, fun i a c => absurd c (by omega)⟩)
            intro z σ4 hI134 ih134
            show zF G mX9_advance d 134 [(0, zR (B 20))] [] σ4 _
            obtain ⟨hz0, hz1, f4, g24, g34, g54, k44, ez4, dg4⟩ := hI134
            have hT4 := cTk_ad hT (PAd.tk f4)
            have g14 := PAd_o f4 (by omega) h1
            have vb := tvN_b (t := t) (b := b) (n := z - b) fun i a c => dg4 i a (by omega)
            refine zF_aload_n 135 dX9_advance_134 rfl rfl ?_
            refine zF_getI 138 dX9_advance_135 rfl gX9_25 (by decide) (by decide) hT4.1 hT4.2.1 g24 ?_
            refine zF_aload_n 139 dX9_advance_138 rfl rfl ?_
            refine zF_getI 142 dX9_advance_139 rfl gX9_21 (by decide) (by decide) hT4.1 hT4.2.1 g14 ?_
            refine zF_icmp_ge 229 145 dX9_advance_142 rfl rfl (by first | decide | assumption | (constructor <;> omega)) (by first | decide | assumption | (constructor <;> omega)) (fun c28 => ?_) (fun c28 => ?_)
            · refine zF_aload_n 230 dX9_advance_229 rfl rfl ?_
              refine zF_getI 233 dX9_advance_230 rfl gX9_25 (by decide) (by decide) hT4.1 hT4.2.1 g24 ?_
              refine zF_aload_n 234 dX9_advance_233 rfl rfl ?_
              refine zF_getI 237 dX9_advance_234 rfl gX9_37 (by decide) (by decide) hT4.1 hT4.2.1 g34 ?_
              refine zF_icmp_le 241 240 dX9_advance_237 rfl rfl (by first | decide | assumption | (constructor <;> omega)) (by first | decide | assumption | (constructor <;> omega)) (fun c29 => ?_) (fun c29 => ?_)
              · have ezb : z = b := by omega
                refine zF_aload_n 242 dX9_advance_241 rfl rfl ?_
                refine zF_iconst 243 dX9_advance_242 rfl ?_
                refine zF_putI 246 dX9_advance_243 rfl pX9_advance_40 (Or.inl rfl) hT4.1 hT4.2.1 ?_
                refine zF_aload_n 247 dX9_advance_246 rfl rfl ?_
                refine zF_getI 250 dX9_advance_247 rfl gX9_25 (by decide) (by decide) hT4.1 hT4.2.1 (zsi_F (by decide) g24) ?_
                refine zF_aload_n 251 dX9_advance_250 rfl rfl ?_
                refine zF_getI 254 dX9_advance_251 rfl gX9_21 (by decide) (by decide) hT4.1 hT4.2.1 (zsi_F (by decide) g14) ?_
                refine zF_icmp_ge 285 257 dX9_advance_254 rfl rfl (by first | decide | assumption | (constructor <;> omega)) (by first | decide | assumption | (constructor <;> omega)) (fun c30 => ?_) (fun c30 => ?_)
                · exact zF_return dX9_advance_285 rfl ((by
    have e1 := tk_end (t := t) (L := L) (q := q) (b := z) (by rw [ezb]; exact eb) (by omega)
    exact ⟨rfl, (zFr_si ⟨rfl, by decide, by decide⟩ f4), by rw [e1.1]; exact (zsi_F (by decide) g24), by rw [← eb]; exact (zsi_F (by decide) g34), by rw [e1.2.1]; exact (zsi_same _ _ _ _), by rw [e1.2.2]; exact (zsi_F (by decide) g54).trans (by rw [ezb, Nat.sub_self]; rfl)⟩))
                · refine zF_aload_n 258 dX9_advance_257 rfl rfl ?_
                  refine zF_aload_n 259 dX9_advance_258 rfl rfl ?_
                  refine zF_getR 262 dX9_advance_259 rfl gX9_9 hT4.1 hT4.2.1 hT4.2.2.1 ?_
                  refine zF_aload_n 263 dX9_advance_262 rfl rfl ?_
                  refine zF_getI 266 dX9_advance_263 rfl gX9_25 (by decide) (by decide) hT4.1 hT4.2.1 (zsi_F (by decide) g24) ?_
                  have tb4 := hb (z : Int) (by omega) (by omega)
                  refine zF_baload 267 dX9_advance_266 rfl hT4.2.2.2.1 hT4.2.2.2.2.1 (by omega) (by omega) ((congrFun (zTx_1 hT4.2.2.2.2.2.1) _).trans ((hT4.2.2.2.2.2.2.2 (z : Int) (by omega) (by omega)).1)) ?_
                  refine zF_putI 270 dX9_advance_267 rfl pX9_advance_43 (Or.inl rfl) hT4.1 hT4.2.1 ?_
                  refine zF_aload_n 271 dX9_advance_270 rfl rfl ?_
                  refine zF_dup 272 dX9_advance_271 rfl rfl ?_
                  refine zF_getI 275 dX9_advance_272 rfl gX9_25 (by decide) (by decide) hT4.1 hT4.2.1 (zsi_F (by decide) (zsi_F (by decide) g24)) ?_
                  refine zF_iconst 276 dX9_advance_275 rfl ?_
                  refine zF_iadd 277 dX9_advance_276 rfl ?_
                  refine zF_putI 280 dX9_advance_277 rfl pX9_advance_25 (Or.inl rfl) hT4.1 hT4.2.1 ?_
                  refine zF_aload_n 281 dX9_advance_280 rfl rfl ?_
                  refine zF_iconst 282 dX9_advance_281 rfl ?_
                  refine zF_putI 285 dX9_advance_282 rfl pX9_advance_40 (Or.inl rfl) hT4.1 hT4.2.1 ?_
                  exact zF_return dX9_advance_285 rfl ((by
    have e1 := tk_sign (t := t) (L := L) (q := q) (b := z) (by rw [ezb]; exact eb) (by rw [ezb]; exact nA) (fun w9 => by first | omega | (have := tD_i.mp w9.2; omega)) (by omega)
    exact ⟨rfl, (zFr_si ⟨rfl, by decide, by decide⟩ (zFr_si ⟨rfl, by decide, by decide⟩ (zFr_si ⟨rfl, by decide, by decide⟩ (zFr_si ⟨rfl, by decide, by decide⟩ f4)))), by rw [e1.1]; exact (zsi_F (by decide) (zsi_same _ _ _ _)).trans (by push_cast; omega), by rw [← eb]; exact (zsi_F (by decide) (zsi_F (by decide) (zsi_F (by decide) (zsi_F (by decide) g34)))), by rw [e1.2.1]; exact (zsi_same _ _ _ _), by rw [e1.2.2]; exact (zsi_F (by decide) (zsi_F (by decide) (zsi_same _ _ _ _)))⟩))
              · exact zF_return dX9_advance_240 rfl ((by
    have e1 := tk_num (t := t) (L := L) (q := q) eb nA (by omega) (by omega) (ez4.symm.trans (zrun_e (fun w9 => by first | omega | (have := tD_i.mp w9.2; omega)))) (dg4)
    exact ⟨rfl, f4, by rw [e1.1]; exact g24, by rw [← eb]; exact g34, by rw [e1.2.1]; exact k44 (by omega), by rw [e1.2.2]; exact g54⟩))
            · refine zF_aload_n 146 dX9_advance_145 rfl rfl ?_
              refine zF_getR 149 dX9_advance_146 rfl gX9_9 hT4.1 hT4.2.1 hT4.2.2.1 ?_
              refine zF_aload_n 150 dX9_advance_149 rfl rfl ?_
              refine zF_getI 153 dX9_advance_150 rfl gX9_25 (by decide) (by decide) hT4.1 hT4.2.1 g24 ?_
              have tb3 := hb (z : Int) (by omega) (by omega)
              refine zF_baload 154 dX9_advance_153 rfl hT4.2.2.2.1 hT4.2.2.2.2.1 (by omega) (by omega) ((hT4.2.2.2.2.2.2.2 (z : Int) (by omega) (by omega)).1) ?_
              refine zF_bipush 156 dX9_advance_154 rfl (by decide) ?_
              refine zF_icmp_lt 229 159 dX9_advance_156 rfl rfl (by first | decide | assumption | (constructor <;> omega)) (by first | decide | assumption | (constructor <;> omega)) (fun c31 => ?_) (fun c31 => ?_)
              · refine zF_aload_n 230 dX9_advance_229 rfl rfl ?_
                refine zF_getI 233 dX9_advance_230 rfl gX9_25 (by decide) (by decide) hT4.1 hT4.2.1 g24 ?_
                refine zF_aload_n 234 dX9_advance_233 rfl rfl ?_
                refine zF_getI 237 dX9_advance_234 rfl gX9_37 (by decide) (by decide) hT4.1 hT4.2.1 g34 ?_
                refine zF_icmp_le 241 240 dX9_advance_237 rfl rfl (by first | decide | assumption | (constructor <;> omega)) (by first | decide | assumption | (constructor <;> omega)) (fun c32 => ?_) (fun c32 => ?_)
                · have ezb : z = b := by omega
                  refine zF_aload_n 242 dX9_advance_241 rfl rfl ?_
                  refine zF_iconst 243 dX9_advance_242 rfl ?_
                  refine zF_putI 246 dX9_advance_243 rfl pX9_advance_40 (Or.inl rfl) hT4.1 hT4.2.1 ?_
                  refine zF_aload_n 247 dX9_advance_246 rfl rfl ?_
                  refine zF_getI 250 dX9_advance_247 rfl gX9_25 (by decide) (by decide) hT4.1 hT4.2.1 (zsi_F (by decide) g24) ?_
                  refine zF_aload_n 251 dX9_advance_250 rfl rfl ?_
                  refine zF_getI 254 dX9_advance_251 rfl gX9_21 (by decide) (by decide) hT4.1 hT4.2.1 (zsi_F (by decide) g14) ?_
                  refine zF_icmp_ge 285 257 dX9_advance_254 rfl rfl (by first | decide | assumption | (constructor <;> omega)) (by first | decide | assumption | (constructor <;> omega)) (fun c33 => ?_) (fun c33 => ?_)
                  · exact zF_return dX9_advance_285 rfl ((by
    have e1 := tk_end (t := t) (L := L) (q := q) (b := z) (by rw [ezb]; exact eb) (by omega)
    exact ⟨rfl, (zFr_si ⟨rfl, by decide, by decide⟩ f4), by rw [e1.1]; exact (zsi_F (by decide) g24), by rw [← eb]; exact (zsi_F (by decide) g34), by rw [e1.2.1]; exact (zsi_same _ _ _ _), by rw [e1.2.2]; exact (zsi_F (by decide) g54).trans (by rw [ezb, Nat.sub_self]; rfl)⟩))
                  · refine zF_aload_n 258 dX9_advance_257 rfl rfl ?_
                    refine zF_aload_n 259 dX9_advance_258 rfl rfl ?_
                    refine zF_getR 262 dX9_advance_259 rfl gX9_9 hT4.1 hT4.2.1 hT4.2.2.1 ?_
                    refine zF_aload_n 263 dX9_advance_262 rfl rfl ?_
                    refine zF_getI 266 dX9_advance_263 rfl gX9_25 (by decide) (by decide) hT4.1 hT4.2.1 (zsi_F (by decide) g24) ?_
                    have tb4 := hb (z : Int) (by omega) (by omega)
                    refine zF_baload 267 dX9_advance_266 rfl hT4.2.2.2.1 hT4.2.2.2.2.1 (by omega) (by omega) ((congrFun (zTx_1 hT4.2.2.2.2.2.1) _).trans ((hT4.2.2.2.2.2.2.2 (z : Int) (by omega) (by omega)).1)) ?_
                    refine zF_putI 270 dX9_advance_267 rfl pX9_advance_43 (Or.inl rfl) hT4.1 hT4.2.1 ?_
                    refine zF_aload_n 271 dX9_advance_270 rfl rfl ?_
                    refine zF_dup 272 dX9_advance_271 rfl rfl ?_
                    refine zF_getI 275 dX9_advance_272 rfl gX9_25 (by decide) (by decide) hT4.1 hT4.2.1 (zsi_F (by decide) (zsi_F (by decide) g24)) ?_
                    refine zF_iconst 276 dX9_advance_275 rfl ?_
                    refine zF_iadd 277 dX9_advance_276 rfl ?_
                    refine zF_putI 280 dX9_advance_277 rfl pX9_advance_25 (Or.inl rfl) hT4.1 hT4.2.1 ?_
                    refine zF_aload_n 281 dX9_advance_280 rfl rfl ?_
                    refine zF_iconst 282 dX9_advance_281 rfl ?_
                    refine zF_putI 285 dX9_advance_282 rfl pX9_advance_40 (Or.inl rfl) hT4.1 hT4.2.1 ?_
                    exact zF_return dX9_advance_285 rfl ((by
    have e1 := tk_sign (t := t) (L := L) (q := q) (b := z) (by rw [ezb]; exact eb) (by rw [ezb]; exact nA) (fun w9 => by first | omega | (have := tD_i.mp w9.2; omega)) (by omega)
    exact ⟨rfl, (zFr_si ⟨rfl, by decide, by decide⟩ (zFr_si ⟨rfl, by decide, by decide⟩ (zFr_si ⟨rfl, by decide, by decide⟩ (zFr_si ⟨rfl, by decide, by decide⟩ f4)))), by rw [e1.1]; exact (zsi_F (by decide) (zsi_same _ _ _ _)).trans (by push_cast; omega), by rw [← eb]; exact (zsi_F (by decide) (zsi_F (by decide) (zsi_F (by decide) (zsi_F (by decide) g34)))), by rw [e1.2.1]; exact (zsi_same _ _ _ _), by rw [e1.2.2]; exact (zsi_F (by decide) (zsi_F (by decide) (zsi_same _ _ _ _)))⟩))
                · exact zF_return dX9_advance_240 rfl ((by
    have e1 := tk_num (t := t) (L := L) (q := q) eb nA (by omega) (by omega) (ez4.symm.trans (zrun_e (fun w9 => by first | omega | (have := tD_i.mp w9.2; omega)))) (dg4)
    exact ⟨rfl, f4, by rw [e1.1]; exact g24, by rw [← eb]; exact g34, by rw [e1.2.1]; exact k44 (by omega), by rw [e1.2.2]; exact g54⟩))
              · refine zF_aload_n 160 dX9_advance_159 rfl rfl ?_
                refine zF_getR 163 dX9_advance_160 rfl gX9_9 hT4.1 hT4.2.1 hT4.2.2.1 ?_
                refine zF_aload_n 164 dX9_advance_163 rfl rfl ?_
                refine zF_getI 167 dX9_advance_164 rfl gX9_25 (by decide) (by decide) hT4.1 hT4.2.1 g24 ?_
                refine zF_baload 168 dX9_advance_167 rfl hT4.2.2.2.1 hT4.2.2.2.2.1 (by omega) (by omega) ((hT4.2.2.2.2.2.2.2 (z : Int) (by omega) (by omega)).1) ?_
                refine zF_bipush 170 dX9_advance_168 rfl (by decide) ?_
                refine zF_icmp_gt 229 173 dX9_advance_170 rfl rfl (by first | decide | assumption | (constructor <;> omega)) (by first | decide | assumption | (constructor <;> omega)) (fun c34 => ?_) (fun c34 => ?_)
                · refine zF_aload_n 230 dX9_advance_229 rfl rfl ?_
                  refine zF_getI 233 dX9_advance_230 rfl gX9_25 (by decide) (by decide) hT4.1 hT4.2.1 g24 ?_
                  refine zF_aload_n 234 dX9_advance_233 rfl rfl ?_
                  refine zF_getI 237 dX9_advance_234 rfl gX9_37 (by decide) (by decide) hT4.1 hT4.2.1 g34 ?_
                  refine zF_icmp_le 241 240 dX9_advance_237 rfl rfl (by first | decide | assumption | (constructor <;> omega)) (by first | decide | assumption | (constructor <;> omega)) (fun c35 => ?_) (fun c35 => ?_)
                  · have ezb : z = b := by omega
                    refine zF_aload_n 242 dX9_advance_241 rfl rfl ?_
                    refine zF_iconst 243 dX9_advance_242 rfl ?_
                    refine zF_putI 246 dX9_advance_243 rfl pX9_advance_40 (Or.inl rfl) hT4.1 hT4.2.1 ?_
                    refine zF_aload_n 247 dX9_advance_246 rfl rfl ?_
                    refine zF_getI 250 dX9_advance_247 rfl gX9_25 (by decide) (by decide) hT4.1 hT4.2.1 (zsi_F (by decide) g24) ?_
                    refine zF_aload_n 251 dX9_advance_250 rfl rfl ?_
                    refine zF_getI 254 dX9_advance_251 rfl gX9_21 (by decide) (by decide) hT4.1 hT4.2.1 (zsi_F (by decide) g14) ?_
                    refine zF_icmp_ge 285 257 dX9_advance_254 rfl rfl (by first | decide | assumption | (constructor <;> omega)) (by first | decide | assumption | (constructor <;> omega)) (fun c36 => ?_) (fun c36 => ?_)
                    · exact zF_return dX9_advance_285 rfl ((by
    have e1 := tk_end (t := t) (L := L) (q := q) (b := z) (by rw [ezb]; exact eb) (by omega)
    exact ⟨rfl, (zFr_si ⟨rfl, by decide, by decide⟩ f4), by rw [e1.1]; exact (zsi_F (by decide) g24), by rw [← eb]; exact (zsi_F (by decide) g34), by rw [e1.2.1]; exact (zsi_same _ _ _ _), by rw [e1.2.2]; exact (zsi_F (by decide) g54).trans (by rw [ezb, Nat.sub_self]; rfl)⟩))
                    · refine zF_aload_n 258 dX9_advance_257 rfl rfl ?_
                      refine zF_aload_n 259 dX9_advance_258 rfl rfl ?_
                      refine zF_getR 262 dX9_advance_259 rfl gX9_9 hT4.1 hT4.2.1 hT4.2.2.1 ?_
                      refine zF_aload_n 263 dX9_advance_262 rfl rfl ?_
                      refine zF_getI 266 dX9_advance_263 rfl gX9_25 (by decide) (by decide) hT4.1 hT4.2.1 (zsi_F (by decide) g24) ?_
                      have tb4 := hb (z : Int) (by omega) (by omega)
                      refine zF_baload 267 dX9_advance_266 rfl hT4.2.2.2.1 hT4.2.2.2.2.1 (by omega) (by omega) ((congrFun (zTx_1 hT4.2.2.2.2.2.1) _).trans ((hT4.2.2.2.2.2.2.2 (z : Int) (by omega) (by omega)).1)) ?_
                      refine zF_putI 270 dX9_advance_267 rfl pX9_advance_43 (Or.inl rfl) hT4.1 hT4.2.1 ?_
                      refine zF_aload_n 271 dX9_advance_270 rfl rfl ?_
                      refine zF_dup 272 dX9_advance_271 rfl rfl ?_
                      refine zF_getI 275 dX9_advance_272 rfl gX9_25 (by decide) (by decide) hT4.1 hT4.2.1 (zsi_F (by decide) (zsi_F (by decide) g24)) ?_
                      refine zF_iconst 276 dX9_advance_275 rfl ?_
                      refine zF_iadd 277 dX9_advance_276 rfl ?_
                      refine zF_putI 280 dX9_advance_277 rfl pX9_advance_25 (Or.inl rfl) hT4.1 hT4.2.1 ?_
                      refine zF_aload_n 281 dX9_advance_280 rfl rfl ?_
                      refine zF_iconst 282 dX9_advance_281 rfl ?_
                      refine zF_putI 285 dX9_advance_282 rfl pX9_advance_40 (Or.inl rfl) hT4.1 hT4.2.1 ?_
                      exact zF_return dX9_advance_285 rfl ((by
    have e1 := tk_sign (t := t) (L := L) (q := q) (b := z) (by rw [ezb]; exact eb) (by rw [ezb]; exact nA) (fun w9 => by first | omega | (have := tD_i.mp w9.2; omega)) (by omega)
    exact ⟨rfl, (zFr_si ⟨rfl, by decide, by decide⟩ (zFr_si ⟨rfl, by decide, by decide⟩ (zFr_si ⟨rfl, by decide, by decide⟩ (zFr_si ⟨rfl, by decide, by decide⟩ f4)))), by rw [e1.1]; exact (zsi_F (by decide) (zsi_same _ _ _ _)).trans (by push_cast; omega), by rw [← eb]; exact (zsi_F (by decide) (zsi_F (by decide) (zsi_F (by decide) (zsi_F (by decide) g34)))), by rw [e1.2.1]; exact (zsi_same _ _ _ _), by rw [e1.2.2]; exact (zsi_F (by decide) (zsi_F (by decide) (zsi_same _ _ _ _)))⟩))
                  · exact zF_return dX9_advance_240 rfl ((by
    have e1 := tk_num (t := t) (L := L) (q := q) eb nA (by omega) (by omega) (ez4.symm.trans (zrun_e (fun w9 => by first | omega | (have := tD_i.mp w9.2; omega)))) (dg4)
    exact ⟨rfl, f4, by rw [e1.1]; exact g24, by rw [← eb]; exact g34, by rw [e1.2.1]; exact k44 (by omega), by rw [e1.2.2]; exact g54⟩))
                · refine zF_aload_n 174 dX9_advance_173 rfl rfl ?_
                  refine zF_aload_n 175 dX9_advance_174 rfl rfl ?_
                  refine zF_getI 178 dX9_advance_175 rfl gX9_43 (by decide) (by decide) hT4.1 hT4.2.1 g54 ?_
                  refine zF_ldc 180 dX9_advance_178 rfl oX9_46 ?_
                  refine zF_icmp_ge 206 183 dX9_advance_180 rfl rfl (by first | decide | assumption | (constructor <;> omega)) (by first | decide | assumption | (constructor <;> omega)) (fun c37 => ?_) (fun c37 => ?_)
                  · refine zF_ldc 208 dX9_advance_206 rfl oX9_46 ?_
                    refine zF_putI 211 dX9_advance_208 rfl pX9_advance_43 (Or.inl rfl) hT4.1 hT4.2.1 ?_
                    refine zF_aload_n 212 dX9_advance_211 rfl rfl ?_
                    refine zF_dup 213 dX9_advance_212 rfl rfl ?_
                    refine zF_getI 216 dX9_advance_213 rfl gX9_25 (by decide) (by decide) hT4.1 hT4.2.1 (zsi_F (by decide) g24) ?_
                    refine zF_iconst 217 dX9_advance_216 rfl ?_
                    refine zF_iadd 218 dX9_advance_217 rfl ?_
                    refine zF_putI 221 dX9_advance_218 rfl pX9_advance_25 (Or.inl rfl) hT4.1 hT4.2.1 ?_
                    refine zF_aload_n 222 dX9_advance_221 rfl rfl ?_
                    refine zF_iconst 223 dX9_advance_222 rfl ?_
                    refine zF_putI 226 dX9_advance_223 rfl pX9_advance_40 (Or.inl rfl) hT4.1 hT4.2.1 ?_
                    refine zF_goto 134 dX9_advance_226 rfl ?_
                    exact zF_locs (ls' := [(0, zR (B 20))]) ⟨rfl, trivial⟩ (ih134 (z + 1) _ (by omega) (⟨by omega, by omega, (zFr_si ⟨rfl, by decide, by decide⟩ (zFr_si ⟨rfl, by decide, by decide⟩ (zFr_si ⟨rfl, by decide, by decide⟩ f4))), (zsi_F (by decide) (zsi_same _ _ _ _)).trans (by push_cast; rfl), (zsi_F (by decide) (zsi_F (by decide) (zsi_F (by decide) g34))), (zsi_F (by decide) (zsi_F (by decide) (zsi_same _ _ _ _))).trans (tvN_step (by omega) (by first | exact (if_pos (by omega)).symm | exact (if_neg (by omega)).symm)), fun _ => (zsi_same _ _ _ _), (zrun_s (by omega) (tD_i.mpr (by omega))).symm.trans ez4, fun i a c => by
              by_cases e : i = z
              · subst e; omega
              · exact dg4 i a (by omega)⟩))
                  · refine zF_aload_n 184 dX9_advance_183 rfl rfl ?_
                    refine zF_getI 187 dX9_advance_184 rfl gX9_43 (by decide) (by decide) hT4.1 hT4.2.1 g54 ?_
                    refine zF_bipush 189 dX9_advance_187 rfl (by decide) ?_
                    refine zF_imul 190 dX9_advance_189 rfl ?_
                    refine zF_aload_n 191 dX9_advance_190 rfl rfl ?_
                    refine zF_getR 194 dX9_advance_191 rfl gX9_9 hT4.1 hT4.2.1 hT4.2.2.1 ?_
                    refine zF_aload_n 195 dX9_advance_194 rfl rfl ?_
                    refine zF_getI 198 dX9_advance_195 rfl gX9_25 (by decide) (by decide) hT4.1 hT4.2.1 g24 ?_
                    refine zF_baload 199 dX9_advance_198 rfl hT4.2.2.2.1 hT4.2.2.2.2.1 (by omega) (by omega) ((hT4.2.2.2.2.2.2.2 (z : Int) (by omega) (by omega)).1) ?_
                    refine zF_iadd 200 dX9_advance_199 rfl ?_
                    refine zF_bipush 202 dX9_advance_200 rfl (by decide) ?_
                    refine zF_isub 203 dX9_advance_202 rfl ?_
                    refine zF_goto 208 dX9_advance_203 rfl ?_
                    refine zF_putI 211 dX9_advance_208 rfl pX9_advance_43 (Or.inl rfl) hT4.1 hT4.2.1 ?_
                    refine zF_aload_n 212 dX9_advance_211 rfl rfl ?_
                    refine zF_dup 213 dX9_advance_212 rfl rfl ?_
                    refine zF_getI 216 dX9_advance_213 rfl gX9_25 (by decide) (by decide) hT4.1 hT4.2.1 (zsi_F (by decide) g24) ?_
                    refine zF_iconst 217 dX9_advance_216 rfl ?_
                    refine zF_iadd 218 dX9_advance_217 rfl ?_
                    refine zF_putI 221 dX9_advance_218 rfl pX9_advance_25 (Or.inl rfl) hT4.1 hT4.2.1 ?_
                    refine zF_aload_n 222 dX9_advance_221 rfl rfl ?_
                    refine zF_iconst 223 dX9_advance_222 rfl ?_
                    refine zF_putI 226 dX9_advance_223 rfl pX9_advance_40 (Or.inl rfl) hT4.1 hT4.2.1 ?_
                    refine zF_goto 134 dX9_advance_226 rfl ?_
                    exact zF_locs (ls' := [(0, zR (B 20))]) ⟨rfl, trivial⟩ (ih134 (z + 1) _ (by omega) (⟨by omega, by omega, (zFr_si ⟨rfl, by decide, by decide⟩ (zFr_si ⟨rfl, by decide, by decide⟩ (zFr_si ⟨rfl, by decide, by decide⟩ f4))), (zsi_F (by decide) (zsi_same _ _ _ _)).trans (by push_cast; rfl), (zsi_F (by decide) (zsi_F (by decide) (zsi_F (by decide) g34))), (zsi_F (by decide) (zsi_F (by decide) (zsi_same _ _ _ _))).trans (tvN_step (by omega) (by first | exact (if_pos (by omega)).symm | exact (if_neg (by omega)).symm)), fun _ => (zsi_same _ _ _ _), (zrun_s (by omega) (tD_i.mpr (by omega))).symm.trans ez4, fun i a c => by
              by_cases e : i = z
              · subst e; omega
              · exact dg4 i a (by omega)⟩))
          · exact zF_return dX9_advance_133 rfl ((by
    have e1 := tk_word (t := t) (L := L) (q := q) eb (by omega) (by omega) (ez3.symm.trans (zrun_e (fun z => by first | omega | (have := tA_i.mp z.2; omega)))) (al3 (by omega))
    exact ⟨rfl, f3, by rw [e1.1]; exact g23, by rw [← eb]; exact g33, by rw [e1.2.1]; exact k43 (by omega), by rw [e1.2.2]; exact g53⟩))
        · refine zF_aload_n 105 dX9_advance_104 rfl rfl ?_
          refine zF_dup 106 dX9_advance_105 rfl rfl ?_
          refine zF_getI 109 dX9_advance_106 rfl gX9_25 (by decide) (by decide) hT3.1 hT3.2.1 g23 ?_
          refine zF_iconst 110 dX9_advance_109 rfl ?_
          refine zF_iadd 111 dX9_advance_110 rfl ?_
          refine zF_putI 114 dX9_advance_111 rfl pX9_advance_25 (Or.inl rfl) hT3.1 hT3.2.1 ?_
          refine zF_aload_n 115 dX9_advance_114 rfl rfl ?_
          refine zF_iconst 116 dX9_advance_115 rfl ?_
          refine zF_putI 119 dX9_advance_116 rfl pX9_advance_40 (Or.inl rfl) hT3.1 hT3.2.1 ?_
          refine zF_goto 65 dX9_advance_119 rfl ?_
          exact zF_locs (ls' := [(0, zR (B 20))]) ⟨rfl, trivial⟩ (ih65 (y + 1) _ (by omega) (⟨by omega, by omega, (zFr_si ⟨rfl, by decide, by decide⟩ (zFr_si ⟨rfl, by decide, by decide⟩ f3)), (zsi_F (by decide) (zsi_same _ _ _ _)).trans (by push_cast; rfl), (zsi_F (by decide) (zsi_F (by decide) g33)), (zsi_F (by decide) (zsi_F (by decide) g53)), fun _ => (zsi_same _ _ _ _), (zrun_s (by omega) (tA_i.mpr (by omega))).symm.trans ez3, fun _ => by
            by_cases c : (y : Int) = b
            · rw [← c]; exact tA_i.mpr (by omega)
            · exact al3 (by omega)⟩))
  · refine zF_aload_n 12 dX9_advance_11 rfl rfl ?_
    refine zF_getR 15 dX9_advance_12 rfl gX9_9 hT2.1 hT2.2.1 hT2.2.2.1 ?_
    refine zF_aload_n 16 dX9_advance_15 rfl rfl ?_
    refine zF_getI 19 dX9_advance_16 rfl gX9_25 (by decide) (by decide) hT2.1 hT2.2.1 g2 ?_
    have tb := hb (x : Int) (by omega) (by omega)
    refine zF_baload 20 dX9_advance_19 rfl hT2.2.2.2.1 hT2.2.2.2.2.1 (by omega) (by omega) ((hT2.2.2.2.2.2.2.2 (x : Int) (by omega) (by omega)).1) ?_
    refine zF_bipush 22 dX9_advance_20 rfl (by decide) ?_
    refine zF_icmp_eq 39 25 dX9_advance_22 rfl rfl (by first | decide | assumption | (constructor <;> omega)) (by first | decide | assumption | (constructor <;> omega)) (fun c38 => ?_) (fun c38 => ?_)
    · refine zF_aload_n 40 dX9_advance_39 rfl rfl ?_
      refine zF_dup 41 dX9_advance_40 rfl rfl ?_
      refine zF_getI 44 dX9_advance_41 rfl gX9_25 (by decide) (by decide) hT2.1 hT2.2.1 g2 ?_
      refine zF_iconst 45 dX9_advance_44 rfl ?_
      refine zF_iadd 46 dX9_advance_45 rfl ?_
      refine zF_putI 49 dX9_advance_46 rfl pX9_advance_25 (Or.inl rfl) hT2.1 hT2.2.1 ?_
      refine zF_goto 0 dX9_advance_49 rfl ?_
      exact zF_locs (ls' := [(0, zR (B 20))]) ⟨rfl, trivial⟩ (ih0 (x + 1) _ (by omega) (⟨by omega, by omega, (zFr_si ⟨rfl, by decide, by decide⟩ f2), (zsi_same _ _ _ _).trans (by push_cast; rfl), (zrun_s (by omega) (tW_i.mpr (by omega))).symm.trans ez2⟩))
    · refine zF_aload_n 26 dX9_advance_25 rfl rfl ?_
      refine zF_getR 29 dX9_advance_26 rfl gX9_9 hT2.1 hT2.2.1 hT2.2.2.1 ?_
      refine zF_aload_n 30 dX9_advance_29 rfl rfl ?_
      refine zF_getI 33 dX9_advance_30 rfl gX9_25 (by decide) (by decide) hT2.1 hT2.2.1 g2 ?_
      refine zF_baload 34 dX9_advance_33 rfl hT2.2.2.2.1 hT2.2.2.2.2.1 (by omega) (by omega) ((hT2.2.2.2.2.2.2.2 (x : Int) (by omega) (by omega)).1) ?_
      refine zF_bipush 36 dX9_advance_34 rfl (by decide) ?_
      refine zF_icmp_ne 52 39 dX9_advance_36 rfl rfl (by first | decide | assumption | (constructor <;> omega)) (by first | decide | assumption | (constructor <;> omega)) (fun c39 => ?_) (fun c39 => ?_)
      · obtain ⟨b, hbx⟩ : ∃ b : Nat, b = x := ⟨x, rfl⟩
        subst hbx
        have eb : b = tbg t L q := (zrun_e (fun z => by first | omega | (have := tW_i.mp z.2; omega))).symm.trans ez2
        refine zF_aload_n 53 dX9_advance_52 rfl rfl ?_
        refine zF_aload_n 54 dX9_advance_53 rfl rfl ?_
        refine zF_getI 57 dX9_advance_54 rfl gX9_25 (by decide) (by decide) hT2.1 hT2.2.1 g2 ?_
        refine zF_putI 60 dX9_advance_57 rfl pX9_advance_37 (Or.inl rfl) hT2.1 hT2.2.1 ?_
        refine zF_aload_n 61 dX9_advance_60 rfl rfl ?_
        refine zF_iconst 62 dX9_advance_61 rfl ?_
        refine zF_putI 65 dX9_advance_62 rfl pX9_advance_43 (Or.inl rfl) hT2.1 hT2.2.1 ?_
        refine zF_locs (ls' := [(0, zR (B 20))]) ⟨rfl, trivial⟩ ?_
        refine zF_while (X := Nat) (fun x => L - x) (fun x σ3 => b ≤ x ∧ x ≤ L ∧ zFr (PAd B) σ σ3 ∧ zia σ3 (B 20) ((2 : Nat) : Int) = (x : Int) ∧ zia σ3 (B 20) ((3 : Nat) : Int) = (b : Int) ∧ zia σ3 (B 20) ((5 : Nat) : Int) = 0 ∧ (b < x → zia σ3 (B 20) ((4 : Nat) : Int) = 1) ∧ zrun tA t L x = zrun tA t L b ∧ (b < x → tA (t b) = true)) (fun x => [(0, zR (B 20))]) ?_ b (zsi (zsi σ2 (B 20) ((3 : Nat) : Int) (b : Int)) (B 20) ((5 : Nat) : Int) 0) (⟨Nat.le_refl _, hx1, (zFr_si ⟨rfl, by decide, by decide⟩ (zFr_si ⟨rfl, by decide, by decide⟩ f2)), (zsi_F (by decide) (zsi_F (by decide) g2)), (zsi_F (by decide) (zsi_same _ _ _ _)), (zsi_same _ _ _ _), fun z => absurd z (Nat.lt_irrefl _), rfl, fun z => absurd z (Nat.lt_irrefl _)⟩)
        intro y σ3 hI65 ih65
        show zF G mX9_advance d 65 [(0, zR (B 20))] [] σ3 _
        obtain ⟨hy0, hy1, f3, g23, g33, g53, k43, ez3, al3⟩ := hI65
        have hT3 := cTk_ad hT (PAd.tk f3)
        have g13 := PAd_o f3 (by omega) h1
        refine zF_aload_n 66 dX9_advance_65 rfl rfl ?_
        refine zF_getI 69 dX9_advance_66 rfl gX9_25 (by decide) (by decide) hT3.1 hT3.2.1 g23 ?_
        refine zF_aload_n 70 dX9_advance_69 rfl rfl ?_
        refine zF_getI 73 dX9_advance_70 rfl gX9_21 (by decide) (by decide) hT3.1 hT3.2.1 g13 ?_
        refine zF_icmp_ge 122 76 dX9_advance_73 rfl rfl (by first | decide | assumption | (constructor <;> omega)) (by first | decide | assumption | (constructor <;> omega)) (fun c40 => ?_) (fun c40 => ?_)
        · refine zF_aload_n 123 dX9_advance_122 rfl rfl ?_
          refine zF_getI 126 dX9_advance_123 rfl gX9_25 (by decide) (by decide) hT3.1 hT3.2.1 g23 ?_
          refine zF_aload_n 127 dX9_advance_126 rfl rfl ?_
          refine zF_getI 130 dX9_advance_127 rfl gX9_37 (by decide) (by decide) hT3.1 hT3.2.1 g33 ?_
          refine zF_icmp_le 134 133 dX9_advance_130 rfl rfl (by first | decide | assumption | (constructor <;> omega)) (by first | decide | assumption | (constructor <;> omega)) (fun c41 => ?_) (fun c41 => ?_)
          · obtain ⟨eyb, nA⟩ : y = b ∧ ¬ (b < L ∧ tA (t b) = true) := by refine ⟨by omega, fun w9 => ?_⟩; have e9 : (y : Int) = (b : Int) := (by omega); rw [← e9] at w9; first | omega | (have q9 := tA_i.mp w9.2; omega)
            refine zF_locs (ls' := [(0, zR (B 20))]) ⟨rfl, trivial⟩ ?_
            refine zF_while (X := Nat) (fun x => L - x) (fun x σ4 => b ≤ x ∧ x ≤ L ∧ zFr (PAd B) σ σ4 ∧ zia σ4 (B 20) ((2 : Nat) : Int) = (x : Int) ∧ zia σ4 (B 20) ((3 : Nat) : Int) = (b : Int) ∧ zia σ4 (B 20) ((5 : Nat) : Int) = tvN t b (x - b) ∧ (b < x → zia σ4 (B 20) ((4 : Nat) : Int) = 2) ∧ zrun tD t L x = zrun tD t L b ∧ ∀ i, b ≤ i → i < x → 48 ≤ t i ∧ t i ≤ 57) (fun x => [(0, zR (B 20))]) ?_ b σ3 (⟨Nat.le_refl _, by omega, f3, by rw [g23, eyb], g33, by rw [g53, show b - b = 0 by omega]; rfl, fun z => absurd z (Nat.lt_irrefl _), rfl, fun i a c => absurd c (by omega)⟩)
            intro z σ4 hI134 ih134
            show zF G mX9_advance d 134 [(0, zR (B 20))] [] σ4 _
            obtain ⟨hz0, hz1, f4, g24, g34, g54, k44, ez4, dg4⟩ := hI134
            have hT4 := cTk_ad hT (PAd.tk f4)
            have g14 := PAd_o f4 (by omega) h1
            have vb := tvN_b (t := t) (b := b) (n := z - b) fun i a c => dg4 i a (by omega)
            refine zF_aload_n 135 dX9_advance_134 rfl rfl ?_
            refine zF_getI 138 dX9_advance_135 rfl gX9_25 (by decide) (by decide) hT4.1 hT4.2.1 g24 ?_
            refine zF_aload_n 139 dX9_advance_138 rfl rfl ?_
            refine zF_getI 142 dX9_advance_139 rfl gX9_21 (by decide) (by decide) hT4.1 hT4.2.1 g14 ?_
            refine zF_icmp_ge 229 145 dX9_advance_142 rfl rfl (by first | decide | assumption | (constructor <;> omega)) (by first | decide | assumption | (constructor <;> omega)) (fun c42 => ?_) (fun c42 => ?_)
            · refine zF_aload_n 230 dX9_advance_229 rfl rfl ?_
              refine zF_getI 233 dX9_advance_230 rfl gX9_25 (by decide) (by decide) hT4.1 hT4.2.1 g24 ?_
              refine zF_aload_n 234 dX9_advance_233 rfl rfl ?_
              refine zF_getI 237 dX9_advance_234 rfl gX9_37 (by decide) (by decide) hT4.1 hT4.2.1 g34 ?_
              refine zF_icmp_le 241 240 dX9_advance_237 rfl rfl (by first | decide | assumption | (constructor <;> omega)) (by first | decide | assumption | (constructor <;> omega)) (fun c43 => ?_) (fun c43 => ?_)
              · have ezb : z = b := by omega
                refine zF_aload_n 242 dX9_advance_241 rfl rfl ?_
                refine zF_iconst 243 dX9_advance_242 rfl ?_
                refine zF_putI 246 dX9_advance_243 rfl pX9_advance_40 (Or.inl rfl) hT4.1 hT4.2.1 ?_
                refine zF_aload_n 247 dX9_advance_246 rfl rfl ?_
                refine zF_getI 250 dX9_advance_247 rfl gX9_25 (by decide) (by decide) hT4.1 hT4.2.1 (zsi_F (by decide) g24) ?_
                refine zF_aload_n 251 dX9_advance_250 rfl rfl ?_
                refine zF_getI 254 dX9_advance_251 rfl gX9_21 (by decide) (by decide) hT4.1 hT4.2.1 (zsi_F (by decide) g14) ?_
                refine zF_icmp_ge 285 257 dX9_advance_254 rfl rfl (by first | decide | assumption | (constructor <;> omega)) (by first | decide | assumption | (constructor <;> omega)) (fun c44 => ?_) (fun c44 => ?_)
                · exact zF_return dX9_advance_285 rfl ((by
    have e1 := tk_end (t := t) (L := L) (q := q) (b := z) (by rw [ezb]; exact eb) (by omega)
    exact ⟨rfl, (zFr_si ⟨rfl, by decide, by decide⟩ f4), by rw [e1.1]; exact (zsi_F (by decide) g24), by rw [← eb]; exact (zsi_F (by decide) g34), by rw [e1.2.1]; exact (zsi_same _ _ _ _), by rw [e1.2.2]; exact (zsi_F (by decide) g54).trans (by rw [ezb, Nat.sub_self]; rfl)⟩))
                · refine zF_aload_n 258 dX9_advance_257 rfl rfl ?_
                  refine zF_aload_n 259 dX9_advance_258 rfl rfl ?_
                  refine zF_getR 262 dX9_advance_259 rfl gX9_9 hT4.1 hT4.2.1 hT4.2.2.1 ?_
                  refine zF_aload_n 263 dX9_advance_262 rfl rfl ?_
                  refine zF_getI 266 dX9_advance_263 rfl gX9_25 (by decide) (by decide) hT4.1 hT4.2.1 (zsi_F (by decide) g24) ?_
                  have tb4 := hb (z : Int) (by omega) (by omega)
                  refine zF_baload 267 dX9_advance_266 rfl hT4.2.2.2.1 hT4.2.2.2.2.1 (by omega) (by omega) ((congrFun (zTx_1 hT4.2.2.2.2.2.1) _).trans ((hT4.2.2.2.2.2.2.2 (z : Int) (by omega) (by omega)).1)) ?_
                  refine zF_putI 270 dX9_advance_267 rfl pX9_advance_43 (Or.inl rfl) hT4.1 hT4.2.1 ?_
                  refine zF_aload_n 271 dX9_advance_270 rfl rfl ?_
                  refine zF_dup 272 dX9_advance_271 rfl rfl ?_
                  refine zF_getI 275 dX9_advance_272 rfl gX9_25 (by decide) (by decide) hT4.1 hT4.2.1 (zsi_F (by decide) (zsi_F (by decide) g24)) ?_
                  refine zF_iconst 276 dX9_advance_275 rfl ?_
                  refine zF_iadd 277 dX9_advance_276 rfl ?_
                  refine zF_putI 280 dX9_advance_277 rfl pX9_advance_25 (Or.inl rfl) hT4.1 hT4.2.1 ?_
                  refine zF_aload_n 281 dX9_advance_280 rfl rfl ?_
                  refine zF_iconst 282 dX9_advance_281 rfl ?_
                  refine zF_putI 285 dX9_advance_282 rfl pX9_advance_40 (Or.inl rfl) hT4.1 hT4.2.1 ?_
                  exact zF_return dX9_advance_285 rfl ((by
    have e1 := tk_sign (t := t) (L := L) (q := q) (b := z) (by rw [ezb]; exact eb) (by rw [ezb]; exact nA) (fun w9 => by first | omega | (have := tD_i.mp w9.2; omega)) (by omega)
    exact ⟨rfl, (zFr_si ⟨rfl, by decide, by decide⟩ (zFr_si ⟨rfl, by decide, by decide⟩ (zFr_si ⟨rfl, by decide, by decide⟩ (zFr_si ⟨rfl, by decide, by decide⟩ f4)))), by rw [e1.1]; exact (zsi_F (by decide) (zsi_same _ _ _ _)).trans (by push_cast; omega), by rw [← eb]; exact (zsi_F (by decide) (zsi_F (by decide) (zsi_F (by decide) (zsi_F (by decide) g34)))), by rw [e1.2.1]; exact (zsi_same _ _ _ _), by rw [e1.2.2]; exact (zsi_F (by decide) (zsi_F (by decide) (zsi_same _ _ _ _)))⟩))
              · exact zF_return dX9_advance_240 rfl ((by
    have e1 := tk_num (t := t) (L := L) (q := q) eb nA (by omega) (by omega) (ez4.symm.trans (zrun_e (fun w9 => by first | omega | (have := tD_i.mp w9.2; omega)))) (dg4)
    exact ⟨rfl, f4, by rw [e1.1]; exact g24, by rw [← eb]; exact g34, by rw [e1.2.1]; exact k44 (by omega), by rw [e1.2.2]; exact g54⟩))
            · refine zF_aload_n 146 dX9_advance_145 rfl rfl ?_
              refine zF_getR 149 dX9_advance_146 rfl gX9_9 hT4.1 hT4.2.1 hT4.2.2.1 ?_
              refine zF_aload_n 150 dX9_advance_149 rfl rfl ?_
              refine zF_getI 153 dX9_advance_150 rfl gX9_25 (by decide) (by decide) hT4.1 hT4.2.1 g24 ?_
              have tb3 := hb (z : Int) (by omega) (by omega)
              refine zF_baload 154 dX9_advance_153 rfl hT4.2.2.2.1 hT4.2.2.2.2.1 (by omega) (by omega) ((hT4.2.2.2.2.2.2.2 (z : Int) (by omega) (by omega)).1) ?_
              refine zF_bipush 156 dX9_advance_154 rfl (by decide) ?_
              refine zF_icmp_lt 229 159 dX9_advance_156 rfl rfl (by first | decide | assumption | (constructor <;> omega)) (by first | decide | assumption | (constructor <;> omega)) (fun c45 => ?_) (fun c45 => ?_)
              · refine zF_aload_n 230 dX9_advance_229 rfl rfl ?_
                refine zF_getI 233 dX9_advance_230 rfl gX9_25 (by decide) (by decide) hT4.1 hT4.2.1 g24 ?_
                refine zF_aload_n 234 dX9_advance_233 rfl rfl ?_
                refine zF_getI 237 dX9_advance_234 rfl gX9_37 (by decide) (by decide) hT4.1 hT4.2.1 g34 ?_
                refine zF_icmp_le 241 240 dX9_advance_237 rfl rfl (by first | decide | assumption | (constructor <;> omega)) (by first | decide | assumption | (constructor <;> omega)) (fun c46 => ?_) (fun c46 => ?_)
                · have ezb : z = b := by omega
                  refine zF_aload_n 242 dX9_advance_241 rfl rfl ?_
                  refine zF_iconst 243 dX9_advance_242 rfl ?_
                  refine zF_putI 246 dX9_advance_243 rfl pX9_advance_40 (Or.inl rfl) hT4.1 hT4.2.1 ?_
                  refine zF_aload_n 247 dX9_advance_246 rfl rfl ?_
                  refine zF_getI 250 dX9_advance_247 rfl gX9_25 (by decide) (by decide) hT4.1 hT4.2.1 (zsi_F (by decide) g24) ?_
                  refine zF_aload_n 251 dX9_advance_250 rfl rfl ?_
                  refine zF_getI 254 dX9_advance_251 rfl gX9_21 (by decide) (by decide) hT4.1 hT4.2.1 (zsi_F (by decide) g14) ?_
                  refine zF_icmp_ge 285 257 dX9_advance_254 rfl rfl (by first | decide | assumption | (constructor <;> omega)) (by first | decide | assumption | (constructor <;> omega)) (fun c47 => ?_) (fun c47 => ?_)
                  · exact zF_return dX9_advance_285 rfl ((by
    have e1 := tk_end (t := t) (L := L) (q := q) (b := z) (by rw [ezb]; exact eb) (by omega)
    exact ⟨rfl, (zFr_si ⟨rfl, by decide, by decide⟩ f4), by rw [e1.1]; exact (zsi_F (by decide) g24), by rw [← eb]; exact (zsi_F (by decide) g34), by rw [e1.2.1]; exact (zsi_same _ _ _ _), by rw [e1.2.2]; exact (zsi_F (by decide) g54).trans (by rw [ezb, Nat.sub_self]; rfl)⟩))
                  · refine zF_aload_n 258 dX9_advance_257 rfl rfl ?_
                    refine zF_aload_n 259 dX9_advance_258 rfl rfl ?_
                    refine zF_getR 262 dX9_advance_259 rfl gX9_9 hT4.1 hT4.2.1 hT4.2.2.1 ?_
                    refine zF_aload_n 263 dX9_advance_262 rfl rfl ?_
                    refine zF_getI 266 dX9_advance_263 rfl gX9_25 (by decide) (by decide) hT4.1 hT4.2.1 (zsi_F (by decide) g24) ?_
                    have tb4 := hb (z : Int) (by omega) (by omega)
                    refine zF_baload 267 dX9_advance_266 rfl hT4.2.2.2.1 hT4.2.2.2.2.1 (by omega) (by omega) ((congrFun (zTx_1 hT4.2.2.2.2.2.1) _).trans ((hT4.2.2.2.2.2.2.2 (z : Int) (by omega) (by omega)).1)) ?_
                    refine zF_putI 270 dX9_advance_267 rfl pX9_advance_43 (Or.inl rfl) hT4.1 hT4.2.1 ?_
                    refine zF_aload_n 271 dX9_advance_270 rfl rfl ?_
                    refine zF_dup 272 dX9_advance_271 rfl rfl ?_
                    refine zF_getI 275 dX9_advance_272 rfl gX9_25 (by decide) (by decide) hT4.1 hT4.2.1 (zsi_F (by decide) (zsi_F (by decide) g24)) ?_
                    refine zF_iconst 276 dX9_advance_275 rfl ?_
                    refine zF_iadd 277 dX9_advance_276 rfl ?_
                    refine zF_putI 280 dX9_advance_277 rfl pX9_advance_25 (Or.inl rfl) hT4.1 hT4.2.1 ?_
                    refine zF_aload_n 281 dX9_advance_280 rfl rfl ?_
                    refine zF_iconst 282 dX9_advance_281 rfl ?_
                    refine zF_putI 285 dX9_advance_282 rfl pX9_advance_40 (Or.inl rfl) hT4.1 hT4.2.1 ?_
                    exact zF_return dX9_advance_285 rfl ((by
    have e1 := tk_sign (t := t) (L := L) (q := q) (b := z) (by rw [ezb]; exact eb) (by rw [ezb]; exact nA) (fun w9 => by first | omega | (have := tD_i.mp w9.2; omega)) (by omega)
    exact ⟨rfl, (zFr_si ⟨rfl, by decide, by decide⟩ (zFr_si ⟨rfl, by decide, by decide⟩ (zFr_si ⟨rfl, by decide, by decide⟩ (zFr_si ⟨rfl, by decide, by decide⟩ f4)))), by rw [e1.1]; exact (zsi_F (by decide) (zsi_same _ _ _ _)).trans (by push_cast; omega), by rw [← eb]; exact (zsi_F (by decide) (zsi_F (by decide) (zsi_F (by decide) (zsi_F (by decide) g34)))), by rw [e1.2.1]; exact (zsi_same _ _ _ _), by rw [e1.2.2]; exact (zsi_F (by decide) (zsi_F (by decide) (zsi_same _ _ _ _)))⟩))
                · exact zF_return dX9_advance_240 rfl ((by
    have e1 := tk_num (t := t) (L := L) (q := q) eb nA (by omega) (by omega) (ez4.symm.trans (zrun_e (fun w9 => by first | omega | (have := tD_i.mp w9.2; omega)))) (dg4)
    exact ⟨rfl, f4, by rw [e1.1]; exact g24, by rw [← eb]; exact g34, by rw [e1.2.1]; exact k44 (by omega), by rw [e1.2.2]; exact g54⟩))
              · refine zF_aload_n 160 dX9_advance_159 rfl rfl ?_
                refine zF_getR 163 dX9_advance_160 rfl gX9_9 hT4.1 hT4.2.1 hT4.2.2.1 ?_
                refine zF_aload_n 164 dX9_advance_163 rfl rfl ?_
                refine zF_getI 167 dX9_advance_164 rfl gX9_25 (by decide) (by decide) hT4.1 hT4.2.1 g24 ?_
                refine zF_baload 168 dX9_advance_167 rfl hT4.2.2.2.1 hT4.2.2.2.2.1 (by omega) (by omega) ((hT4.2.2.2.2.2.2.2 (z : Int) (by omega) (by omega)).1) ?_
                refine zF_bipush 170 dX9_advance_168 rfl (by decide) ?_
                refine zF_icmp_gt 229 173 dX9_advance_170 rfl rfl (by first | decide | assumption | (constructor <;> omega)) (by first | decide | assumption | (constructor <;> omega)) (fun c48 => ?_) (fun c48 => ?_)
                · refine zF_aload_n 230 dX9_advance_229 rfl rfl ?_
                  refine zF_getI 233 dX9_advance_230 rfl gX9_25 (by decide) (by decide) hT4.1 hT4.2.1 g24 ?_
                  refine zF_aload_n 234 dX9_advance_233 rfl rfl ?_
                  refine zF_getI 237 dX9_advance_234 rfl gX9_37 (by decide) (by decide) hT4.1 hT4.2.1 g34 ?_
                  refine zF_icmp_le 241 240 dX9_advance_237 rfl rfl (by first | decide | assumption | (constructor <;> omega)) (by first | decide | assumption | (constructor <;> omega)) (fun c49 => ?_) (fun c49 => ?_)
                  · have ezb : z = b := by omega
                    refine zF_aload_n 242 dX9_advance_241 rfl rfl ?_
                    refine zF_iconst 243 dX9_advance_242 rfl ?_
                    refine zF_putI 246 dX9_advance_243 rfl pX9_advance_40 (Or.inl rfl) hT4.1 hT4.2.1 ?_
                    refine zF_aload_n 247 dX9_advance_246 rfl rfl ?_
                    refine zF_getI 250 dX9_advance_247 rfl gX9_25 (by decide) (by decide) hT4.1 hT4.2.1 (zsi_F (by decide) g24) ?_
                    refine zF_aload_n 251 dX9_advance_250 rfl rfl ?_
                    refine zF_getI 254 dX9_advance_251 rfl gX9_21 (by decide) (by decide) hT4.1 hT4.2.1 (zsi_F (by decide) g14) ?_
                    refine zF_icmp_ge 285 257 dX9_advance_254 rfl rfl (by first | decide | assumption | (constructor <;> omega)) (by first | decide | assumption | (constructor <;> omega)) (fun c50 => ?_) (fun c50 => ?_)
                    · exact zF_return dX9_advance_285 rfl ((by
    have e1 := tk_end (t := t) (L := L) (q := q) (b := z) (by rw [ezb]; exact eb) (by omega)
    exact ⟨rfl, (zFr_si ⟨rfl, by decide, by decide⟩ f4), by rw [e1.1]; exact (zsi_F (by decide) g24), by rw [← eb]; exact (zsi_F (by decide) g34), by rw [e1.2.1]; exact (zsi_same _ _ _ _), by rw [e1.2.2]; exact (zsi_F (by decide) g54).trans (by rw [ezb, Nat.sub_self]; rfl)⟩))
                    · refine zF_aload_n 258 dX9_advance_257 rfl rfl ?_
                      refine zF_aload_n 259 dX9_advance_258 rfl rfl ?_
                      refine zF_getR 262 dX9_advance_259 rfl gX9_9 hT4.1 hT4.2.1 hT4.2.2.1 ?_
                      refine zF_aload_n 263 dX9_advance_262 rfl rfl ?_
                      refine zF_getI 266 dX9_advance_263 rfl gX9_25 (by decide) (by decide) hT4.1 hT4.2.1 (zsi_F (by decide) g24) ?_
                      have tb4 := hb (z : Int) (by omega) (by omega)
                      refine zF_baload 267 dX9_advance_266 rfl hT4.2.2.2.1 hT4.2.2.2.2.1 (by omega) (by omega) ((congrFun (zTx_1 hT4.2.2.2.2.2.1) _).trans ((hT4.2.2.2.2.2.2.2 (z : Int) (by omega) (by omega)).1)) ?_
                      refine zF_putI 270 dX9_advance_267 rfl pX9_advance_43 (Or.inl rfl) hT4.1 hT4.2.1 ?_
                      refine zF_aload_n 271 dX9_advance_270 rfl rfl ?_
                      refine zF_dup 272 dX9_advance_271 rfl rfl ?_
                      refine zF_getI 275 dX9_advance_272 rfl gX9_25 (by decide) (by decide) hT4.1 hT4.2.1 (zsi_F (by decide) (zsi_F (by decide) g24)) ?_
                      refine zF_iconst 276 dX9_advance_275 rfl ?_
                      refine zF_iadd 277 dX9_advance_276 rfl ?_
                      refine zF_putI 280 dX9_advance_277 rfl pX9_advance_25 (Or.inl rfl) hT4.1 hT4.2.1 ?_
                      refine zF_aload_n 281 dX9_advance_280 rfl rfl ?_
                      refine zF_iconst 282 dX9_advance_281 rfl ?_
                      refine zF_putI 285 dX9_advance_282 rfl pX9_advance_40 (Or.inl rfl) hT4.1 hT4.2.1 ?_
                      exact zF_return dX9_advance_285 rfl ((by
    have e1 := tk_sign (t := t) (L := L) (q := q) (b := z) (by rw [ezb]; exact eb) (by rw [ezb]; exact nA) (fun w9 => by first | omega | (have := tD_i.mp w9.2; omega)) (by omega)
    exact ⟨rfl, (zFr_si ⟨rfl, by decide, by decide⟩ (zFr_si ⟨rfl, by decide, by decide⟩ (zFr_si ⟨rfl, by decide, by decide⟩ (zFr_si ⟨rfl, by decide, by decide⟩ f4)))), by rw [e1.1]; exact (zsi_F (by decide) (zsi_same _ _ _ _)).trans (by push_cast; omega), by rw [← eb]; exact (zsi_F (by decide) (zsi_F (by decide) (zsi_F (by decide) (zsi_F (by decide) g34)))), by rw [e1.2.1]; exact (zsi_same _ _ _ _), by rw [e1.2.2]; exact (zsi_F (by decide) (zsi_F (by decide) (zsi_same _ _ _ _)))⟩))
                  · exact zF_return dX9_advance_240 rfl ((by
    have e1 := tk_num (t := t) (L := L) (q := q) eb nA (by omega) (by omega) (ez4.symm.trans (zrun_e (fun w9 => by first | omega | (have := tD_i.mp w9.2; omega)))) (dg4)
    exact ⟨rfl, f4, by rw [e1.1]; exact g24, by rw [← eb]; exact g34, by rw [e1.2.1]; exact k44 (by omega), by rw [e1.2.2]; exact g54⟩))
                · refine zF_aload_n 174 dX9_advance_173 rfl rfl ?_
                  refine zF_aload_n 175 dX9_advance_174 rfl rfl ?_
                  refine zF_getI 178 dX9_advance_175 rfl gX9_43 (by decide) (by decide) hT4.1 hT4.2.1 g54 ?_
                  refine zF_ldc 180 dX9_advance_178 rfl oX9_46 ?_
                  refine zF_icmp_ge 206 183 dX9_advance_180 rfl rfl (by first | decide | assumption | (constructor <;> omega)) (by first | decide | assumption | (constructor <;> omega)) (fun c51 => ?_) (fun c51 => ?_)
                  · refine zF_ldc 208 dX9_advance_206 rfl oX9_46 ?_
                    refine zF_putI 211 dX9_advance_208 rfl pX9_advance_43 (Or.inl rfl) hT4.1 hT4.2.1 ?_
                    refine zF_aload_n 212 dX9_advance_211 rfl rfl ?_
                    refine zF_dup 213 dX9_advance_212 rfl rfl ?_
                    refine zF_getI 216 dX9_advance_213 rfl gX9_25 (by decide) (by decide) hT4.1 hT4.2.1 (zsi_F (by decide) g24) ?_
                    refine zF_iconst 217 dX9_advance_216 rfl ?_
                    refine zF_iadd 218 dX9_advance_217 rfl ?_
                    refine zF_putI 221 dX9_advance_218 rfl pX9_advance_25 (Or.inl rfl) hT4.1 hT4.2.1 ?_
                    refine zF_aload_n 222 dX9_advance_221 rfl rfl ?_
                    refine zF_iconst 223 dX9_advance_222 rfl ?_
                    refine zF_putI 226 dX9_advance_223 rfl pX9_advance_40 (Or.inl rfl) hT4.1 hT4.2.1 ?_
                    refine zF_goto 134 dX9_advance_226 rfl ?_
                    exact zF_locs (ls' := [(0, zR (B 20))]) ⟨rfl, trivial⟩ (ih134 (z + 1) _ (by omega) (⟨by omega, by omega, (zFr_si ⟨rfl, by decide, by decide⟩ (zFr_si ⟨rfl, by decide, by decide⟩ (zFr_si ⟨rfl, by decide, by decide⟩ f4))), (zsi_F (by decide) (zsi_same _ _ _ _)).trans (by push_cast; rfl), (zsi_F (by decide) (zsi_F (by decide) (zsi_F (by decide) g34))), (zsi_F (by decide) (zsi_F (by decide) (zsi_same _ _ _ _))).trans (tvN_step (by omega) (by first | exact (if_pos (by omega)).symm | exact (if_neg (by omega)).symm)), fun _ => (zsi_same _ _ _ _), (zrun_s (by omega) (tD_i.mpr (by omega))).symm.trans ez4, fun i a c => by
              by_cases e : i = z
              · subst e; omega
              · exact dg4 i a (by omega)⟩))
                  · refine zF_aload_n 184 dX9_advance_183 rfl rfl ?_
                    refine zF_getI 187 dX9_advance_184 rfl gX9_43 (by decide) (by decide) hT4.1 hT4.2.1 g54 ?_
                    refine zF_bipush 189 dX9_advance_187 rfl (by decide) ?_
                    refine zF_imul 190 dX9_advance_189 rfl ?_
                    refine zF_aload_n 191 dX9_advance_190 rfl rfl ?_
                    refine zF_getR 194 dX9_advance_191 rfl gX9_9 hT4.1 hT4.2.1 hT4.2.2.1 ?_
                    refine zF_aload_n 195 dX9_advance_194 rfl rfl ?_
                    refine zF_getI 198 dX9_advance_195 rfl gX9_25 (by decide) (by decide) hT4.1 hT4.2.1 g24 ?_
                    refine zF_baload 199 dX9_advance_198 rfl hT4.2.2.2.1 hT4.2.2.2.2.1 (by omega) (by omega) ((hT4.2.2.2.2.2.2.2 (z : Int) (by omega) (by omega)).1) ?_
                    refine zF_iadd 200 dX9_advance_199 rfl ?_
                    refine zF_bipush 202 dX9_advance_200 rfl (by decide) ?_
                    refine zF_isub 203 dX9_advance_202 rfl ?_
                    refine zF_goto 208 dX9_advance_203 rfl ?_
                    refine zF_putI 211 dX9_advance_208 rfl pX9_advance_43 (Or.inl rfl) hT4.1 hT4.2.1 ?_
                    refine zF_aload_n 212 dX9_advance_211 rfl rfl ?_
                    refine zF_dup 213 dX9_advance_212 rfl rfl ?_
                    refine zF_getI 216 dX9_advance_213 rfl gX9_25 (by decide) (by decide) hT4.1 hT4.2.1 (zsi_F (by decide) g24) ?_
                    refine zF_iconst 217 dX9_advance_216 rfl ?_
                    refine zF_iadd 218 dX9_advance_217 rfl ?_
                    refine zF_putI 221 dX9_advance_218 rfl pX9_advance_25 (Or.inl rfl) hT4.1 hT4.2.1 ?_
                    refine zF_aload_n 222 dX9_advance_221 rfl rfl ?_
                    refine zF_iconst 223 dX9_advance_222 rfl ?_
                    refine zF_putI 226 dX9_advance_223 rfl pX9_advance_40 (Or.inl rfl) hT4.1 hT4.2.1 ?_
                    refine zF_goto 134 dX9_advance_226 rfl ?_
                    exact zF_locs (ls' := [(0, zR (B 20))]) ⟨rfl, trivial⟩ (ih134 (z + 1) _ (by omega) (⟨by omega, by omega, (zFr_si ⟨rfl, by decide, by decide⟩ (zFr_si ⟨rfl, by decide, by decide⟩ (zFr_si ⟨rfl, by decide, by decide⟩ f4))), (zsi_F (by decide) (zsi_same _ _ _ _)).trans (by push_cast; rfl), (zsi_F (by decide) (zsi_F (by decide) (zsi_F (by decide) g34))), (zsi_F (by decide) (zsi_F (by decide) (zsi_same _ _ _ _))).trans (tvN_step (by omega) (by first | exact (if_pos (by omega)).symm | exact (if_neg (by omega)).symm)), fun _ => (zsi_same _ _ _ _), (zrun_s (by omega) (tD_i.mpr (by omega))).symm.trans ez4, fun i a c => by
              by_cases e : i = z
              · subst e; omega
              · exact dg4 i a (by omega)⟩))
          · exact zF_return dX9_advance_133 rfl ((by
    have e1 := tk_word (t := t) (L := L) (q := q) eb (by omega) (by omega) (ez3.symm.trans (zrun_e (fun z => by first | omega | (have := tA_i.mp z.2; omega)))) (al3 (by omega))
    exact ⟨rfl, f3, by rw [e1.1]; exact g23, by rw [← eb]; exact g33, by rw [e1.2.1]; exact k43 (by omega), by rw [e1.2.2]; exact g53⟩))
        · refine zF_aload_n 77 dX9_advance_76 rfl rfl ?_
          refine zF_getR 80 dX9_advance_77 rfl gX9_9 hT3.1 hT3.2.1 hT3.2.2.1 ?_
          refine zF_aload_n 81 dX9_advance_80 rfl rfl ?_
          refine zF_getI 84 dX9_advance_81 rfl gX9_25 (by decide) (by decide) hT3.1 hT3.2.1 g23 ?_
          have tb2 := hb (y : Int) (by omega) (by omega)
          refine zF_baload 85 dX9_advance_84 rfl hT3.2.2.2.1 hT3.2.2.2.2.1 (by omega) (by omega) ((hT3.2.2.2.2.2.2.2 (y : Int) (by omega) (by omega)).1) ?_
          refine zF_bipush 87 dX9_advance_85 rfl (by decide) ?_
          refine zF_icmp_lt 122 90 dX9_advance_87 rfl rfl (by first | decide | assumption | (constructor <;> omega)) (by first | decide | assumption | (constructor <;> omega)) (fun c52 => ?_) (fun c52 => ?_)
          · refine zF_aload_n 123 dX9_advance_122 rfl rfl ?_
            refine zF_getI 126 dX9_advance_123 rfl gX9_25 (by decide) (by decide) hT3.1 hT3.2.1 g23 ?_
            refine zF_aload_n 127 dX9_advance_126 rfl rfl ?_
            refine zF_getI 130 dX9_advance_127 rfl gX9_37 (by decide) (by decide) hT3.1 hT3.2.1 g33 ?_
            refine zF_icmp_le 134 133 dX9_advance_130 rfl rfl (by first | decide | assumption | (constructor <;> omega)) (by first | decide | assumption | (constructor <;> omega)) (fun c53 => ?_) (fun c53 => ?_)
            · obtain ⟨eyb, nA⟩ : y = b ∧ ¬ (b < L ∧ tA (t b) = true) := by refine ⟨by omega, fun w9 => ?_⟩; have e9 : (y : Int) = (b : Int) := (by omega); rw [← e9] at w9; first | omega | (have q9 := tA_i.mp w9.2; omega)
              refine zF_locs (ls' := [(0, zR (B 20))]) ⟨rfl, trivial⟩ ?_
              refine zF_while (X := Nat) (fun x => L - x) (fun x σ4 => b ≤ x ∧ x ≤ L ∧ zFr (PAd B) σ σ4 ∧ zia σ4 (B 20) ((2 : Nat) : Int) = (x : Int) ∧ zia σ4 (B 20) ((3 : Nat) : Int) = (b : Int) ∧ zia σ4 (B 20) ((5 : Nat) : Int) = tvN t b (x - b) ∧ (b < x → zia σ4 (B 20) ((4 : Nat) : Int) = 2) ∧ zrun tD t L x = zrun tD t L b ∧ ∀ i, b ≤ i → i < x → 48 ≤ t i ∧ t i ≤ 57) (fun x => [(0, zR (B 20))]) ?_ b σ3 (⟨Nat.le_refl _, by omega, f3, by rw [g23, eyb], g33, by rw [g53, show b - b = 0 by omega]; rfl, fun z => absurd z (Nat.lt_irrefl _), rfl, fun i a c => absurd c (by omega)⟩)
              intro z σ4 hI134 ih134
              show zF G mX9_advance d 134 [(0, zR (B 20))] [] σ4 _
              obtain ⟨hz0, hz1, f4, g24, g34, g54, k44, ez4, dg4⟩ := hI134
              have hT4 := cTk_ad hT (PAd.tk f4)
              have g14 := PAd_o f4 (by omega) h1
              have vb := tvN_b (t := t) (b := b) (n := z - b) fun i a c => dg4 i a (by omega)
              refine zF_aload_n 135 dX9_advance_134 rfl rfl ?_
              refine zF_getI 138 dX9_advance_135 rfl gX9_25 (by decide) (by decide) hT4.1 hT4.2.1 g24 ?_
              refine zF_aload_n 139 dX9_advance_138 rfl rfl ?_
              refine zF_getI 142 dX9_advance_139 rfl gX9_21 (by decide) (by decide) hT4.1 hT4.2.1 g14 ?_
              refine zF_icmp_ge 229 145 dX9_advance_142 rfl rfl (by first | decide | assumption | (constructor <;> omega)) (by first | decide | assumption | (constructor <;> omega)) (fun c54 => ?_) (fun c54 => ?_)
              · refine zF_aload_n 230 dX9_advance_229 rfl rfl ?_
                refine zF_getI 233 dX9_advance_230 rfl gX9_25 (by decide) (by decide) hT4.1 hT4.2.1 g24 ?_
                refine zF_aload_n 234 dX9_advance_233 rfl rfl ?_
                refine zF_getI 237 dX9_advance_234 rfl gX9_37 (by decide) (by decide) hT4.1 hT4.2.1 g34 ?_
                refine zF_icmp_le 241 240 dX9_advance_237 rfl rfl (by first | decide | assumption | (constructor <;> omega)) (by first | decide | assumption | (constructor <;> omega)) (fun c55 => ?_) (fun c55 => ?_)
                · have ezb : z = b := by omega
                  refine zF_aload_n 242 dX9_advance_241 rfl rfl ?_
                  refine zF_iconst 243 dX9_advance_242 rfl ?_
                  refine zF_putI 246 dX9_advance_243 rfl pX9_advance_40 (Or.inl rfl) hT4.1 hT4.2.1 ?_
                  refine zF_aload_n 247 dX9_advance_246 rfl rfl ?_
                  refine zF_getI 250 dX9_advance_247 rfl gX9_25 (by decide) (by decide) hT4.1 hT4.2.1 (zsi_F (by decide) g24) ?_
                  refine zF_aload_n 251 dX9_advance_250 rfl rfl ?_
                  refine zF_getI 254 dX9_advance_251 rfl gX9_21 (by decide) (by decide) hT4.1 hT4.2.1 (zsi_F (by decide) g14) ?_
                  refine zF_icmp_ge 285 257 dX9_advance_254 rfl rfl (by first | decide | assumption | (constructor <;> omega)) (by first | decide | assumption | (constructor <;> omega)) (fun c56 => ?_) (fun c56 => ?_)
                  · exact zF_return dX9_advance_285 rfl ((by
    have e1 := tk_end (t := t) (L := L) (q := q) (b := z) (by rw [ezb]; exact eb) (by omega)
    exact ⟨rfl, (zFr_si ⟨rfl, by decide, by decide⟩ f4), by rw [e1.1]; exact (zsi_F (by decide) g24), by rw [← eb]; exact (zsi_F (by decide) g34), by rw [e1.2.1]; exact (zsi_same _ _ _ _), by rw [e1.2.2]; exact (zsi_F (by decide) g54).trans (by rw [ezb, Nat.sub_self]; rfl)⟩))
                  · refine zF_aload_n 258 dX9_advance_257 rfl rfl ?_
                    refine zF_aload_n 259 dX9_advance_258 rfl rfl ?_
                    refine zF_getR 262 dX9_advance_259 rfl gX9_9 hT4.1 hT4.2.1 hT4.2.2.1 ?_
                    refine zF_aload_n 263 dX9_advance_262 rfl rfl ?_
                    refine zF_getI 266 dX9_advance_263 rfl gX9_25 (by decide) (by decide) hT4.1 hT4.2.1 (zsi_F (by decide) g24) ?_
                    have tb4 := hb (z : Int) (by omega) (by omega)
                    refine zF_baload 267 dX9_advance_266 rfl hT4.2.2.2.1 hT4.2.2.2.2.1 (by omega) (by omega) ((congrFun (zTx_1 hT4.2.2.2.2.2.1) _).trans ((hT4.2.2.2.2.2.2.2 (z : Int) (by omega) (by omega)).1)) ?_
                    refine zF_putI 270 dX9_advance_267 rfl pX9_advance_43 (Or.inl rfl) hT4.1 hT4.2.1 ?_
                    refine zF_aload_n 271 dX9_advance_270 rfl rfl ?_
                    refine zF_dup 272 dX9_advance_271 rfl rfl ?_
                    refine zF_getI 275 dX9_advance_272 rfl gX9_25 (by decide) (by decide) hT4.1 hT4.2.1 (zsi_F (by decide) (zsi_F (by decide) g24)) ?_
                    refine zF_iconst 276 dX9_advance_275 rfl ?_
                    refine zF_iadd 277 dX9_advance_276 rfl ?_
                    refine zF_putI 280 dX9_advance_277 rfl pX9_advance_25 (Or.inl rfl) hT4.1 hT4.2.1 ?_
                    refine zF_aload_n 281 dX9_advance_280 rfl rfl ?_
                    refine zF_iconst 282 dX9_advance_281 rfl ?_
                    refine zF_putI 285 dX9_advance_282 rfl pX9_advance_40 (Or.inl rfl) hT4.1 hT4.2.1 ?_
                    exact zF_return dX9_advance_285 rfl ((by
    have e1 := tk_sign (t := t) (L := L) (q := q) (b := z) (by rw [ezb]; exact eb) (by rw [ezb]; exact nA) (fun w9 => by first | omega | (have := tD_i.mp w9.2; omega)) (by omega)
    exact ⟨rfl, (zFr_si ⟨rfl, by decide, by decide⟩ (zFr_si ⟨rfl, by decide, by decide⟩ (zFr_si ⟨rfl, by decide, by decide⟩ (zFr_si ⟨rfl, by decide, by decide⟩ f4)))), by rw [e1.1]; exact (zsi_F (by decide) (zsi_same _ _ _ _)).trans (by push_cast; omega), by rw [← eb]; exact (zsi_F (by decide) (zsi_F (by decide) (zsi_F (by decide) (zsi_F (by decide) g34)))), by rw [e1.2.1]; exact (zsi_same _ _ _ _), by rw [e1.2.2]; exact (zsi_F (by decide) (zsi_F (by decide) (zsi_same _ _ _ _)))⟩))
                · exact zF_return dX9_advance_240 rfl ((by
    have e1 := tk_num (t := t) (L := L) (q := q) eb nA (by omega) (by omega) (ez4.symm.trans (zrun_e (fun w9 => by first | omega | (have := tD_i.mp w9.2; omega)))) (dg4)
    exact ⟨rfl, f4, by rw [e1.1]; exact g24, by rw [← eb]; exact g34, by rw [e1.2.1]; exact k44 (by omega), by rw [e1.2.2]; exact g54⟩))
              · refine zF_aload_n 146 dX9_advance_145 rfl rfl ?_
                refine zF_getR 149 dX9_advance_146 rfl gX9_9 hT4.1 hT4.2.1 hT4.2.2.1 ?_
                refine zF_aload_n 150 dX9_advance_149 rfl rfl ?_
                refine zF_getI 153 dX9_advance_150 rfl gX9_25 (by decide) (by decide) hT4.1 hT4.2.1 g24 ?_
                have tb3 := hb (z : Int) (by omega) (by omega)
                refine zF_baload 154 dX9_advance_153 rfl hT4.2.2.2.1 hT4.2.2.2.2.1 (by omega) (by omega) ((hT4.2.2.2.2.2.2.2 (z : Int) (by omega) (by omega)).1) ?_
                refine zF_bipush 156 dX9_advance_154 rfl (by decide) ?_
                refine zF_icmp_lt 229 159 dX9_advance_156 rfl rfl (by first | decide | assumption | (constructor <;> omega)) (by first | decide | assumption | (constructor <;> omega)) (fun c57 => ?_) (fun c57 => ?_)
                · refine zF_aload_n 230 dX9_advance_229 rfl rfl ?_
                  refine zF_getI 233 dX9_advance_230 rfl gX9_25 (by decide) (by decide) hT4.1 hT4.2.1 g24 ?_
                  refine zF_aload_n 234 dX9_advance_233 rfl rfl ?_
                  refine zF_getI 237 dX9_advance_234 rfl gX9_37 (by decide) (by decide) hT4.1 hT4.2.1 g34 ?_
                  refine zF_icmp_le 241 240 dX9_advance_237 rfl rfl (by first | decide | assumption | (constructor <;> omega)) (by first | decide | assumption | (constructor <;> omega)) (fun c58 => ?_) (fun c58 => ?_)
                  · have ezb : z = b := by omega
                    refine zF_aload_n 242 dX9_advance_241 rfl rfl ?_
                    refine zF_iconst 243 dX9_advance_242 rfl ?_
                    refine zF_putI 246 dX9_advance_243 rfl pX9_advance_40 (Or.inl rfl) hT4.1 hT4.2.1 ?_
                    refine zF_aload_n 247 dX9_advance_246 rfl rfl ?_
                    refine zF_getI 250 dX9_advance_247 rfl gX9_25 (by decide) (by decide) hT4.1 hT4.2.1 (zsi_F (by decide) g24) ?_
                    refine zF_aload_n 251 dX9_advance_250 rfl rfl ?_
                    refine zF_getI 254 dX9_advance_251 rfl gX9_21 (by decide) (by decide) hT4.1 hT4.2.1 (zsi_F (by decide) g14) ?_
                    refine zF_icmp_ge 285 257 dX9_advance_254 rfl rfl (by first | decide | assumption | (constructor <;> omega)) (by first | decide | assumption | (constructor <;> omega)) (fun c59 => ?_) (fun c59 => ?_)
                    · exact zF_return dX9_advance_285 rfl ((by
    have e1 := tk_end (t := t) (L := L) (q := q) (b := z) (by rw [ezb]; exact eb) (by omega)
    exact ⟨rfl, (zFr_si ⟨rfl, by decide, by decide⟩ f4), by rw [e1.1]; exact (zsi_F (by decide) g24), by rw [← eb]; exact (zsi_F (by decide) g34), by rw [e1.2.1]; exact (zsi_same _ _ _ _), by rw [e1.2.2]; exact (zsi_F (by decide) g54).trans (by rw [ezb, Nat.sub_self]; rfl)⟩))
                    · refine zF_aload_n 258 dX9_advance_257 rfl rfl ?_
                      refine zF_aload_n 259 dX9_advance_258 rfl rfl ?_
                      refine zF_getR 262 dX9_advance_259 rfl gX9_9 hT4.1 hT4.2.1 hT4.2.2.1 ?_
                      refine zF_aload_n 263 dX9_advance_262 rfl rfl ?_
                      refine zF_getI 266 dX9_advance_263 rfl gX9_25 (by decide) (by decide) hT4.1 hT4.2.1 (zsi_F (by decide) g24) ?_
                      have tb4 := hb (z : Int) (by omega) (by omega)
                      refine zF_baload 267 dX9_advance_266 rfl hT4.2.2.2.1 hT4.2.2.2.2.1 (by omega) (by omega) ((congrFun (zTx_1 hT4.2.2.2.2.2.1) _).trans ((hT4.2.2.2.2.2.2.2 (z : Int) (by omega) (by omega)).1)) ?_
                      refine zF_putI 270 dX9_advance_267 rfl pX9_advance_43 (Or.inl rfl) hT4.1 hT4.2.1 ?_
                      refine zF_aload_n 271 dX9_advance_270 rfl rfl ?_
                      refine zF_dup 272 dX9_advance_271 rfl rfl ?_
                      refine zF_getI 275 dX9_advance_272 rfl gX9_25 (by decide) (by decide) hT4.1 hT4.2.1 (zsi_F (by decide) (zsi_F (by decide) g24)) ?_
                      refine zF_iconst 276 dX9_advance_275 rfl ?_
                      refine zF_iadd 277 dX9_advance_276 rfl ?_
                      refine zF_putI 280 dX9_advance_277 rfl pX9_advance_25 (Or.inl rfl) hT4.1 hT4.2.1 ?_
                      refine zF_aload_n 281 dX9_advance_280 rfl rfl ?_
                      refine zF_iconst 282 dX9_advance_281 rfl ?_
                      refine zF_putI 285 dX9_advance_282 rfl pX9_advance_40 (Or.inl rfl) hT4.1 hT4.2.1 ?_
                      exact zF_return dX9_advance_285 rfl ((by
    have e1 := tk_sign (t := t) (L := L) (q := q) (b := z) (by rw [ezb]; exact eb) (by rw [ezb]; exact nA) (fun w9 => by first | omega | (have := tD_i.mp w9.2; omega)) (by omega)
    exact ⟨rfl, (zFr_si ⟨rfl, by decide, by decide⟩ (zFr_si ⟨rfl, by decide, by decide⟩ (zFr_si ⟨rfl, by decide, by decide⟩ (zFr_si ⟨rfl, by decide, by decide⟩ f4)))), by rw [e1.1]; exact (zsi_F (by decide) (zsi_same _ _ _ _)).trans (by push_cast; omega), by rw [← eb]; exact (zsi_F (by decide) (zsi_F (by decide) (zsi_F (by decide) (zsi_F (by decide) g34)))), by rw [e1.2.1]; exact (zsi_same _ _ _ _), by rw [e1.2.2]; exact (zsi_F (by decide) (zsi_F (by decide) (zsi_same _ _ _ _)))⟩))
                  · exact zF_return dX9_advance_240 rfl ((by
    have e1 := tk_num (t := t) (L := L) (q := q) eb nA (by omega) (by omega) (ez4.symm.trans (zrun_e (fun w9 => by first | omega | (have := tD_i.mp w9.2; omega)))) (dg4)
    exact ⟨rfl, f4, by rw [e1.1]; exact g24, by rw [← eb]; exact g34, by rw [e1.2.1]; exact k44 (by omega), by rw [e1.2.2]; exact g54⟩))
                · refine zF_aload_n 160 dX9_advance_159 rfl rfl ?_
                  refine zF_getR 163 dX9_advance_160 rfl gX9_9 hT4.1 hT4.2.1 hT4.2.2.1 ?_
                  refine zF_aload_n 164 dX9_advance_163 rfl rfl ?_
                  refine zF_getI 167 dX9_advance_164 rfl gX9_25 (by decide) (by decide) hT4.1 hT4.2.1 g24 ?_
                  refine zF_baload 168 dX9_advance_167 rfl hT4.2.2.2.1 hT4.2.2.2.2.1 (by omega) (by omega) ((hT4.2.2.2.2.2.2.2 (z : Int) (by omega) (by omega)).1) ?_
                  refine zF_bipush 170 dX9_advance_168 rfl (by decide) ?_
                  refine zF_icmp_gt 229 173 dX9_advance_170 rfl rfl (by first | decide | assumption | (constructor <;> omega)) (by first | decide | assumption | (constructor <;> omega)) (fun c60 => ?_) (fun c60 => ?_)
                  · refine zF_aload_n 230 dX9_advance_229 rfl rfl ?_
                    refine zF_getI 233 dX9_advance_230 rfl gX9_25 (by decide) (by decide) hT4.1 hT4.2.1 g24 ?_
                    refine zF_aload_n 234 dX9_advance_233 rfl rfl ?_
                    refine zF_getI 237 dX9_advance_234 rfl gX9_37 (by decide) (by decide) hT4.1 hT4.2.1 g34 ?_
                    refine zF_icmp_le 241 240 dX9_advance_237 rfl rfl (by first | decide | assumption | (constructor <;> omega)) (by first | decide | assumption | (constructor <;> omega)) (fun c61 => ?_) (fun c61 => ?_)
                    · have ezb : z = b := by omega
                      refine zF_aload_n 242 dX9_advance_241 rfl rfl ?_
                      refine zF_iconst 243 dX9_advance_242 rfl ?_
                      refine zF_putI 246 dX9_advance_243 rfl pX9_advance_40 (Or.inl rfl) hT4.1 hT4.2.1 ?_
                      refine zF_aload_n 247 dX9_advance_246 rfl rfl ?_
                      refine zF_getI 250 dX9_advance_247 rfl gX9_25 (by decide) (by decide) hT4.1 hT4.2.1 (zsi_F (by decide) g24) ?_
                      refine zF_aload_n 251 dX9_advance_250 rfl rfl ?_
                      refine zF_getI 254 dX9_advance_251 rfl gX9_21 (by decide) (by decide) hT4.1 hT4.2.1 (zsi_F (by decide) g14) ?_
                      refine zF_icmp_ge 285 257 dX9_advance_254 rfl rfl (by first | decide | assumption | (constructor <;> omega)) (by first | decide | assumption | (constructor <;> omega)) (fun c62 => ?_) (fun c62 => ?_)
                      · exact zF_return dX9_advance_285 rfl ((by
    have e1 := tk_end (t := t) (L := L) (q := q) (b := z) (by rw [ezb]; exact eb) (by omega)
    exact ⟨rfl, (zFr_si ⟨rfl, by decide, by decide⟩ f4), by rw [e1.1]; exact (zsi_F (by decide) g24), by rw [← eb]; exact (zsi_F (by decide) g34), by rw [e1.2.1]; exact (zsi_same _ _ _ _), by rw [e1.2.2]; exact (zsi_F (by decide) g54).trans (by rw [ezb, Nat.sub_self]; rfl)⟩))
                      · refine zF_aload_n 258 dX9_advance_257 rfl rfl ?_
                        refine zF_aload_n 259 dX9_advance_258 rfl rfl ?_
                        refine zF_getR 262 dX9_advance_259 rfl gX9_9 hT4.1 hT4.2.1 hT4.2.2.1 ?_
                        refine zF_aload_n 263 dX9_advance_262 rfl rfl ?_
                        refine zF_getI 266 dX9_advance_263 rfl gX9_25 (by decide) (by decide) hT4.1 hT4.2.1 (zsi_F (by decide) g24) ?_
                        have tb4 := hb (z : Int) (by omega) (by omega)
                        refine zF_baload 267 dX9_advance_266 rfl hT4.2.2.2.1 hT4.2.2.2.2.1 (by omega) (by omega) ((congrFun (zTx_1 hT4.2.2.2.2.2.1) _).trans ((hT4.2.2.2.2.2.2.2 (z : Int) (by omega) (by omega)).1)) ?_
                        refine zF_putI 270 dX9_advance_267 rfl pX9_advance_43 (Or.inl rfl) hT4.1 hT4.2.1 ?_
                        refine zF_aload_n 271 dX9_advance_270 rfl rfl ?_
                        refine zF_dup 272 dX9_advance_271 rfl rfl ?_
                        refine zF_getI 275 dX9_advance_272 rfl gX9_25 (by decide) (by decide) hT4.1 hT4.2.1 (zsi_F (by decide) (zsi_F (by decide) g24)) ?_
                        refine zF_iconst 276 dX9_advance_275 rfl ?_
                        refine zF_iadd 277 dX9_advance_276 rfl ?_
                        refine zF_putI 280 dX9_advance_277 rfl pX9_advance_25 (Or.inl rfl) hT4.1 hT4.2.1 ?_
                        refine zF_aload_n 281 dX9_advance_280 rfl rfl ?_
                        refine zF_iconst 282 dX9_advance_281 rfl ?_
                        refine zF_putI 285 dX9_advance_282 rfl pX9_advance_40 (Or.inl rfl) hT4.1 hT4.2.1 ?_
                        exact zF_return dX9_advance_285 rfl ((by
    have e1 := tk_sign (t := t) (L := L) (q := q) (b := z) (by rw [ezb]; exact eb) (by rw [ezb]; exact nA) (fun w9 => by first | omega | (have := tD_i.mp w9.2; omega)) (by omega)
    exact ⟨rfl, (zFr_si ⟨rfl, by decide, by decide⟩ (zFr_si ⟨rfl, by decide, by decide⟩ (zFr_si ⟨rfl, by decide, by decide⟩ (zFr_si ⟨rfl, by decide, by decide⟩ f4)))), by rw [e1.1]; exact (zsi_F (by decide) (zsi_same _ _ _ _)).trans (by push_cast; omega), by rw [← eb]; exact (zsi_F (by decide) (zsi_F (by decide) (zsi_F (by decide) (zsi_F (by decide) g34)))), by rw [e1.2.1]; exact (zsi_same _ _ _ _), by rw [e1.2.2]; exact (zsi_F (by decide) (zsi_F (by decide) (zsi_same _ _ _ _)))⟩))
                    · exact zF_return dX9_advance_240 rfl ((by
    have e1 := tk_num (t := t) (L := L) (q := q) eb nA (by omega) (by omega) (ez4.symm.trans (zrun_e (fun w9 => by first | omega | (have := tD_i.mp w9.2; omega)))) (dg4)
    exact ⟨rfl, f4, by rw [e1.1]; exact g24, by rw [← eb]; exact g34, by rw [e1.2.1]; exact k44 (by omega), by rw [e1.2.2]; exact g54⟩))
                  · refine zF_aload_n 174 dX9_advance_173 rfl rfl ?_
                    refine zF_aload_n 175 dX9_advance_174 rfl rfl ?_
                    refine zF_getI 178 dX9_advance_175 rfl gX9_43 (by decide) (by decide) hT4.1 hT4.2.1 g54 ?_
                    refine zF_ldc 180 dX9_advance_178 rfl oX9_46 ?_
                    refine zF_icmp_ge 206 183 dX9_advance_180 rfl rfl (by first | decide | assumption | (constructor <;> omega)) (by first | decide | assumption | (constructor <;> omega)) (fun c63 => ?_) (fun c63 => ?_)
                    · refine zF_ldc 208 dX9_advance_206 rfl oX9_46 ?_
                      refine zF_putI 211 dX9_advance_208 rfl pX9_advance_43 (Or.inl rfl) hT4.1 hT4.2.1 ?_
                      refine zF_aload_n 212 dX9_advance_211 rfl rfl ?_
                      refine zF_dup 213 dX9_advance_212 rfl rfl ?_
                      refine zF_getI 216 dX9_advance_213 rfl gX9_25 (by decide) (by decide) hT4.1 hT4.2.1 (zsi_F (by decide) g24) ?_
                      refine zF_iconst 217 dX9_advance_216 rfl ?_
                      refine zF_iadd 218 dX9_advance_217 rfl ?_
                      refine zF_putI 221 dX9_advance_218 rfl pX9_advance_25 (Or.inl rfl) hT4.1 hT4.2.1 ?_
                      refine zF_aload_n 222 dX9_advance_221 rfl rfl ?_
                      refine zF_iconst 223 dX9_advance_222 rfl ?_
                      refine zF_putI 226 dX9_advance_223 rfl pX9_advance_40 (Or.inl rfl) hT4.1 hT4.2.1 ?_
                      refine zF_goto 134 dX9_advance_226 rfl ?_
                      exact zF_locs (ls' := [(0, zR (B 20))]) ⟨rfl, trivial⟩ (ih134 (z + 1) _ (by omega) (⟨by omega, by omega, (zFr_si ⟨rfl, by decide, by decide⟩ (zFr_si ⟨rfl, by decide, by decide⟩ (zFr_si ⟨rfl, by decide, by decide⟩ f4))), (zsi_F (by decide) (zsi_same _ _ _ _)).trans (by push_cast; rfl), (zsi_F (by decide) (zsi_F (by decide) (zsi_F (by decide) g34))), (zsi_F (by decide) (zsi_F (by decide) (zsi_same _ _ _ _))).trans (tvN_step (by omega) (by first | exact (if_pos (by omega)).symm | exact (if_neg (by omega)).symm)), fun _ => (zsi_same _ _ _ _), (zrun_s (by omega) (tD_i.mpr (by omega))).symm.trans ez4, fun i a c => by
              by_cases e : i = z
              · subst e; omega
              · exact dg4 i a (by omega)⟩))
                    · refine zF_aload_n 184 dX9_advance_183 rfl rfl ?_
                      refine zF_getI 187 dX9_advance_184 rfl gX9_43 (by decide) (by decide) hT4.1 hT4.2.1 g54 ?_
                      refine zF_bipush 189 dX9_advance_187 rfl (by decide) ?_
                      refine zF_imul 190 dX9_advance_189 rfl ?_
                      refine zF_aload_n 191 dX9_advance_190 rfl rfl ?_
                      refine zF_getR 194 dX9_advance_191 rfl gX9_9 hT4.1 hT4.2.1 hT4.2.2.1 ?_
                      refine zF_aload_n 195 dX9_advance_194 rfl rfl ?_
                      refine zF_getI 198 dX9_advance_195 rfl gX9_25 (by decide) (by decide) hT4.1 hT4.2.1 g24 ?_
                      refine zF_baload 199 dX9_advance_198 rfl hT4.2.2.2.1 hT4.2.2.2.2.1 (by omega) (by omega) ((hT4.2.2.2.2.2.2.2 (z : Int) (by omega) (by omega)).1) ?_
                      refine zF_iadd 200 dX9_advance_199 rfl ?_
                      refine zF_bipush 202 dX9_advance_200 rfl (by decide) ?_
                      refine zF_isub 203 dX9_advance_202 rfl ?_
                      refine zF_goto 208 dX9_advance_203 rfl ?_
                      refine zF_putI 211 dX9_advance_208 rfl pX9_advance_43 (Or.inl rfl) hT4.1 hT4.2.1 ?_
                      refine zF_aload_n 212 dX9_advance_211 rfl rfl ?_
                      refine zF_dup 213 dX9_advance_212 rfl rfl ?_
                      refine zF_getI 216 dX9_advance_213 rfl gX9_25 (by decide) (by decide) hT4.1 hT4.2.1 (zsi_F (by decide) g24) ?_
                      refine zF_iconst 217 dX9_advance_216 rfl ?_
                      refine zF_iadd 218 dX9_advance_217 rfl ?_
                      refine zF_putI 221 dX9_advance_218 rfl pX9_advance_25 (Or.inl rfl) hT4.1 hT4.2.1 ?_
                      refine zF_aload_n 222 dX9_advance_221 rfl rfl ?_
                      refine zF_iconst 223 dX9_advance_222 rfl ?_
                      refine zF_putI 226 dX9_advance_223 rfl pX9_advance_40 (Or.inl rfl) hT4.1 hT4.2.1 ?_
                      refine zF_goto 134 dX9_advance_226 rfl ?_
                      exact zF_locs (ls' := [(0, zR (B 20))]) ⟨rfl, trivial⟩ (ih134 (z + 1) _ (by omega) (⟨by omega, by omega, (zFr_si ⟨rfl, by decide, by decide⟩ (zFr_si ⟨rfl, by decide, by decide⟩ (zFr_si ⟨rfl, by decide, by decide⟩ f4))), (zsi_F (by decide) (zsi_same _ _ _ _)).trans (by push_cast; rfl), (zsi_F (by decide) (zsi_F (by decide) (zsi_F (by decide) g34))), (zsi_F (by decide) (zsi_F (by decide) (zsi_same _ _ _ _))).trans (tvN_step (by omega) (by first | exact (if_pos (by omega)).symm | exact (if_neg (by omega)).symm)), fun _ => (zsi_same _ _ _ _), (zrun_s (by omega) (tD_i.mpr (by omega))).symm.trans ez4, fun i a c => by
              by_cases e : i = z
              · subst e; omega
              · exact dg4 i a (by omega)⟩))
            · exact zF_return dX9_advance_133 rfl ((by
    have e1 := tk_word (t := t) (L := L) (q := q) eb (by omega) (by omega) (ez3.symm.trans (zrun_e (fun z => by first | omega | (have := tA_i.mp z.2; omega)))) (al3 (by omega))
    exact ⟨rfl, f3, by rw [e1.1]; exact g23, by rw [← eb]; exact g33, by rw [e1.2.1]; exact k43 (by omega), by rw [e1.2.2]; exact g53⟩))
          · refine zF_aload_n 91 dX9_advance_90 rfl rfl ?_
            refine zF_getR 94 dX9_advance_91 rfl gX9_9 hT3.1 hT3.2.1 hT3.2.2.1 ?_
            refine zF_aload_n 95 dX9_advance_94 rfl rfl ?_
            refine zF_getI 98 dX9_advance_95 rfl gX9_25 (by decide) (by decide) hT3.1 hT3.2.1 g23 ?_
            refine zF_baload 99 dX9_advance_98 rfl hT3.2.2.2.1 hT3.2.2.2.2.1 (by omega) (by omega) ((hT3.2.2.2.2.2.2.2 (y : Int) (by omega) (by omega)).1) ?_
            refine zF_bipush 101 dX9_advance_99 rfl (by decide) ?_
            refine zF_icmp_gt 122 104 dX9_advance_101 rfl rfl (by first | decide | assumption | (constructor <;> omega)) (by first | decide | assumption | (constructor <;> omega)) (fun c64 => ?_) (fun c64 => ?_)
            · refine zF_aload_n 123 dX9_advance_122 rfl rfl ?_
              refine zF_getI 126 dX9_advance_123 rfl gX9_25 (by decide) (by decide) hT3.1 hT3.2.1 g23 ?_
              refine zF_aload_n 127 dX9_advance_126 rfl rfl ?_
              refine zF_getI 130 dX9_advance_127 rfl gX9_37 (by decide) (by decide) hT3.1 hT3.2.1 g33 ?_
              refine zF_icmp_le 134 133 dX9_advance_130 rfl rfl (by first | decide | assumption | (constructor <;> omega)) (by first | decide | assumption | (constructor <;> omega)) (fun c65 => ?_) (fun c65 => ?_)
              · obtain ⟨eyb, nA⟩ : y = b ∧ ¬ (b < L ∧ tA (t b) = true) := by refine ⟨by omega, fun w9 => ?_⟩; have e9 : (y : Int) = (b : Int) := (by omega); rw [← e9] at w9; first | omega | (have q9 := tA_i.mp w9.2; omega)
                refine zF_locs (ls' := [(0, zR (B 20))]) ⟨rfl, trivial⟩ ?_
                refine zF_while (X := Nat) (fun x => L - x) (fun x σ4 => b ≤ x ∧ x ≤ L ∧ zFr (PAd B) σ σ4 ∧ zia σ4 (B 20) ((2 : Nat) : Int) = (x : Int) ∧ zia σ4 (B 20) ((3 : Nat) : Int) = (b : Int) ∧ zia σ4 (B 20) ((5 : Nat) : Int) = tvN t b (x - b) ∧ (b < x → zia σ4 (B 20) ((4 : Nat) : Int) = 2) ∧ zrun tD t L x = zrun tD t L b ∧ ∀ i, b ≤ i → i < x → 48 ≤ t i ∧ t i ≤ 57) (fun x => [(0, zR (B 20))]) ?_ b σ3 (⟨Nat.le_refl _, by omega, f3, by rw [g23, eyb], g33, by rw [g53, show b - b = 0 by omega]; rfl, fun z => absurd z (Nat.lt_irrefl _), rfl, fun i a c => absurd c (by omega)⟩)
                intro z σ4 hI134 ih134
                show zF G mX9_advance d 134 [(0, zR (B 20))] [] σ4 _
                obtain ⟨hz0, hz1, f4, g24, g34, g54, k44, ez4, dg4⟩ := hI134
                have hT4 := cTk_ad hT (PAd.tk f4)
                have g14 := PAd_o f4 (by omega) h1
                have vb := tvN_b (t := t) (b := b) (n := z - b) fun i a c => dg4 i a (by omega)
                refine zF_aload_n 135 dX9_advance_134 rfl rfl ?_
                refine zF_getI 138 dX9_advance_135 rfl gX9_25 (by decide) (by decide) hT4.1 hT4.2.1 g24 ?_
                refine zF_aload_n 139 dX9_advance_138 rfl rfl ?_
                refine zF_getI 142 dX9_advance_139 rfl gX9_21 (by decide) (by decide) hT4.1 hT4.2.1 g14 ?_
                refine zF_icmp_ge 229 145 dX9_advance_142 rfl rfl (by first | decide | assumption | (constructor <;> omega)) (by first | decide | assumption | (constructor <;> omega)) (fun c66 => ?_) (fun c66 => ?_)
                · refine zF_aload_n 230 dX9_advance_229 rfl rfl ?_
                  refine zF_getI 233 dX9_advance_230 rfl gX9_25 (by decide) (by decide) hT4.1 hT4.2.1 g24 ?_
                  refine zF_aload_n 234 dX9_advance_233 rfl rfl ?_
                  refine zF_getI 237 dX9_advance_234 rfl gX9_37 (by decide) (by decide) hT4.1 hT4.2.1 g34 ?_
                  refine zF_icmp_le 241 240 dX9_advance_237 rfl rfl (by first | decide | assumption | (constructor <;> omega)) (by first | decide | assumption | (constructor <;> omega)) (fun c67 => ?_) (fun c67 => ?_)
                  · have ezb : z = b := by omega
                    refine zF_aload_n 242 dX9_advance_241 rfl rfl ?_
                    refine zF_iconst 243 dX9_advance_242 rfl ?_
                    refine zF_putI 246 dX9_advance_243 rfl pX9_advance_40 (Or.inl rfl) hT4.1 hT4.2.1 ?_
                    refine zF_aload_n 247 dX9_advance_246 rfl rfl ?_
                    refine zF_getI 250 dX9_advance_247 rfl gX9_25 (by decide) (by decide) hT4.1 hT4.2.1 (zsi_F (by decide) g24) ?_
                    refine zF_aload_n 251 dX9_advance_250 rfl rfl ?_
                    refine zF_getI 254 dX9_advance_251 rfl gX9_21 (by decide) (by decide) hT4.1 hT4.2.1 (zsi_F (by decide) g14) ?_
                    refine zF_icmp_ge 285 257 dX9_advance_254 rfl rfl (by first | decide | assumption | (constructor <;> omega)) (by first | decide | assumption | (constructor <;> omega)) (fun c68 => ?_) (fun c68 => ?_)
                    · exact zF_return dX9_advance_285 rfl ((by
    have e1 := tk_end (t := t) (L := L) (q := q) (b := z) (by rw [ezb]; exact eb) (by omega)
    exact ⟨rfl, (zFr_si ⟨rfl, by decide, by decide⟩ f4), by rw [e1.1]; exact (zsi_F (by decide) g24), by rw [← eb]; exact (zsi_F (by decide) g34), by rw [e1.2.1]; exact (zsi_same _ _ _ _), by rw [e1.2.2]; exact (zsi_F (by decide) g54).trans (by rw [ezb, Nat.sub_self]; rfl)⟩))
                    · refine zF_aload_n 258 dX9_advance_257 rfl rfl ?_
                      refine zF_aload_n 259 dX9_advance_258 rfl rfl ?_
                      refine zF_getR 262 dX9_advance_259 rfl gX9_9 hT4.1 hT4.2.1 hT4.2.2.1 ?_
                      refine zF_aload_n 263 dX9_advance_262 rfl rfl ?_
                      refine zF_getI 266 dX9_advance_263 rfl gX9_25 (by decide) (by decide) hT4.1 hT4.2.1 (zsi_F (by decide) g24) ?_
                      have tb4 := hb (z : Int) (by omega) (by omega)
                      refine zF_baload 267 dX9_advance_266 rfl hT4.2.2.2.1 hT4.2.2.2.2.1 (by omega) (by omega) ((congrFun (zTx_1 hT4.2.2.2.2.2.1) _).trans ((hT4.2.2.2.2.2.2.2 (z : Int) (by omega) (by omega)).1)) ?_
                      refine zF_putI 270 dX9_advance_267 rfl pX9_advance_43 (Or.inl rfl) hT4.1 hT4.2.1 ?_
                      refine zF_aload_n 271 dX9_advance_270 rfl rfl ?_
                      refine zF_dup 272 dX9_advance_271 rfl rfl ?_
                      refine zF_getI 275 dX9_advance_272 rfl gX9_25 (by decide) (by decide) hT4.1 hT4.2.1 (zsi_F (by decide) (zsi_F (by decide) g24)) ?_
                      refine zF_iconst 276 dX9_advance_275 rfl ?_
                      refine zF_iadd 277 dX9_advance_276 rfl ?_
                      refine zF_putI 280 dX9_advance_277 rfl pX9_advance_25 (Or.inl rfl) hT4.1 hT4.2.1 ?_
                      refine zF_aload_n 281 dX9_advance_280 rfl rfl ?_
                      refine zF_iconst 282 dX9_advance_281 rfl ?_
                      refine zF_putI 285 dX9_advance_282 rfl pX9_advance_40 (Or.inl rfl) hT4.1 hT4.2.1 ?_
                      exact zF_return dX9_advance_285 rfl ((by
    have e1 := tk_sign (t := t) (L := L) (q := q) (b := z) (by rw [ezb]; exact eb) (by rw [ezb]; exact nA) (fun w9 => by first | omega | (have := tD_i.mp w9.2; omega)) (by omega)
    exact ⟨rfl, (zFr_si ⟨rfl, by decide, by decide⟩ (zFr_si ⟨rfl, by decide, by decide⟩ (zFr_si ⟨rfl, by decide, by decide⟩ (zFr_si ⟨rfl, by decide, by decide⟩ f4)))), by rw [e1.1]; exact (zsi_F (by decide) (zsi_same _ _ _ _)).trans (by push_cast; omega), by rw [← eb]; exact (zsi_F (by decide) (zsi_F (by decide) (zsi_F (by decide) (zsi_F (by decide) g34)))), by rw [e1.2.1]; exact (zsi_same _ _ _ _), by rw [e1.2.2]; exact (zsi_F (by decide) (zsi_F (by decide) (zsi_same _ _ _ _)))⟩))
                  · exact zF_return dX9_advance_240 rfl ((by
    have e1 := tk_num (t := t) (L := L) (q := q) eb nA (by omega) (by omega) (ez4.symm.trans (zrun_e (fun w9 => by first | omega | (have := tD_i.mp w9.2; omega)))) (dg4)
    exact ⟨rfl, f4, by rw [e1.1]; exact g24, by rw [← eb]; exact g34, by rw [e1.2.1]; exact k44 (by omega), by rw [e1.2.2]; exact g54⟩))
                · refine zF_aload_n 146 dX9_advance_145 rfl rfl ?_
                  refine zF_getR 149 dX9_advance_146 rfl gX9_9 hT4.1 hT4.2.1 hT4.2.2.1 ?_
                  refine zF_aload_n 150 dX9_advance_149 rfl rfl ?_
                  refine zF_getI 153 dX9_advance_150 rfl gX9_25 (by decide) (by decide) hT4.1 hT4.2.1 g24 ?_
                  have tb3 := hb (z : Int) (by omega) (by omega)
                  refine zF_baload 154 dX9_advance_153 rfl hT4.2.2.2.1 hT4.2.2.2.2.1 (by omega) (by omega) ((hT4.2.2.2.2.2.2.2 (z : Int) (by omega) (by omega)).1) ?_
                  refine zF_bipush 156 dX9_advance_154 rfl (by decide) ?_
                  refine zF_icmp_lt 229 159 dX9_advance_156 rfl rfl (by first | decide | assumption | (constructor <;> omega)) (by first | decide | assumption | (constructor <;> omega)) (fun c69 => ?_) (fun c69 => ?_)
                  · refine zF_aload_n 230 dX9_advance_229 rfl rfl ?_
                    refine zF_getI 233 dX9_advance_230 rfl gX9_25 (by decide) (by decide) hT4.1 hT4.2.1 g24 ?_
                    refine zF_aload_n 234 dX9_advance_233 rfl rfl ?_
                    refine zF_getI 237 dX9_advance_234 rfl gX9_37 (by decide) (by decide) hT4.1 hT4.2.1 g34 ?_
                    refine zF_icmp_le 241 240 dX9_advance_237 rfl rfl (by first | decide | assumption | (constructor <;> omega)) (by first | decide | assumption | (constructor <;> omega)) (fun c70 => ?_) (fun c70 => ?_)
                    · have ezb : z = b := by omega
                      refine zF_aload_n 242 dX9_advance_241 rfl rfl ?_
                      refine zF_iconst 243 dX9_advance_242 rfl ?_
                      refine zF_putI 246 dX9_advance_243 rfl pX9_advance_40 (Or.inl rfl) hT4.1 hT4.2.1 ?_
                      refine zF_aload_n 247 dX9_advance_246 rfl rfl ?_
                      refine zF_getI 250 dX9_advance_247 rfl gX9_25 (by decide) (by decide) hT4.1 hT4.2.1 (zsi_F (by decide) g24) ?_
                      refine zF_aload_n 251 dX9_advance_250 rfl rfl ?_
                      refine zF_getI 254 dX9_advance_251 rfl gX9_21 (by decide) (by decide) hT4.1 hT4.2.1 (zsi_F (by decide) g14) ?_
                      refine zF_icmp_ge 285 257 dX9_advance_254 rfl rfl (by first | decide | assumption | (constructor <;> omega)) (by first | decide | assumption | (constructor <;> omega)) (fun c71 => ?_) (fun c71 => ?_)
                      · exact zF_return dX9_advance_285 rfl ((by
    have e1 := tk_end (t := t) (L := L) (q := q) (b := z) (by rw [ezb]; exact eb) (by omega)
    exact ⟨rfl, (zFr_si ⟨rfl, by decide, by decide⟩ f4), by rw [e1.1]; exact (zsi_F (by decide) g24), by rw [← eb]; exact (zsi_F (by decide) g34), by rw [e1.2.1]; exact (zsi_same _ _ _ _), by rw [e1.2.2]; exact (zsi_F (by decide) g54).trans (by rw [ezb, Nat.sub_self]; rfl)⟩))
                      · refine zF_aload_n 258 dX9_advance_257 rfl rfl ?_
                        refine zF_aload_n 259 dX9_advance_258 rfl rfl ?_
                        refine zF_getR 262 dX9_advance_259 rfl gX9_9 hT4.1 hT4.2.1 hT4.2.2.1 ?_
                        refine zF_aload_n 263 dX9_advance_262 rfl rfl ?_
                        refine zF_getI 266 dX9_advance_263 rfl gX9_25 (by decide) (by decide) hT4.1 hT4.2.1 (zsi_F (by decide) g24) ?_
                        have tb4 := hb (z : Int) (by omega) (by omega)
                        refine zF_baload 267 dX9_advance_266 rfl hT4.2.2.2.1 hT4.2.2.2.2.1 (by omega) (by omega) ((congrFun (zTx_1 hT4.2.2.2.2.2.1) _).trans ((hT4.2.2.2.2.2.2.2 (z : Int) (by omega) (by omega)).1)) ?_
                        refine zF_putI 270 dX9_advance_267 rfl pX9_advance_43 (Or.inl rfl) hT4.1 hT4.2.1 ?_
                        refine zF_aload_n 271 dX9_advance_270 rfl rfl ?_
                        refine zF_dup 272 dX9_advance_271 rfl rfl ?_
                        refine zF_getI 275 dX9_advance_272 rfl gX9_25 (by decide) (by decide) hT4.1 hT4.2.1 (zsi_F (by decide) (zsi_F (by decide) g24)) ?_
                        refine zF_iconst 276 dX9_advance_275 rfl ?_
                        refine zF_iadd 277 dX9_advance_276 rfl ?_
                        refine zF_putI 280 dX9_advance_277 rfl pX9_advance_25 (Or.inl rfl) hT4.1 hT4.2.1 ?_
                        refine zF_aload_n 281 dX9_advance_280 rfl rfl ?_
                        refine zF_iconst 282 dX9_advance_281 rfl ?_
                        refine zF_putI 285 dX9_advance_282 rfl pX9_advance_40 (Or.inl rfl) hT4.1 hT4.2.1 ?_
                        exact zF_return dX9_advance_285 rfl ((by
    have e1 := tk_sign (t := t) (L := L) (q := q) (b := z) (by rw [ezb]; exact eb) (by rw [ezb]; exact nA) (fun w9 => by first | omega | (have := tD_i.mp w9.2; omega)) (by omega)
    exact ⟨rfl, (zFr_si ⟨rfl, by decide, by decide⟩ (zFr_si ⟨rfl, by decide, by decide⟩ (zFr_si ⟨rfl, by decide, by decide⟩ (zFr_si ⟨rfl, by decide, by decide⟩ f4)))), by rw [e1.1]; exact (zsi_F (by decide) (zsi_same _ _ _ _)).trans (by push_cast; omega), by rw [← eb]; exact (zsi_F (by decide) (zsi_F (by decide) (zsi_F (by decide) (zsi_F (by decide) g34)))), by rw [e1.2.1]; exact (zsi_same _ _ _ _), by rw [e1.2.2]; exact (zsi_F (by decide) (zsi_F (by decide) (zsi_same _ _ _ _)))⟩))
                    · exact zF_return dX9_advance_240 rfl ((by
    have e1 := tk_num (t := t) (L := L) (q := q) eb nA (by omega) (by omega) (ez4.symm.trans (zrun_e (fun w9 => by first | omega | (have := tD_i.mp w9.2; omega)))) (dg4)
    exact ⟨rfl, f4, by rw [e1.1]; exact g24, by rw [← eb]; exact g34, by rw [e1.2.1]; exact k44 (by omega), by rw [e1.2.2]; exact g54⟩))
                  · refine zF_aload_n 160 dX9_advance_159 rfl rfl ?_
                    refine zF_getR 163 dX9_advance_160 rfl gX9_9 hT4.1 hT4.2.1 hT4.2.2.1 ?_
                    refine zF_aload_n 164 dX9_advance_163 rfl rfl ?_
                    refine zF_getI 167 dX9_advance_164 rfl gX9_25 (by decide) (by decide) hT4.1 hT4.2.1 g24 ?_
                    refine zF_baload 168 dX9_advance_167 rfl hT4.2.2.2.1 hT4.2.2.2.2.1 (by omega) (by omega) ((hT4.2.2.2.2.2.2.2 (z : Int) (by omega) (by omega)).1) ?_
                    refine zF_bipush 170 dX9_advance_168 rfl (by decide) ?_
                    refine zF_icmp_gt 229 173 dX9_advance_170 rfl rfl (by first | decide | assumption | (constructor <;> omega)) (by first | decide | assumption | (constructor <;> omega)) (fun c72 => ?_) (fun c72 => ?_)
                    · refine zF_aload_n 230 dX9_advance_229 rfl rfl ?_
                      refine zF_getI 233 dX9_advance_230 rfl gX9_25 (by decide) (by decide) hT4.1 hT4.2.1 g24 ?_
                      refine zF_aload_n 234 dX9_advance_233 rfl rfl ?_
                      refine zF_getI 237 dX9_advance_234 rfl gX9_37 (by decide) (by decide) hT4.1 hT4.2.1 g34 ?_
                      refine zF_icmp_le 241 240 dX9_advance_237 rfl rfl (by first | decide | assumption | (constructor <;> omega)) (by first | decide | assumption | (constructor <;> omega)) (fun c73 => ?_) (fun c73 => ?_)
                      · have ezb : z = b := by omega
                        refine zF_aload_n 242 dX9_advance_241 rfl rfl ?_
                        refine zF_iconst 243 dX9_advance_242 rfl ?_
                        refine zF_putI 246 dX9_advance_243 rfl pX9_advance_40 (Or.inl rfl) hT4.1 hT4.2.1 ?_
                        refine zF_aload_n 247 dX9_advance_246 rfl rfl ?_
                        refine zF_getI 250 dX9_advance_247 rfl gX9_25 (by decide) (by decide) hT4.1 hT4.2.1 (zsi_F (by decide) g24) ?_
                        refine zF_aload_n 251 dX9_advance_250 rfl rfl ?_
                        refine zF_getI 254 dX9_advance_251 rfl gX9_21 (by decide) (by decide) hT4.1 hT4.2.1 (zsi_F (by decide) g14) ?_
                        refine zF_icmp_ge 285 257 dX9_advance_254 rfl rfl (by first | decide | assumption | (constructor <;> omega)) (by first | decide | assumption | (constructor <;> omega)) (fun c74 => ?_) (fun c74 => ?_)
                        · exact zF_return dX9_advance_285 rfl ((by
    have e1 := tk_end (t := t) (L := L) (q := q) (b := z) (by rw [ezb]; exact eb) (by omega)
    exact ⟨rfl, (zFr_si ⟨rfl, by decide, by decide⟩ f4), by rw [e1.1]; exact (zsi_F (by decide) g24), by rw [← eb]; exact (zsi_F (by decide) g34), by rw [e1.2.1]; exact (zsi_same _ _ _ _), by rw [e1.2.2]; exact (zsi_F (by decide) g54).trans (by rw [ezb, Nat.sub_self]; rfl)⟩))
                        · refine zF_aload_n 258 dX9_advance_257 rfl rfl ?_
                          refine zF_aload_n 259 dX9_advance_258 rfl rfl ?_
                          refine zF_getR 262 dX9_advance_259 rfl gX9_9 hT4.1 hT4.2.1 hT4.2.2.1 ?_
                          refine zF_aload_n 263 dX9_advance_262 rfl rfl ?_
                          refine zF_getI 266 dX9_advance_263 rfl gX9_25 (by decide) (by decide) hT4.1 hT4.2.1 (zsi_F (by decide) g24) ?_
                          have tb4 := hb (z : Int) (by omega) (by omega)
                          refine zF_baload 267 dX9_advance_266 rfl hT4.2.2.2.1 hT4.2.2.2.2.1 (by omega) (by omega) ((congrFun (zTx_1 hT4.2.2.2.2.2.1) _).trans ((hT4.2.2.2.2.2.2.2 (z : Int) (by omega) (by omega)).1)) ?_
                          refine zF_putI 270 dX9_advance_267 rfl pX9_advance_43 (Or.inl rfl) hT4.1 hT4.2.1 ?_
                          refine zF_aload_n 271 dX9_advance_270 rfl rfl ?_
                          refine zF_dup 272 dX9_advance_271 rfl rfl ?_
                          refine zF_getI 275 dX9_advance_272 rfl gX9_25 (by decide) (by decide) hT4.1 hT4.2.1 (zsi_F (by decide) (zsi_F (by decide) g24)) ?_
                          refine zF_iconst 276 dX9_advance_275 rfl ?_
                          refine zF_iadd 277 dX9_advance_276 rfl ?_
                          refine zF_putI 280 dX9_advance_277 rfl pX9_advance_25 (Or.inl rfl) hT4.1 hT4.2.1 ?_
                          refine zF_aload_n 281 dX9_advance_280 rfl rfl ?_
                          refine zF_iconst 282 dX9_advance_281 rfl ?_
                          refine zF_putI 285 dX9_advance_282 rfl pX9_advance_40 (Or.inl rfl) hT4.1 hT4.2.1 ?_
                          exact zF_return dX9_advance_285 rfl ((by
    have e1 := tk_sign (t := t) (L := L) (q := q) (b := z) (by rw [ezb]; exact eb) (by rw [ezb]; exact nA) (fun w9 => by first | omega | (have := tD_i.mp w9.2; omega)) (by omega)
    exact ⟨rfl, (zFr_si ⟨rfl, by decide, by decide⟩ (zFr_si ⟨rfl, by decide, by decide⟩ (zFr_si ⟨rfl, by decide, by decide⟩ (zFr_si ⟨rfl, by decide, by decide⟩ f4)))), by rw [e1.1]; exact (zsi_F (by decide) (zsi_same _ _ _ _)).trans (by push_cast; omega), by rw [← eb]; exact (zsi_F (by decide) (zsi_F (by decide) (zsi_F (by decide) (zsi_F (by decide) g34)))), by rw [e1.2.1]; exact (zsi_same _ _ _ _), by rw [e1.2.2]; exact (zsi_F (by decide) (zsi_F (by decide) (zsi_same _ _ _ _)))⟩))
                      · exact zF_return dX9_advance_240 rfl ((by
    have e1 := tk_num (t := t) (L := L) (q := q) eb nA (by omega) (by omega) (ez4.symm.trans (zrun_e (fun w9 => by first | omega | (have := tD_i.mp w9.2; omega)))) (dg4)
    exact ⟨rfl, f4, by rw [e1.1]; exact g24, by rw [← eb]; exact g34, by rw [e1.2.1]; exact k44 (by omega), by rw [e1.2.2]; exact g54⟩))
                    · refine zF_aload_n 174 dX9_advance_173 rfl rfl ?_
                      refine zF_aload_n 175 dX9_advance_174 rfl rfl ?_
                      refine zF_getI 178 dX9_advance_175 rfl gX9_43 (by decide) (by decide) hT4.1 hT4.2.1 g54 ?_
                      refine zF_ldc 180 dX9_advance_178 rfl oX9_46 ?_
                      refine zF_icmp_ge 206 183 dX9_advance_180 rfl rfl (by first | decide | assumption | (constructor <;> omega)) (by first | decide | assumption | (constructor <;> omega)) (fun c75 => ?_) (fun c75 => ?_)
                      · refine zF_ldc 208 dX9_advance_206 rfl oX9_46 ?_
                        refine zF_putI 211 dX9_advance_208 rfl pX9_advance_43 (Or.inl rfl) hT4.1 hT4.2.1 ?_
                        refine zF_aload_n 212 dX9_advance_211 rfl rfl ?_
                        refine zF_dup 213 dX9_advance_212 rfl rfl ?_
                        refine zF_getI 216 dX9_advance_213 rfl gX9_25 (by decide) (by decide) hT4.1 hT4.2.1 (zsi_F (by decide) g24) ?_
                        refine zF_iconst 217 dX9_advance_216 rfl ?_
                        refine zF_iadd 218 dX9_advance_217 rfl ?_
                        refine zF_putI 221 dX9_advance_218 rfl pX9_advance_25 (Or.inl rfl) hT4.1 hT4.2.1 ?_
                        refine zF_aload_n 222 dX9_advance_221 rfl rfl ?_
                        refine zF_iconst 223 dX9_advance_222 rfl ?_
                        refine zF_putI 226 dX9_advance_223 rfl pX9_advance_40 (Or.inl rfl) hT4.1 hT4.2.1 ?_
                        refine zF_goto 134 dX9_advance_226 rfl ?_
                        exact zF_locs (ls' := [(0, zR (B 20))]) ⟨rfl, trivial⟩ (ih134 (z + 1) _ (by omega) (⟨by omega, by omega, (zFr_si ⟨rfl, by decide, by decide⟩ (zFr_si ⟨rfl, by decide, by decide⟩ (zFr_si ⟨rfl, by decide, by decide⟩ f4))), (zsi_F (by decide) (zsi_same _ _ _ _)).trans (by push_cast; rfl), (zsi_F (by decide) (zsi_F (by decide) (zsi_F (by decide) g34))), (zsi_F (by decide) (zsi_F (by decide) (zsi_same _ _ _ _))).trans (tvN_step (by omega) (by first | exact (if_pos (by omega)).symm | exact (if_neg (by omega)).symm)), fun _ => (zsi_same _ _ _ _), (zrun_s (by omega) (tD_i.mpr (by omega))).symm.trans ez4, fun i a c => by
              by_cases e : i = z
              · subst e; omega
              · exact dg4 i a (by omega)⟩))
                      · refine zF_aload_n 184 dX9_advance_183 rfl rfl ?_
                        refine zF_getI 187 dX9_advance_184 rfl gX9_43 (by decide) (by decide) hT4.1 hT4.2.1 g54 ?_
                        refine zF_bipush 189 dX9_advance_187 rfl (by decide) ?_
                        refine zF_imul 190 dX9_advance_189 rfl ?_
                        refine zF_aload_n 191 dX9_advance_190 rfl rfl ?_
                        refine zF_getR 194 dX9_advance_191 rfl gX9_9 hT4.1 hT4.2.1 hT4.2.2.1 ?_
                        refine zF_aload_n 195 dX9_advance_194 rfl rfl ?_
                        refine zF_getI 198 dX9_advance_195 rfl gX9_25 (by decide) (by decide) hT4.1 hT4.2.1 g24 ?_
                        refine zF_baload 199 dX9_advance_198 rfl hT4.2.2.2.1 hT4.2.2.2.2.1 (by omega) (by omega) ((hT4.2.2.2.2.2.2.2 (z : Int) (by omega) (by omega)).1) ?_
                        refine zF_iadd 200 dX9_advance_199 rfl ?_
                        refine zF_bipush 202 dX9_advance_200 rfl (by decide) ?_
                        refine zF_isub 203 dX9_advance_202 rfl ?_
                        refine zF_goto 208 dX9_advance_203 rfl ?_
                        refine zF_putI 211 dX9_advance_208 rfl pX9_advance_43 (Or.inl rfl) hT4.1 hT4.2.1 ?_
                        refine zF_aload_n 212 dX9_advance_211 rfl rfl ?_
                        refine zF_dup 213 dX9_advance_212 rfl rfl ?_
                        refine zF_getI 216 dX9_advance_213 rfl gX9_25 (by decide) (by decide) hT4.1 hT4.2.1 (zsi_F (by decide) g24) ?_
                        refine zF_iconst 217 dX9_advance_216 rfl ?_
                        refine zF_iadd 218 dX9_advance_217 rfl ?_
                        refine zF_putI 221 dX9_advance_218 rfl pX9_advance_25 (Or.inl rfl) hT4.1 hT4.2.1 ?_
                        refine zF_aload_n 222 dX9_advance_221 rfl rfl ?_
                        refine zF_iconst 223 dX9_advance_222 rfl ?_
                        refine zF_putI 226 dX9_advance_223 rfl pX9_advance_40 (Or.inl rfl) hT4.1 hT4.2.1 ?_
                        refine zF_goto 134 dX9_advance_226 rfl ?_
                        exact zF_locs (ls' := [(0, zR (B 20))]) ⟨rfl, trivial⟩ (ih134 (z + 1) _ (by omega) (⟨by omega, by omega, (zFr_si ⟨rfl, by decide, by decide⟩ (zFr_si ⟨rfl, by decide, by decide⟩ (zFr_si ⟨rfl, by decide, by decide⟩ f4))), (zsi_F (by decide) (zsi_same _ _ _ _)).trans (by push_cast; rfl), (zsi_F (by decide) (zsi_F (by decide) (zsi_F (by decide) g34))), (zsi_F (by decide) (zsi_F (by decide) (zsi_same _ _ _ _))).trans (tvN_step (by omega) (by first | exact (if_pos (by omega)).symm | exact (if_neg (by omega)).symm)), fun _ => (zsi_same _ _ _ _), (zrun_s (by omega) (tD_i.mpr (by omega))).symm.trans ez4, fun i a c => by
              by_cases e : i = z
              · subst e; omega
              · exact dg4 i a (by omega)⟩))
              · exact zF_return dX9_advance_133 rfl ((by
    have e1 := tk_word (t := t) (L := L) (q := q) eb (by omega) (by omega) (ez3.symm.trans (zrun_e (fun z => by first | omega | (have := tA_i.mp z.2; omega)))) (al3 (by omega))
    exact ⟨rfl, f3, by rw [e1.1]; exact g23, by rw [← eb]; exact g33, by rw [e1.2.1]; exact k43 (by omega), by rw [e1.2.2]; exact g53⟩))
            · refine zF_aload_n 105 dX9_advance_104 rfl rfl ?_
              refine zF_dup 106 dX9_advance_105 rfl rfl ?_
              refine zF_getI 109 dX9_advance_106 rfl gX9_25 (by decide) (by decide) hT3.1 hT3.2.1 g23 ?_
              refine zF_iconst 110 dX9_advance_109 rfl ?_
              refine zF_iadd 111 dX9_advance_110 rfl ?_
              refine zF_putI 114 dX9_advance_111 rfl pX9_advance_25 (Or.inl rfl) hT3.1 hT3.2.1 ?_
              refine zF_aload_n 115 dX9_advance_114 rfl rfl ?_
              refine zF_iconst 116 dX9_advance_115 rfl ?_
              refine zF_putI 119 dX9_advance_116 rfl pX9_advance_40 (Or.inl rfl) hT3.1 hT3.2.1 ?_
              refine zF_goto 65 dX9_advance_119 rfl ?_
              exact zF_locs (ls' := [(0, zR (B 20))]) ⟨rfl, trivial⟩ (ih65 (y + 1) _ (by omega) (⟨by omega, by omega, (zFr_si ⟨rfl, by decide, by decide⟩ (zFr_si ⟨rfl, by decide, by decide⟩ f3)), (zsi_F (by decide) (zsi_same _ _ _ _)).trans (by push_cast; rfl), (zsi_F (by decide) (zsi_F (by decide) g33)), (zsi_F (by decide) (zsi_F (by decide) g53)), fun _ => (zsi_same _ _ _ _), (zrun_s (by omega) (tA_i.mpr (by omega))).symm.trans ez3, fun _ => by
            by_cases c : (y : Int) = b
            · rw [← c]; exact tA_i.mpr (by omega)
            · exact al3 (by omega)⟩))
      · refine zF_aload_n 40 dX9_advance_39 rfl rfl ?_
        refine zF_dup 41 dX9_advance_40 rfl rfl ?_
        refine zF_getI 44 dX9_advance_41 rfl gX9_25 (by decide) (by decide) hT2.1 hT2.2.1 g2 ?_
        refine zF_iconst 45 dX9_advance_44 rfl ?_
        refine zF_iadd 46 dX9_advance_45 rfl ?_
        refine zF_putI 49 dX9_advance_46 rfl pX9_advance_25 (Or.inl rfl) hT2.1 hT2.2.1 ?_
        refine zF_goto 0 dX9_advance_49 rfl ?_
        exact zF_locs (ls' := [(0, zR (B 20))]) ⟨rfl, trivial⟩ (ih0 (x + 1) _ (by omega) (⟨by omega, by omega, (zFr_si ⟨rfl, by decide, by decide⟩ f2), (zsi_same _ _ _ _).trans (by push_cast; rfl), (zrun_s (by omega) (tW_i.mpr (by omega))).symm.trans ez2⟩))
end ZTC
