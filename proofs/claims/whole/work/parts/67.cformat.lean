/-! a memory grown by a StringBuilder's row -/
section ZGB
variable {σ σ1 σ2 : zMem} {B : Nat → Nat} {N : Int → Int} {vv vv1 cap cap1 : Nat} {l : List Int}
/-- all but the StringBuilder stays -/
def zGb (B : Nat → Nat) (σ σ1 : zMem) : Prop := zn σ ≤ zn σ1 ∧ ∀ k, k ≠ 11 → zkd σ1 (B k) = zkd σ (B k) ∧ zra σ1 (B k) = zra σ (B k) ∧ zia σ1 (B k) = zia σ (B k)
/-- the StringBuilder's row is no handle of ours, and there is room -/
def cSb (σ : zMem) (B : Nat → Nat) (vv : Nat) : Prop := (∀ k, B k ≠ vv) ∧ (∀ k, B k < zn σ ∨ zbg ≤ B k) ∧ zn σ + 6 < zbg
theorem cSb.gb (b : cSb σ B vv) (hi : ∀ i j, B i = B j → i = j) (s : sbS σ σ1 (B 11) vv vv1 cap cap1) : zGb B σ σ1 := by
  refine ⟨s.n.1, fun k hk => ?_⟩
  have h1 : B k ≠ B 11 := fun e => hk (hi _ _ e)
  have h2 := b.1 k
  have h3 := b.2.1 k
  have h4 := b.2.2
  have he : B k = vv1 → cap1 = cap := fun e => by
    rcases s.2.2.2 with q | q
    · exact q.2.2.2.1
    · exfalso; omega
  exact ⟨s.1 _ he, funext fun j => s.2.1 _ j he h1, funext fun j => s.2.2.1 _ j he h1 h2⟩
theorem cSb.z (b : cSb σ B vv) (s : sbS σ σ1 (B 11) vv vv1 cap cap1) : zn σ1 + 5 < zbg := by
  have := s.n
  have := b.2.2
  omega
theorem cSb.nx (b : cSb σ B vv) (s : sbS σ σ1 (B 11) vv vv1 cap cap1) : ∀ k, B k ≠ vv1 := fun k => by
  have h2 := b.1 k
  have h3 := b.2.1 k
  have h4 := b.2.2
  rcases s.2.2.2 with q | q <;> omega
theorem cSb.st (b : cSb σ B vv) (s : sbS σ σ1 (B 11) vv vv1 cap cap1) (h6 : zn σ1 + 6 < zbg) : cSb σ1 B vv1 := ⟨b.nx s, fun k => by have := b.2.1 k; have := s.n; omega, h6⟩
theorem zGb.lt (g : zGb B σ σ1) {x : Nat} (h : x < zn σ) : x < zn σ1 := Nat.lt_of_lt_of_le h g.1
theorem cCh_gb {b : Nat} (g : zGb B σ σ1) (hb : 12 ≤ b) (h : cCh σ B b) : cCh σ1 B b := by
  obtain ⟨g0, g1⟩ := g
  refine ⟨by rw [(g1 b (by omega)).1]; exact h.1, Nat.lt_of_lt_of_le h.2.1 g0, fun k n m => ?_⟩
  obtain ⟨q1, q2, q3⟩ := h.2.2 k n m
  exact ⟨by rw [(g1 b (by omega)).2.1]; exact q1, Nat.lt_of_lt_of_le q2 g0, by rw [(g1 (b + k) (by omega)).1]; exact q3⟩
theorem cSt_gb {b : Nat} (g : zGb B σ σ1) (hb : 12 ≤ b) (h : cSt σ B b) : cSt σ1 B b := by
  obtain ⟨g0, g1⟩ := g
  refine ⟨by rw [(g1 b (by omega)).1]; exact h.1, Nat.lt_of_lt_of_le h.2.1 g0, fun k n m => ?_⟩
  obtain ⟨q1, q2, q3⟩ := h.2.2 k n m
  exact ⟨by rw [(g1 b (by omega)).2.1]; exact q1, Nat.lt_of_lt_of_le q2 g0, by rw [(g1 (b + k) (by omega)).1]; exact q3⟩
theorem cM_gb (g : zGb B σ σ1) (h : cM σ B) : cM σ1 B := by
  refine ⟨cCh_gb g (by decide) h.1, cSt_gb g (by decide) h.2.1, ?_, h.2.2.2⟩
  have h3 := h.2.2.1
  obtain ⟨g0, g1⟩ := g
  unfold cWk at h3 ⊢
  rw [(g1 300 (by decide)).1, (g1 300 (by decide)).2.1, (g1 302 (by decide)).1, (g1 303 (by decide)).1]
  obtain ⟨a, b, c1, c2, c3, c4, d1, d2, d3, d4⟩ := h3
  exact ⟨a, Nat.lt_of_lt_of_le b g0, c1, c2, c3, c4, Nat.lt_of_lt_of_le d1 g0, d2, Nat.lt_of_lt_of_le d3 g0, d4⟩
theorem cO_gb (g : zGb B σ σ1) (h : cO σ B) : cO σ1 B := by
  have hM := cM_gb g h.1
  obtain ⟨g0, g1⟩ := g
  unfold cO at h ⊢
  rw [(g1 0 (by decide)).1, (g1 0 (by decide)).2.1]
  exact ⟨hM, h.2.1, Nat.lt_of_lt_of_le h.2.2.1 g0, h.2.2.2⟩
theorem cRc_gb {b : Nat} (g : zGb B σ σ1) (hb : 12 ≤ b) (h : cRc N σ B b) : cRc N σ1 B b := cRc_congr (fun k _ => (g.2 (b + k) (by omega)).2.2) h
theorem cRs_gb {b : Nat} (g : zGb B σ σ1) (hb : 12 ≤ b) (h : cRs N σ B b) : cRs N σ1 B b := cRs_congr (fun k _ => (g.2 (b + k) (by omega)).2.2) h
theorem cR_gb (g : zGb B σ σ1) (h : cR N σ B) : cR N σ1 B := ⟨cRc_gb g (by decide) h.1, cRs_gb g (by decide) h.2.1, by rw [(g.2 302 (by decide)).2.2]; exact h.2.2⟩
/-- the line's text up to the n-th day -/
def fmD (N : Int → Int) (s : Int) : Nat → List Int
  | 0 => [115] ++ [48 + s] ++ [58]
  | n + 1 => fmD N s n ++ [32] ++ [if mSh N s n = -1 then 45 else 48 + mSh N s n]
def fmL (N : Int → Int) (s : Int) : List Int := if mS N s 7 = 0 then fmD N s 7 else fmD N s 7 ++ zsbi 24
theorem fmD_len {s : Int} {n : Nat} : (fmD N s n).length = 3 + 2 * n := by
  induction n with
  | zero => rfl
  | succ n ih => show (fmD N s n ++ [32] ++ _).length = _; rw [List.length_append, List.length_append, ih]; show 3 + 2 * n + 1 + 1 = 3 + 2 * (n + 1); omega
theorem zsl_24 : zsl 24 = 5 := by decide
theorem fmL_len {s : Int} : (fmL N s).length = if mS N s 7 = 0 then 17 else 22 := by
  unfold fmL
  by_cases h : mS N s 7 = 0
  · rw [if_pos h, if_pos h, fmD_len]
  · rw [if_neg h, if_neg h, List.length_append, fmD_len]; rfl
theorem fmD_b {s : Int} (hs : 0 ≤ s ∧ s < 10) (hm : ∀ n : Nat, n < 7 → -1 ≤ mSh N s n ∧ mSh N s n < 10) : ∀ n : Nat, n ≤ 7 → ∀ x ∈ fmD N s n, 0 ≤ x ∧ x < 128 := fun n => by
  induction n with
  | zero => intro _ x hx; have q : x = 115 ∨ x = 48 + s ∨ x = 58 := by simpa [fmD] using hx
            omega
  | succ n ih =>
    intro hn x hx
    have q : x ∈ fmD N s n ∨ x = 32 ∨ x = (if mSh N s n = -1 then 45 else 48 + mSh N s n) := by
      have : x ∈ fmD N s n ++ [32] ++ [if mSh N s n = -1 then 45 else 48 + mSh N s n] := hx
      simpa [or_assoc] using this
    rcases q with q | q | q
    · exact ih (by omega) x q
    · omega
    · have := hm n (by omega)
      split at q <;> omega
end ZGB
section ZGC
variable {G : zG} {d : Nat} {σ : zMem} {B : Nat → Nat} {N : Int → Int} {vv cap : Nat} {l : List Int}
theorem zt_X11_appendFilm {f : Int} (hG : zGd G) (hG1 : zOS G) (hG2 : zOD G) (hO : cO σ B) (hR : cR N σ B) (hb1 : cSb σ B vv) (hI : sbI σ (B 11) vv cap l) (f0 : -1 ≤ f) (f1 : f < 10) (hl : l.length + 1 ≤ 34): zE G mX11_appendFilm (d + 6) [zR (B 0), zI f] σ (fun ro σ1 => ro = .inl none ∧ ∃ vv1 cap1, sbI σ1 (B 11) vv1 cap1 (l ++ [if f = -1 then 45 else 48 + f]) ∧ sbS σ σ1 (B 11) vv vv1 cap cap1) := by
  refine zE_of rfl (by simp [zcat]) (Nat.le_of_ble_eq_true rfl) ?_
  show zF G mX11_appendFilm (d + 6) 0 [(0, zR (B 0)), (1, zI f)] [] σ _
  have hB := hO.1
  have hz0 : zn σ + 5 < zbg := by have := hb1.2.2; omega
  refine zF_iload_n 1 dX11_appendFilm_0 rfl rfl ?_
  refine zF_iconst 2 dX11_appendFilm_1 rfl ?_
  refine zF_icmp_ne 18 5 dX11_appendFilm_2 rfl rfl (by first | decide | assumption | (constructor <;> omega)) (by first | decide | assumption | (constructor <;> omega)) (fun c1 => ?_) (fun c1 => ?_)
  · refine zF_aload_n 19 dX11_appendFilm_18 rfl rfl ?_
    refine zF_getR 22 dX11_appendFilm_19 rfl gX11_20 hO.2.1 hO.2.2.1 hO.2.2.2.2.1 ?_
    refine zF_iload_n 23 dX11_appendFilm_22 rfl rfl ?_
    refine zF_callVnn 26 (d2 := (d + 5)) (as := [zI f]) dX11_appendFilm_23 rfl kX11_367 iJ4_append_bf812 (ci := 13) rfl eJ4_append_bf812 (Nat.le_refl _) hI.kd hI.lt rfl rfl (Nat.le_of_ble_eq_true rfl) (by exact (⟨zwR hO.2.2.1, trivial, trivial⟩ : _ ∧ _ ∧ True)) (by exact trivial) (zE.mono (zt_J4_appendI hG1 hI hz0 hG2 (by omega) (by omega) (by first | omega | (simp only [List.length_append, List.length_cons, List.length_nil, fmD_len]; omega))) fun ro σs1 hh1 => ?_)
    obtain ⟨er1, vs1, cs1, hI1, hq1⟩ := hh1
    subst er1
    have hS1 := sbS.rf.tr hq1
    have hz1 := hb1.z hS1
    have hg1 := hb1.gb hO.1.2.2.2 hS1
    have hO1 := cO_gb hg1 hO
    have hB1 := hO1.1
    have hR1 := cR_gb hg1 hR
    show zF G mX11_appendFilm (d + 6) 26 [(0, zR (B 0)), (1, zI f)] [zR (B 11)] σs1 _
    refine zF_pop 27 dX11_appendFilm_26 rfl rfl ?_
    exact zF_return dX11_appendFilm_27 rfl ((by
    have e : (if f = -1 then 45 else 48 + f) = 48 + f := if_neg (by omega)
    rw [e]
    exact ⟨rfl, vs1, cs1, hI1, hq1⟩))
  · refine zF_aload_n 6 dX11_appendFilm_5 rfl rfl ?_
    refine zF_getR 9 dX11_appendFilm_6 rfl gX11_20 hO.2.1 hO.2.2.1 hO.2.2.2.2.1 ?_
    refine zF_bipush 11 dX11_appendFilm_9 rfl (by decide) ?_
    refine zF_callVnn 14 (d2 := (d + 5)) (as := [zI 45]) dX11_appendFilm_11 rfl kX11_364 iJ4_append_cf468 (ci := 13) rfl eJ4_append_cf468 (Nat.le_refl _) hI.kd hI.lt rfl rfl (Nat.le_of_ble_eq_true rfl) (by exact (⟨zwR hO.2.2.1, trivial, trivial⟩ : _ ∧ _ ∧ True)) (by exact trivial) (zE.mono (zt_J4_appendC hG1 hI hz0 (by omega) (by omega) (by first | omega | (simp only [List.length_append, List.length_cons, List.length_nil, fmD_len]; omega))) fun ro σs2 hh2 => ?_)
    obtain ⟨er2, vs2, cs2, hI2, hq2⟩ := hh2
    subst er2
    have hS2 := sbS.rf.tr hq2
    have hz2 := hb1.z hS2
    have hg2 := hb1.gb hO.1.2.2.2 hS2
    have hO2 := cO_gb hg2 hO
    have hB2 := hO2.1
    have hR2 := cR_gb hg2 hR
    show zF G mX11_appendFilm (d + 6) 14 [(0, zR (B 0)), (1, zI f)] [zR (B 11)] σs2 _
    refine zF_pop 15 dX11_appendFilm_14 rfl rfl ?_
    refine zF_goto 27 dX11_appendFilm_15 rfl ?_
    exact zF_return dX11_appendFilm_27 rfl ((by
    have e : (if f = -1 then 45 else 48 + f) = 45 := if_pos (by omega)
    rw [e]
    exact ⟨rfl, vs2, cs2, hI2, hq2⟩))
theorem zt_X11_format {s : Int} (hG : zGd G) (hG1 : zOS G) (hG2 : zOD G) (hO : cO σ B) (hR : cR N σ B) (hV : mV N) (hX : mX N) (hb1 : cSb σ B vv) (hz7 : zn σ + 7 < zbg) (hI : sbI σ (B 11) vv cap l) (zs : zrg s) : zE G mX11_format (d + 10) [zR (B 0), zI s] σ (fun ro σ1 => if 0 ≤ s ∧ s < N 1 then ro = .inl (some (zI ((fmL N s).length : Int))) ∧ ∃ vv1 cap1, sbI σ1 (B 11) vv1 cap1 (fmL N s) ∧ sbS σ σ1 (B 11) vv vv1 cap cap1 else ro = .inr eNSE ∧ σ1 = zus σ 1 6) := by
  refine zE_of rfl (by simp [zcat]) (Nat.le_of_ble_eq_true rfl) ?_
  show zF G mX11_format (d + 10) 0 [(0, zR (B 0)), (1, zI s)] [] σ _
  have hB := hO.1
  have hz0 : zn σ + 5 < zbg := by have := hb1.2.2; omega
  have hb := hV.b
  have hn := hV.n
  refine zF_aload_n 1 dX11_format_0 rfl rfl ?_
  refine zF_iload_n 2 dX11_format_1 rfl rfl ?_
  refine zF_callV 5 (d2 := (d + 9)) (as := [zI s]) dX11_format_2 rfl kX11_203 iX11_checkScreen (ci := 11) rfl eX11_checkScreen (Nat.le_refl _) hO.2.1 hO.2.2.1 rfl rfl (Nat.le_of_ble_eq_true rfl) (zE.mono (zt_X11_checkScreen hG hO hR hV (by first | decide | assumption | exact hb _ | exact mSh_rg hb _ _ | exact zb_rg _ | (constructor <;> omega))) fun ro σx1 hh1 => ?_)
  rcases Decidable.em (0 ≤ s ∧ s < N 1) with kc1 | kc1
  rotate_left
  · rw [if_neg kc1] at hh1; obtain ⟨er1, es1⟩ := hh1; subst er1; subst es1; exact ⟨rfl, by decide, by rw [if_neg (by omega)]; exact ⟨rfl, rfl⟩⟩
  rw [if_pos kc1] at hh1; obtain ⟨er1, es1⟩ := hh1; subst er1; replace es1 := es1.symm; subst es1; refine ⟨rfl, ?_⟩
  show zF G mX11_format (d + 10) 5 [(0, zR (B 0)), (1, zI s)] [] σ _
  refine zF_aload_n 6 dX11_format_5 rfl rfl ?_
  refine zF_getR 9 dX11_format_6 rfl gX11_20 hO.2.1 hO.2.2.1 hO.2.2.2.2.1 ?_
  refine zF_iconst 10 dX11_format_9 rfl ?_
  refine zF_callVnn 13 (d2 := (d + 9)) (as := [zI 0]) dX11_format_10 rfl kX11_361 iJ4_setLength_d00df (ci := 13) rfl eJ4_setLength_d00df (Nat.le_refl _) hI.kd hI.lt rfl rfl (Nat.le_of_ble_eq_true rfl) (by exact (⟨zwR hO.2.2.1, trivial, trivial⟩ : _ ∧ _ ∧ True)) (by exact trivial) (zE.mono (zt_J4_setLength hG1 hI hz0) fun ro σs2 hh2 => ?_)
  obtain ⟨er2, vs2, cs2, hI2, hq2⟩ := hh2
  subst er2
  have hS2 := sbS.rf.tr hq2
  have hz2 := hb1.z hS2
  have hg2 := hb1.gb hO.1.2.2.2 hS2
  have hO2 := cO_gb hg2 hO
  have hB2 := hO2.1
  have hR2 := cR_gb hg2 hR
  show zF G mX11_format (d + 10) 13 [(0, zR (B 0)), (1, zI s)] [] σs2 _
  refine zF_aload_n 14 dX11_format_13 rfl rfl ?_
  refine zF_getR 17 dX11_format_14 rfl gX11_20 hO2.2.1 hO2.2.2.1 hO2.2.2.2.2.1 ?_
  refine zF_bipush 19 dX11_format_17 rfl (by decide) ?_
  refine zF_callVnn 22 (d2 := (d + 9)) (as := [zI 115]) dX11_format_19 rfl kX11_364 iJ4_append_cf468 (ci := 13) rfl eJ4_append_cf468 (Nat.le_refl _) hI2.kd hI2.lt rfl rfl (Nat.le_of_ble_eq_true rfl) (by exact (⟨zwR hO2.2.2.1, trivial, trivial⟩ : _ ∧ _ ∧ True)) (by exact trivial) (zE.mono (zt_J4_appendC hG1 hI2 hz2 (by omega) (by omega) (by first | omega | (simp only [List.length_append, List.length_cons, List.length_nil, fmD_len]; omega))) fun ro σs3 hh3 => ?_)
  obtain ⟨er3, vs3, cs3, hI3, hq3⟩ := hh3
  subst er3
  have hS3 := hS2.tr hq3
  have hz3 := hb1.z hS3
  have hg3 := hb1.gb hO.1.2.2.2 hS3
  have hO3 := cO_gb hg3 hO
  have hB3 := hO3.1
  have hR3 := cR_gb hg3 hR
  show zF G mX11_format (d + 10) 22 [(0, zR (B 0)), (1, zI s)] [zR (B 11)] σs3 _
  refine zF_pop 23 dX11_format_22 rfl rfl ?_
  refine zF_aload_n 24 dX11_format_23 rfl rfl ?_
  refine zF_getR 27 dX11_format_24 rfl gX11_20 hO3.2.1 hO3.2.2.1 hO3.2.2.2.2.1 ?_
  refine zF_iload_n 28 dX11_format_27 rfl rfl ?_
  refine zF_callVnn 31 (d2 := (d + 9)) (as := [zI s]) dX11_format_28 rfl kX11_367 iJ4_append_bf812 (ci := 13) rfl eJ4_append_bf812 (Nat.le_refl _) hI3.kd hI3.lt rfl rfl (Nat.le_of_ble_eq_true rfl) (by exact (⟨zwR hO3.2.2.1, trivial, trivial⟩ : _ ∧ _ ∧ True)) (by exact trivial) (zE.mono (zt_J4_appendI hG1 hI3 hz3 hG2 (by omega) (by omega) (by first | omega | (simp only [List.length_append, List.length_cons, List.length_nil, fmD_len]; omega))) fun ro σs4 hh4 => ?_)
  obtain ⟨er4, vs4, cs4, hI4, hq4⟩ := hh4
  subst er4
  have hS4 := hS3.tr hq4
  have hz4 := hb1.z hS4
  have hg4 := hb1.gb hO.1.2.2.2 hS4
  have hO4 := cO_gb hg4 hO
  have hB4 := hO4.1
  have hR4 := cR_gb hg4 hR
  show zF G mX11_format (d + 10) 31 [(0, zR (B 0)), (1, zI s)] [zR (B 11)] σs4 _
  refine zF_pop 32 dX11_format_31 rfl rfl ?_
  refine zF_aload_n 33 dX11_format_32 rfl rfl ?_
  refine zF_getR 36 dX11_format_33 rfl gX11_20 hO4.2.1 hO4.2.2.1 hO4.2.2.2.2.1 ?_
  refine zF_bipush 38 dX11_format_36 rfl (by decide) ?_
  refine zF_callVnn 41 (d2 := (d + 9)) (as := [zI 58]) dX11_format_38 rfl kX11_364 iJ4_append_cf468 (ci := 13) rfl eJ4_append_cf468 (Nat.le_refl _) hI4.kd hI4.lt rfl rfl (Nat.le_of_ble_eq_true rfl) (by exact (⟨zwR hO4.2.2.1, trivial, trivial⟩ : _ ∧ _ ∧ True)) (by exact trivial) (zE.mono (zt_J4_appendC hG1 hI4 hz4 (by omega) (by omega) (by first | omega | (simp only [List.length_append, List.length_cons, List.length_nil, fmD_len]; omega))) fun ro σs5 hh5 => ?_)
  obtain ⟨er5, vs5, cs5, hI5, hq5⟩ := hh5
  subst er5
  have hS5 := hS4.tr hq5
  have hz5 := hb1.z hS5
  have hg5 := hb1.gb hO.1.2.2.2 hS5
  have hO5 := cO_gb hg5 hO
  have hB5 := hO5.1
  have hR5 := cR_gb hg5 hR
  show zF G mX11_format (d + 10) 41 [(0, zR (B 0)), (1, zI s)] [zR (B 11)] σs5 _
  refine zF_pop 42 dX11_format_41 rfl rfl ?_
  refine zF_iconst 43 dX11_format_42 rfl ?_
  refine zF_istore_n 44 (ls' := [(2, zI 0), (0, zR (B 0)), (1, zI s)]) dX11_format_43 rfl (by decide) rfl ?_
  refine zF_locs (ls' := [(2, zI ((0 : Nat) : Int)), (0, zR (B 0)), (1, zI s)]) ⟨zlI rfl (by first | rfl | omega | (push_cast; omega) | exact congrArg (_ + ·) (zbT (by assumption)) | exact congrArg (_ + ·) (zbF (by assumption)) | exact congrArg (_ + ·) (zbT (by omega)) | exact congrArg (_ + ·) (zbF (by omega)) | exact congrArg (_ + ·) (if_pos (by omega)).symm | exact congrArg (_ + ·) (if_neg (by omega)).symm | exact (if_pos (by omega)).symm | exact (if_neg (by omega)).symm | exact zsub_s (if_pos (by omega)).symm | exact zsub_s0 (if_neg (by omega)).symm | exact zadd0 (if_neg (by omega)).symm | exact zadd0 (zbF (by omega)) | exact (Int.sub_zero _).symm), rfl, rfl, trivial⟩ ?_
  refine zF_while (X := Nat × Nat × Nat) (fun x => 7 - x.1) (fun x σ2 => x.1 ≤ 7 ∧ sbI σ2 (B 11) x.2.1 x.2.2 (fmD N s x.1) ∧ sbS σ σ2 (B 11) vv x.2.1 cap x.2.2) (fun x => [(2, zI ((x.1 : Nat) : Int)), (0, zR (B 0)), (1, zI s)]) ?_ (0, vs5, cs5) σs5 (⟨Nat.zero_le _, hI5, hS5⟩)
  intro ⟨x, vx, cx⟩ σ2 hI44 ih44
  show zF G mX11_format (d + 10) 44 [(2, zI ((x : Nat) : Int)), (0, zR (B 0)), (1, zI s)] [] σ2 _
  obtain ⟨hx, hI2, hS2⟩ := hI44
  replace hx : x ≤ 7 := hx
  replace hI2 : sbI σ2 (B 11) vx cx (fmD N s x) := hI2
  replace hS2 : sbS σ σ2 (B 11) vv vx cap cx := hS2
  have hz2 := hb1.z hS2
  have hg2 := hb1.gb hO.1.2.2.2 hS2
  have hO2 := cO_gb hg2 hO
  have hB2 := hO2.1
  have hR2 := cR_gb hg2 hR
  refine zF_iload_n 45 dX11_format_44 rfl rfl ?_
  refine zF_bipush 47 dX11_format_45 rfl (by decide) ?_
  refine zF_icmp_ge 79 50 dX11_format_47 rfl rfl (by first | decide | assumption | exact hb _ | exact mSh_rg hb _ _ | exact zb_rg _ | (constructor <;> omega)) (by first | decide | assumption | exact hb _ | exact mSh_rg hb _ _ | exact zb_rg _ | (constructor <;> omega)) (fun c1 => ?_) (fun c1 => ?_)
  · refine zF_aload_n 80 dX11_format_79 rfl rfl ?_
    refine zF_getR 83 dX11_format_80 rfl gX11_34 hO2.2.1 hO2.2.2.1 hO2.2.2.2.2.2.2.1 ?_
    refine zF_getR 86 dX11_format_83 rfl gX11_227 hB2.st.1 hB2.st.2.1 (cB_209 hB2).1 ?_
    refine zF_iload_n 87 dX11_format_86 rfl rfl ?_
    refine zF_iaload 88 dX11_format_87 rfl (cB_209 hB2).2.2 (cB_209 hB2).2.1 (by omega) (by omega) (hR2.s.2.2.1 _ (by omega) (by omega)).2.2.2.2 ?_
    refine zF_if_eq 102 91 dX11_format_88 rfl rfl (by first | decide | assumption | exact hb _ | exact mSh_rg hb _ _ | exact zb_rg _ | (constructor <;> omega)) (fun c2 => ?_) (fun c2 => ?_)
    · refine zF_aload_n 103 dX11_format_102 rfl rfl ?_
      refine zF_getR 106 dX11_format_103 rfl gX11_20 hO2.2.1 hO2.2.2.1 hO2.2.2.2.2.1 ?_
      refine zF_callVi 109 (d2 := (d + 9)) (as := []) dX11_format_106 rfl kX11_378 iJ4_length_8abf5 (ci := 13) rfl eJ4_length_8abf5 (Nat.le_refl _) hI2.kd hI2.lt rfl rfl (Nat.le_of_ble_eq_true rfl) (zt_J4_length hI2) ?_
      exact zF_ireturn dX11_format_109 rfl ((by
    have hx7 : x = 7 := by omega
    have e : fmL N s = fmD N s x := by rw [hx7]; exact if_pos (by omega)
    rw [if_pos (by omega), e]
    exact ⟨rfl, vx, cx, hI2, hS2⟩))
    · refine zF_aload_n 92 dX11_format_91 rfl rfl ?_
      refine zF_getR 95 dX11_format_92 rfl gX11_20 hO2.2.1 hO2.2.2.1 hO2.2.2.2.2.1 ?_
      refine zF_ldcSW 98 (i := 24) dX11_format_95 rfl rfl ?_
      refine zF_callVnn 101 (d2 := (d + 9)) (as := [zR (zbg + 24)]) dX11_format_98 rfl kX11_375 iJ4_append_15ec4 (ci := 13) rfl eJ4_append_15ec4 (Nat.le_refl _) hI2.kd hI2.lt rfl rfl (Nat.le_of_ble_eq_true rfl) (by exact (⟨trivial, zwR hO2.2.2.1, trivial, trivial⟩ : _ ∧ _ ∧ _ ∧ True)) (by exact trivial) (zE.mono (zt_J4_appendS hG1 hI2 hz2 (i := 24) (by decide) (by rw [fmD_len, zsl_24]; omega)) fun ro σs6 hh6 => ?_)
      obtain ⟨er6, vs6, cs6, hI6, hq6⟩ := hh6
      subst er6
      have hS6 := hS2.tr hq6
      have hz6 := hb1.z hS6
      have hg6 := hb1.gb hO.1.2.2.2 hS6
      have hO6 := cO_gb hg6 hO
      have hB6 := hO6.1
      have hR6 := cR_gb hg6 hR
      show zF G mX11_format (d + 10) 101 [(2, zI ((x : Nat) : Int)), (0, zR (B 0)), (1, zI s)] [zR (B 11)] σs6 _
      refine zF_pop 102 dX11_format_101 rfl rfl ?_
      refine zF_aload_n 103 dX11_format_102 rfl rfl ?_
      refine zF_getR 106 dX11_format_103 rfl gX11_20 hO6.2.1 hO6.2.2.1 hO6.2.2.2.2.1 ?_
      refine zF_callVi 109 (d2 := (d + 9)) (as := []) dX11_format_106 rfl kX11_378 iJ4_length_8abf5 (ci := 13) rfl eJ4_length_8abf5 (Nat.le_refl _) hI6.kd hI6.lt rfl rfl (Nat.le_of_ble_eq_true rfl) (zt_J4_length hI6) ?_
      exact zF_ireturn dX11_format_109 rfl ((by
    have hx7 : x = 7 := by omega
    have e : fmL N s = fmD N s x ++ zsbi 24 := by rw [hx7]; exact if_neg (by omega)
    rw [if_pos (by omega), e]
    exact ⟨rfl, vs6, cs6, hI6, hS6⟩))
  · refine zF_aload_n 51 dX11_format_50 rfl rfl ?_
    refine zF_getR 54 dX11_format_51 rfl gX11_20 hO2.2.1 hO2.2.2.1 hO2.2.2.2.2.1 ?_
    refine zF_bipush 56 dX11_format_54 rfl (by decide) ?_
    refine zF_callVnn 59 (d2 := (d + 9)) (as := [zI 32]) dX11_format_56 rfl kX11_364 iJ4_append_cf468 (ci := 13) rfl eJ4_append_cf468 (Nat.le_refl _) hI2.kd hI2.lt rfl rfl (Nat.le_of_ble_eq_true rfl) (by exact (⟨trivial, zwR hO2.2.2.1, trivial, trivial⟩ : _ ∧ _ ∧ _ ∧ True)) (by exact trivial) (zE.mono (zt_J4_appendC hG1 hI2 hz2 (by omega) (by omega) (by first | omega | (simp only [List.length_append, List.length_cons, List.length_nil, fmD_len]; omega))) fun ro σs7 hh7 => ?_)
    obtain ⟨er7, vs7, cs7, hI7, hq7⟩ := hh7
    subst er7
    have hS7 := hS2.tr hq7
    have hz7 := hb1.z hS7
    have hg7 := hb1.gb hO.1.2.2.2 hS7
    have hO7 := cO_gb hg7 hO
    have hB7 := hO7.1
    have hR7 := cR_gb hg7 hR
    show zF G mX11_format (d + 10) 59 [(2, zI ((x : Nat) : Int)), (0, zR (B 0)), (1, zI s)] [zR (B 11)] σs7 _
    refine zF_pop 60 dX11_format_59 rfl rfl ?_
    refine zF_aload_n 61 dX11_format_60 rfl rfl ?_
    refine zF_aload_n 62 dX11_format_61 rfl rfl ?_
    refine zF_getR 65 dX11_format_62 rfl gX11_34 hO7.2.1 hO7.2.2.1 hO7.2.2.2.2.2.2.1 ?_
    refine zF_iload_n 66 dX11_format_65 rfl rfl ?_
    refine zF_iload_n 67 dX11_format_66 rfl rfl ?_
    refine zF_callVi 70 (d2 := (d + 9)) (as := [zI s, zI ((x : Nat) : Int)]) dX11_format_67 rfl kX11_274 iX8_filmOn (ci := 8) rfl eX8_filmOn (Nat.le_refl _) hB7.st.1 hB7.st.2.1 rfl rfl (Nat.le_of_ble_eq_true rfl) (zt_X8_filmOn hB7 hR7 hV hX (by omega) (by omega) (by first | decide | assumption | exact hb _ | exact mSh_rg hb _ _ | exact zb_rg _ | (constructor <;> omega))) ?_
    have bm := mSh_b hV (s := s) (by omega) (by omega) (x : Int)
    refine zF_callVnn 73 (d2 := (d + 9)) (as := [zI (mSh N s ((x : Nat) : Int))]) dX11_format_70 rfl kX11_370 iX11_appendFilm (ci := 11) rfl eX11_appendFilm (Nat.le_refl _) hO7.2.1 hO7.2.2.1 rfl rfl (Nat.le_of_ble_eq_true rfl) (by exact (⟨trivial, zwR hO7.2.2.1, trivial, trivial⟩ : _ ∧ _ ∧ _ ∧ True)) (by exact trivial) (zE.mono (zt_X11_appendFilm hG hG1 hG2 hO7 hR7 (hb1.st hS7 (by have := hS7.n; omega)) hI7 (by omega) (by omega) (by first | omega | (simp only [List.length_append, List.length_cons, List.length_nil, fmD_len]; omega))) fun ro σs8 hh8 => ?_)
    obtain ⟨er8, vs8, cs8, hI8, hq8⟩ := hh8
    subst er8
    have hS8 := hS7.tr hq8
    have hz8 := hb1.z hS8
    have hg8 := hb1.gb hO.1.2.2.2 hS8
    have hO8 := cO_gb hg8 hO
    have hB8 := hO8.1
    have hR8 := cR_gb hg8 hR
    show zF G mX11_format (d + 10) 73 [(2, zI ((x : Nat) : Int)), (0, zR (B 0)), (1, zI s)] [] σs8 _
    refine zF_iinc 76 (ls' := [(2, zI (((x : Nat) : Int) + 1)), (0, zR (B 0)), (1, zI s)]) dX11_format_73 rfl rfl rfl (by decide) rfl ?_
    refine zF_goto 44 dX11_format_76 rfl ?_
    exact zF_locs (ls' := [(2, zI (((x + 1) : Nat) : Int)), (0, zR (B 0)), (1, zI s)]) ⟨zlI rfl (by first | rfl | omega | (push_cast; omega) | exact congrArg (_ + ·) (zbT (by assumption)) | exact congrArg (_ + ·) (zbF (by assumption)) | exact congrArg (_ + ·) (zbT (by omega)) | exact congrArg (_ + ·) (zbF (by omega)) | exact congrArg (_ + ·) (if_pos (by omega)).symm | exact congrArg (_ + ·) (if_neg (by omega)).symm | exact (if_pos (by omega)).symm | exact (if_neg (by omega)).symm | exact zsub_s (if_pos (by omega)).symm | exact zsub_s0 (if_neg (by omega)).symm | exact zadd0 (if_neg (by omega)).symm | exact zadd0 (zbF (by omega)) | exact (Int.sub_zero _).symm), rfl, rfl, trivial⟩ (ih44 ((x + 1), vs8, cs8) _ (by omega) (⟨by omega, hI8, hS8⟩))
/-- the byte asked for -/
def fmB (l : List Int) (k : Int) : Int := if 0 ≤ k ∧ k < (l.length : Int) then l.getD k.toNat 0 else -1
theorem zt_X11_formattedByte {k : Int} (hG1 : zOS G) (hO : cO σ B) (hI : sbI σ (B 11) vv cap l) (hl : ∀ x ∈ l, 0 ≤ x ∧ x < 128) (zk : zrg k) : zE G mX11_formattedByte (d + 6) [zR (B 0), zI k] σ (fun ro σ1 => ro = .inl (some (zI (fmB l k))) ∧ σ1 = σ) := by
  refine zE_of rfl (by simp [zcat]) (Nat.le_of_ble_eq_true rfl) ?_
  show zF G mX11_formattedByte (d + 6) 0 [(0, zR (B 0)), (1, zI k)] [] σ _
  have hB := hO.1
  have hlc := hI.len
  have hcp := hI.cap
  refine zF_iload_n 1 dX11_formattedByte_0 rfl rfl ?_
  refine zF_if_lt 15 4 dX11_formattedByte_1 rfl rfl (by first | decide | assumption | (constructor <;> omega)) (fun c1 => ?_) (fun c1 => ?_)
  · refine zF_iconst 16 dX11_formattedByte_15 rfl ?_
    exact zF_ireturn dX11_formattedByte_16 rfl (⟨congrArg (fun z => Sum.inl (some (zI z))) (by unfold fmB; rw [if_neg (by omega)]), rfl⟩)
  · refine zF_iload_n 5 dX11_formattedByte_4 rfl rfl ?_
    refine zF_aload_n 6 dX11_formattedByte_5 rfl rfl ?_
    refine zF_getR 9 dX11_formattedByte_6 rfl gX11_20 hO.2.1 hO.2.2.1 hO.2.2.2.2.1 ?_
    refine zF_callVi 12 (d2 := (d + 5)) (as := []) dX11_formattedByte_9 rfl kX11_378 iJ4_length_8abf5 (ci := 13) rfl eJ4_length_8abf5 (Nat.le_refl _) hI.kd hI.lt rfl rfl (Nat.le_of_ble_eq_true rfl) (zt_J4_length hI) ?_
    refine zF_icmp_lt 17 15 dX11_formattedByte_12 rfl rfl (by first | decide | assumption | (constructor <;> omega)) (by first | decide | assumption | (constructor <;> omega)) (fun c2 => ?_) (fun c2 => ?_)
    · have hk0 : 0 ≤ k := by omega
      have hkl : k.toNat < l.length := by omega
      have ek : ((k.toNat : Nat) : Int) = k := by omega
      have hbk := hl (l.getD k.toNat 0) (by rw [List.getD_eq_getElem?_getD, List.getElem?_eq_getElem hkl]; exact List.getElem_mem hkl)
      have kk : zP1 G mJ4_charAt_5068e (d + 5) [zR (B 11), zI k] σ (l.getD k.toNat 0) := ek ▸ zt_J4_charAt hG1 hI hkl hbk
      refine zF_aload_n 18 dX11_formattedByte_17 rfl rfl ?_
      refine zF_getR 21 dX11_formattedByte_18 rfl gX11_20 hO.2.1 hO.2.2.1 hO.2.2.2.2.1 ?_
      refine zF_iload_n 22 dX11_formattedByte_21 rfl rfl ?_
      refine zF_callVi 25 (d2 := (d + 5)) (as := [zI k]) dX11_formattedByte_22 rfl kX11_380 iJ4_charAt_5068e (ci := 13) rfl eJ4_charAt_5068e (Nat.le_refl _) hI.kd hI.lt rfl rfl (Nat.le_of_ble_eq_true rfl) (kk) ?_
      exact zF_ireturn dX11_formattedByte_25 rfl (⟨congrArg (fun z => Sum.inl (some (zI z))) (by unfold fmB; rw [if_pos (by omega)]), rfl⟩)
    · refine zF_iconst 16 dX11_formattedByte_15 rfl ?_
      exact zF_ireturn dX11_formattedByte_16 rfl (⟨congrArg (fun z => Sum.inl (some (zI z))) (by unfold fmB; rw [if_neg (by omega)]), rfl⟩)
end ZGC
