/-! the class: close: the numbers between -/
section ZK4
variable {G : zG} {d : Nat} {σ σ0 : zMem} {B : Nat → Nat} {N : Int → Int}
def PCl (B : Nat → Nat) (h : Nat) (_ : Int) : Prop := h = B 210 ∨ h = B 212 ∨ h = B 213 ∨ h = B 214 ∨ h = B 215 ∨ h = B 503
theorem PCl_n {σ2 : zMem} (hj : ∀ i j, B i = B j → i = j) (f : zFr (PCl B) σ σ2) {k : Nat} (h : k ≠ 210 ∧ k ≠ 212 ∧ k ≠ 213 ∧ k ≠ 214 ∧ k ≠ 215 ∧ k ≠ 503) : zia σ2 (B k) = zia σ (B k) := f.at fun j q => by
  rcases q with q | q | q | q | q | q <;> (have := hj _ _ q; omega)
/-- the numbers with those cells read from the class's memory -/
def clM (N : Int → Int) (σ : zMem) (B : Nat → Nat) : Int → Int := fun j =>
  if 94 ≤ j ∧ j < 154 then (if (j - 94) / 10 < N 2 ∧ (j - 94) % 10 = 9 then zia σ (B 212) ((j - 94) / 10) else if (j - 94) / 10 < N 2 ∧ (j - 94) % 10 = 8 then zia σ (B 210) ((j - 94) / 10) else N j)
  else if 184 ≤ j ∧ j < 208 then (if (j - 184) / 6 < N 0 ∧ (j - 184) % 6 < N 2 then zia σ (B 213) ((j - 184) / 6 * 6 + (j - 184) % 6) else N j)
  else if 208 ≤ j ∧ j < 212 then zia σ (B 214) (j - 208)
  else if 212 ≤ j ∧ j < 312 then (if (j - 212) / 5 < min 20 (N 3) then zia σ (B 215) ((N 3 - 1 - (j - 212) / 5) % 20 * 5 + (j - 212) % 5) else N j)
  else N j
def cMd (N : Int → Int) (σ0 σ : zMem) (B : Nat → Nat) : Prop := zFr (PCl B) σ0 σ ∧ (∀ f, 0 ≤ f → f < N 2 → zia σ (B 210) f = mF N f 8 ∨ (mF N f 8 = -1 ∧ zia σ (B 210) f = N 3)) ∧ (∀ h f, 0 ≤ h → h < N 0 → 0 ≤ f → f < N 2 → 0 ≤ zia σ (B 213) (h * 6 + f) ∧ zia σ (B 213) (h * 6 + f) ≤ N 3 + 1) ∧ (∀ f, 0 ≤ f → f < N 2 → zrg (zia σ (B 212) f)) ∧ (∀ k, 0 ≤ k → k < 4 → zrg (zia σ (B 214) k)) ∧ ∀ back what, 0 ≤ back → back < min 20 (N 3) → 0 ≤ what → what < 5 → zrg (zia σ (B 215) ((N 3 - 1 - back) % 20 * 5 + what))
theorem clM_agr : agr N (clM N σ B) := fun j hj => by
  unfold clM
  rw [if_neg (by omega), if_neg (by omega), if_neg (by omega), if_neg (by omega)]
theorem clM_P {j : Int} (h0 : 154 ≤ j) (h1 : j < 184) : clM N σ B j = N j := by
  unfold clM
  rw [if_neg (by omega), if_neg (by omega), if_neg (by omega), if_neg (by omega)]
theorem clM_F {f k : Int} (f0 : 0 ≤ f) (f1 : f < 6) (k0 : 0 ≤ k) (k1 : k < 10) : mF (clM N σ B) f k = if f < N 2 ∧ k = 9 then zia σ (B 212) f else if f < N 2 ∧ k = 8 then zia σ (B 210) f else mF N f k := by
  show clM N σ B (94 + 10 * f + k) = _
  unfold clM
  rw [if_pos (by omega), show (94 + 10 * f + k - 94) / 10 = f by omega, show (94 + 10 * f + k - 94) % 10 = k by omega]
  rfl
theorem clM_R {h f : Int} (h0 : 0 ≤ h) (h1 : h < 4) (f0 : 0 ≤ f) (f1 : f < 6) : mR (clM N σ B) h f = if h < N 0 ∧ f < N 2 then zia σ (B 213) (h * 6 + f) else mR N h f := by
  show clM N σ B (184 + 6 * h + f) = _
  unfold clM
  rw [if_neg (by omega), if_pos (by omega), show (184 + 6 * h + f - 184) / 6 = h by omega, show (184 + 6 * h + f - 184) % 6 = f by omega]
  rfl
theorem clM_k {f k : Int} (f0 : 0 ≤ f) (f1 : f < 6) (k0 : 0 ≤ k) (k1 : k < 8) : mF (clM N σ B) f k = mF N f k := by
  rw [clM_F f0 f1 k0 (by omega), if_neg (by omega), if_neg (by omega)]
theorem clM_dem (hV : mV N) (m : cMd N σ0 σ B) {f : Int} (f0 : 0 ≤ f) (f1 : f < 6) : mDem (clM N σ B) f = mDem N f := mid_dem hV f0 f1 (clM_agr 3 (by omega)) (fun k k0 k1 => clM_k f0 f1 k0 k1) (by
  rw [clM_F f0 f1 (by omega) (by omega), if_neg (by omega)]
  by_cases c : f < N 2
  · rw [if_pos ⟨c, rfl⟩]; exact m.2.1 f f0 c
  · rw [if_neg (by omega)]; exact Or.inl rfl)
theorem clM_gv (hV : mV N) (m : cMd N σ0 σ B) {s : Int} (s0 : 0 ≤ s) (s1 : s < 10) (day : Int) : gv (clM N σ B) s day = gv N s day := mid_gv hV clM_agr (fun f k f0 f1 k0 k1 => clM_k f0 f1 k0 k1) (fun f f0 f1 => clM_dem hV m f0 (by have := hV.n; omega)) s0 s1 day
theorem clM_V (hV : mV N) (m : cMd N σ0 σ B) : mV (clM N σ B) := by
  have hn := hV.n
  obtain ⟨m1, m2, m3, m4, m5, m6⟩ := m
  refine mV_mid hV clM_agr (fun j h0 h1 => clM_P h0 h1) (fun f k f0 f1 k0 k1 => clM_k f0 f1 k0 k1) (fun f f0 f1 => ?_) (fun h f h0 h1 f0 f1 => ?_) fun j => ?_
  · have q := hV.f f f0 f1
    rw [clM_F f0 f1 (by omega) (by omega), if_neg (by omega)]
    by_cases c : f < N 2
    · rw [if_pos ⟨c, rfl⟩]; have := m2 f f0 c; omega
    · rw [if_neg (by omega)]; omega
  · rw [clM_R h0 h1 f0 f1]
    by_cases c : h < N 0 ∧ f < N 2
    · rw [if_pos c]; exact m3 h f h0 c.1 f0 c.2
    · rw [if_neg c]; exact hV.r h f h0 h1 f0 f1
  · unfold clM
    by_cases c : 94 ≤ j ∧ j < 154
    · rw [if_pos c]
      by_cases c9 : (j - 94) / 10 < N 2 ∧ (j - 94) % 10 = 9
      · rw [if_pos c9]; exact m4 _ (by omega) c9.1
      · rw [if_neg c9]
        by_cases c8 : (j - 94) / 10 < N 2 ∧ (j - 94) % 10 = 8
        · rw [if_pos c8]
          have q := hV.f ((j - 94) / 10) (by omega) (by omega)
          have := m2 _ (by omega) c8.1
          constructor <;> omega
        · rw [if_neg c8]; exact hV.b _
    rw [if_neg c]
    by_cases c : 184 ≤ j ∧ j < 208
    · rw [if_pos c]
      by_cases c9 : (j - 184) / 6 < N 0 ∧ (j - 184) % 6 < N 2
      · rw [if_pos c9]
        have := m3 ((j - 184) / 6) ((j - 184) % 6) (by omega) c9.1 (by omega) c9.2
        constructor <;> omega
      · rw [if_neg c9]; exact hV.b _
    rw [if_neg c]
    by_cases c : 208 ≤ j ∧ j < 212
    · rw [if_pos c]; exact m5 _ (by omega) (by omega)
    rw [if_neg c]
    by_cases c : 212 ≤ j ∧ j < 312
    · rw [if_pos c]
      by_cases c9 : (j - 212) / 5 < min 20 (N 3)
      · rw [if_pos c9]; exact m6 _ _ (by omega) c9 (by omega) (by omega)
      · rw [if_neg c9]; exact hV.b _
    rw [if_neg c]; exact hV.b _
theorem clM_cR (hB : cM σ0 B) (hR : cR N σ0 B) (hV : mV N) (m : cMd N σ0 σ B) : cR (clM N σ B) σ B := by
  have hn := hV.n
  have fr := m.1
  have ek : ∀ k, (k ≠ 210 ∧ k ≠ 212 ∧ k ≠ 213 ∧ k ≠ 214 ∧ k ≠ 215 ∧ k ≠ 503) → zia σ (B k) = zia σ0 (B k) := fun k h => PCl_n hB.inj fr h
  have ag : agr N (clM N σ B) := clM_agr
  obtain ⟨hc, ⟨hs1, hs2, hs3, hs4, hs5, hs6⟩, ht⟩ := hR
  refine ⟨cRc_cE hV (ag.cE fun f k f0 f1 k0 k1 => clM_k f0 f1 k0 k1) (cRc_congr (fun k hk => ek _ (by omega)) hc), ⟨?_, fun h h0 h1 => ⟨?_, fun f f0 f1 => ?_⟩, fun s s0 s1 => ?_, fun f f0 f1 => ⟨?_, ?_, ?_, fun p p0 p1 => ?_⟩, fun k k0 k1 => ?_, fun back what b0 b1 w0 w1 => ?_⟩, fun s dd s0 s1 d0 d1 => ?_⟩
  · rw [ek 200 (by omega), ag 3 (by omega), ag 5 (by omega), ag 4 (by omega)]; exact hs1
  · rw [ag 0 (by omega)] at h1
    rw [show zia σ (B (200 + 3)) = zia σ0 (B (200 + 3)) from ek 203 (by omega), ag.H (by omega) (by omega)]; exact (hs2 h h0 h1).1
  · rw [ag 0 (by omega)] at h1
    rw [ag 2 (by omega)] at f1
    rw [clM_R h0 (by omega) f0 (by omega), if_pos ⟨h1, f1⟩]
  · rw [ag 1 (by omega)] at s1
    rw [show zia σ (B (200 + 4)) = zia σ0 (B (200 + 4)) from ek 204 (by omega), show zia σ (B (200 + 6)) = zia σ0 (B (200 + 6)) from ek 206 (by omega), show zia σ (B (200 + 7)) = zia σ0 (B (200 + 7)) from ek 207 (by omega), show zia σ (B (200 + 8)) = zia σ0 (B (200 + 8)) from ek 208 (by omega), show zia σ (B (200 + 9)) = zia σ0 (B (200 + 9)) from ek 209 (by omega), ag.S (by omega) (by omega), ag.S (by omega) (by omega), ag.S (by omega) (by omega), ag.S (by omega) (by omega), ag.S (by omega) (by omega)]
    exact hs3 s s0 s1
  · rw [ag 2 (by omega)] at f1
    rw [clM_F f0 (by omega) (by omega) (by omega), if_neg (by omega), if_pos ⟨f1, rfl⟩]
  · rw [ag 2 (by omega)] at f1
    rw [show zia σ (B (200 + 11)) = zia σ0 (B (200 + 11)) from ek 211 (by omega), clM_dem hV m f0 (by omega)]; exact (hs4 f f0 f1).2.1
  · rw [ag 2 (by omega)] at f1
    rw [clM_F f0 (by omega) (by omega) (by omega), if_pos ⟨f1, rfl⟩]
  · rw [ag 2 (by omega)] at f1
    rw [ag 0 (by omega)] at p1
    rw [show zia σ (B (200 + 5)) = zia σ0 (B (200 + 5)) from ek 205 (by omega), show mP (clM N σ B) f p = mP N f p from clM_P (by omega) (by omega)]; exact (hs4 f f0 f1).2.2.2 p p0 p1
  · unfold clM
    rw [if_neg (by omega), if_neg (by omega), if_pos (by omega), show 208 + k - 208 = k by omega]
  · have e3 := ag 3 (by omega)
    rw [e3] at b1 ⊢
    unfold clM
    rw [if_neg (by omega), if_neg (by omega), if_neg (by omega), if_pos (by omega), show (212 + 5 * back + what - 212) / 5 = back by omega, show (212 + 5 * back + what - 212) % 5 = what by omega, if_pos b1]
  · rw [ag 1 (by omega)] at s1
    rw [show zia σ (B 302) = zia σ0 (B 302) from ek 302 (by omega), clM_gv hV m s0 (by omega)]; exact ht s dd s0 s1 d0 d1
theorem clM_cFt (hV : mV N) (m : cMd N σ0 σ B) (f : Int) : cFt (clM N σ B) f = cFt N f := by
  have ag : agr N (clM N σ B) := clM_agr
  have hs := nS_eq hV
  have hh := nH_eq hV
  show cFtN (clM N σ B) f (nH (clM N σ B)) = cFtN N f (nH N)
  rw [ag.eH]
  refine zsum_congr fun h hh2 => ?_
  show cFiN (clM N σ B) h f (nS (clM N σ B)) * mH (clM N σ B) h 0 = cFiN N h f (nS N) * mH N h 0
  rw [ag.eS, ag.H (by omega) (by omega)]
  congr 1
  refine zsum_congr fun s hs2 => ?_
  rw [ag.S (by omega) (by omega)]
  by_cases c : mS N s 0 = h
  · rw [if_pos c, if_pos c]
    exact zsum_congr fun day _ => by rw [ag.sh (by omega), clM_gv hV m (by omega) (by omega)]
  · rw [if_neg c, if_neg c]
theorem clM_hold (hV : mV N) (m : cMd N σ0 σ B) {s : Int} (s0 : 0 ≤ s) (s1 : s < 10) : mHold (clM N σ B) s ↔ mHold N s := by
  have ag : agr N (clM N σ B) := clM_agr
  have q := hV.s s s0 s1
  unfold mHold
  rw [ag.sh s1, ag.S (k := 0) s1 (by omega), ag.H (k := 1) (by omega) (by omega), ag.cap s1, ag.price hV s0 s1, ag.S (k := 6) s1 (by omega), show vSn (clM N σ B) s (mS N s 6) (7 - mS N s 6).toNat = vSn N s (mS N s 6) (7 - mS N s 6).toNat from zsum_congr fun i _ => clM_gv hV m s0 s1 _]
theorem cMd_0 (hV : mV N) (hR : cR N σ B) : cMd N σ σ B := by
  have hn := hV.n
  obtain ⟨_, ⟨hs1, hs2, hs3, hs4, hs5, hs6⟩, _⟩ := hR
  refine ⟨zFr.rf, fun f f0 f1 => Or.inl (hs4 f f0 f1).1, fun h f h0 h1 f0 f1 => ?_, fun f f0 f1 => ?_, fun k k0 k1 => ?_, fun back what b0 b1 w0 w1 => ?_⟩
  · rw [show zia σ (B 213) (h * 6 + f) = mR N h f from (hs2 h h0 h1).2 f f0 f1]; exact hV.r h f h0 (by omega) f0 (by omega)
  · rw [show zia σ (B 212) f = mF N f 9 from (hs4 f f0 f1).2.2.1]; exact hV.b _
  · rw [show zia σ (B 214) k = N (208 + k) from hs5 k k0 k1]; exact hV.b _
  · rw [show zia σ (B 215) _ = _ from hs6 back what b0 b1 w0 w1]; exact hV.b _
theorem cMd_212 {σ2 : zMem} (hj : ∀ i j, B i = B j → i = j) (m : cMd N σ0 σ B) (f : zFr (fun y _ => y = B 212) σ σ2) (h : ∀ f, 0 ≤ f → f < N 2 → zrg (zia σ2 (B 212) f)) : cMd N σ0 σ2 B := by
  have e : ∀ k, k ≠ 212 → zia σ2 (B k) = zia σ (B k) := fun k hk => f.at fun _ q => hk (hj _ _ q)
  obtain ⟨m1, m2, m3, m4, m5, m6⟩ := m
  refine ⟨m1.tr (f.wk fun _ _ q => Or.inr (Or.inl q)), ?_, ?_, h, ?_, ?_⟩
  · rw [e 210 (by omega)]; exact m2
  · rw [e 213 (by omega)]; exact m3
  · rw [e 214 (by omega)]; exact m5
  · rw [e 215 (by omega)]; exact m6
theorem cMd_503 {σ2 : zMem} (hj : ∀ i j, B i = B j → i = j) (m : cMd N σ0 σ B) (f : zFr (fun y _ => y = B 503) σ σ2) : cMd N σ0 σ2 B := by
  have e : ∀ k, k ≠ 503 → zia σ2 (B k) = zia σ (B k) := fun k hk => f.at fun _ q => hk (hj _ _ q)
  obtain ⟨m1, m2, m3, m4, m5, m6⟩ := m
  refine ⟨m1.tr (f.wk fun _ _ q => Or.inr (Or.inr (Or.inr (Or.inr (Or.inr q))))), ?_, ?_, ?_, ?_, ?_⟩
  · rw [e 210 (by omega)]; exact m2
  · rw [e 213 (by omega)]; exact m3
  · rw [e 212 (by omega)]; exact m4
  · rw [e 214 (by omega)]; exact m5
  · rw [e 215 (by omega)]; exact m6
/-- the runs behind x houses and, in the next, z films -/
def rnV (N : Int → Int) (x z : Nat) (h f : Int) : Int := mR N h f + if h < (x : Int) ∨ (h = (x : Int) ∧ f < (z : Int)) then zb (0 < mNeed N h f) else 0
def rbV (N : Int → Int) (x z : Nat) (f : Int) : Int := if f < (z : Int) then clB N f (x + 1) else clB N f x
def rnI (N : Int → Int) (x z : Nat) (σ : zMem) (B : Nat → Nat) : Prop := (∀ h f, 0 ≤ h → h < N 0 → 0 ≤ f → f < N 2 → zia σ (B 213) (h * 6 + f) = rnV N x z h f) ∧ ∀ f, 0 ≤ f → f < N 2 → zia σ (B 210) f = rbV N x z f
theorem cMd_run (hV : mV N) (hQ : mQ N) {σ2 : zMem} {x z : Nat} (hj : ∀ i j, B i = B j → i = j) (m : cMd N σ0 σ B) (f : zFr (fun y _ => y = B 213 ∨ y = B 210) σ σ2) (r : rnI N x z σ2 B) : cMd N σ0 σ2 B := by
  have hn := hV.n
  have e : ∀ k, k ≠ 213 → k ≠ 210 → zia σ2 (B k) = zia σ (B k) := fun k hk hk2 => f.at fun _ q => q.elim (fun q => hk (hj _ _ q)) (fun q => hk2 (hj _ _ q))
  obtain ⟨m1, m2, m3, m4, m5, m6⟩ := m
  refine ⟨m1.tr (f.wk fun _ _ q => q.elim (fun q => Or.inr (Or.inr (Or.inl q))) Or.inl), fun f f0 f1 => ?_, fun h f h0 h1 f0 f1 => ?_, ?_, ?_, ?_⟩
  · rw [r.2 f f0 f1]
    unfold rbV
    split
    · exact clB_s _
    · exact clB_s _
  · rw [r.1 h f h0 h1 f0 f1]
    have a := hV.r h f h0 (by omega) f0 (by omega)
    have b := hQ.r h f h0 (by omega) f0 (by omega)
    have z1 := zb_ge (0 < mNeed N h f)
    have z2 := zb_le (0 < mNeed N h f)
    unfold rnV
    split <;> omega
  · rw [e 212 (by omega) (by omega)]; exact m4
  · rw [e 214 (by omega) (by omega)]; exact m5
  · rw [e 215 (by omega) (by omega)]; exact m6
theorem rnI_0 (h3 : ∀ h f, 0 ≤ h → h < N 0 → 0 ≤ f → f < N 2 → zia σ (B 213) (h * 6 + f) = mR N h f) (h0 : ∀ f, 0 ≤ f → f < N 2 → zia σ (B 210) f = mF N f 8) : rnI N 0 0 σ B := ⟨fun h f a b c e => by rw [h3 h f a b c e]; unfold rnV; rw [if_neg (by omega)]; omega, fun f a b => by rw [h0 f a b]; unfold rbV; rw [if_neg (by omega)]; rfl⟩
theorem rnI_n (hV : mV N) {x : Nat} (r : rnI N x (nF N) σ B) : rnI N (x + 1) 0 σ B := by
  have hf := nF_eq hV
  refine ⟨fun h f a b c e => ?_, fun f a b => ?_⟩
  · rw [r.1 h f a b c e]
    unfold rnV
    by_cases q : h < (x : Int) ∨ (h = (x : Int) ∧ f < (nF N : Int))
    · rw [if_pos q, if_pos (by omega)]
    · rw [if_neg q, if_neg (by omega)]
  · rw [r.2 f a b]
    unfold rbV
    rw [if_pos (by omega), if_neg (by omega)]
theorem rnI_no {x z : Nat} (h : ¬ 0 < mNeed N x z) (r : rnI N x z σ B) : rnI N x (z + 1) σ B := by
  refine ⟨fun y f a b c e => ?_, fun f a b => ?_⟩
  · rw [r.1 y f a b c e]
    unfold rnV
    by_cases q : y < (x : Int) ∨ (y = (x : Int) ∧ f < (z : Int))
    · rw [if_pos q, if_pos (by omega)]
    · rw [if_neg q]
      by_cases q2 : y < (x : Int) ∨ (y = (x : Int) ∧ f < ((z + 1 : Nat) : Int))
      · rw [if_pos q2, show y = (x : Int) by omega, show f = (z : Int) by omega, ← zbF h]
      · rw [if_neg q2]
  · rw [r.2 f a b]
    unfold rbV
    by_cases q : f < (z : Int)
    · rw [if_pos q, if_pos (by omega)]
    · rw [if_neg q]
      by_cases q2 : f < ((z + 1 : Nat) : Int)
      · rw [if_pos q2]
        exact (if_neg fun w => by rw [show f = (z : Int) by omega] at w; exact h w.1).symm
      · rw [if_neg q2]
theorem rnI_yes {x z : Nat} {σ2 : zMem} (h : 0 < mNeed N x z) (z6 : z < 6) (hF : N 2 ≤ 6) (r : rnI N x z σ B) (e3 : ∀ j, zia σ2 (B 213) j = if j = (x : Int) * 6 + z then zia σ (B 213) j + 1 else zia σ (B 213) j) (e0 : ∀ j, zia σ2 (B 210) j = if j = (z : Int) ∧ zia σ (B 210) j = -1 then N 3 else zia σ (B 210) j) : rnI N x (z + 1) σ2 B := by
  refine ⟨fun y f a b c e => ?_, fun f a b => ?_⟩
  · rw [e3]
    have rr := r.1 y f a b c e
    by_cases q : y = (x : Int) ∧ f = (z : Int)
    · rw [if_pos (by omega), rr]
      unfold rnV
      rw [if_neg (by omega), if_pos (by omega), q.1, q.2, ← zbT h]; omega
    · rw [if_neg (by omega), rr]
      unfold rnV
      by_cases q2 : y < (x : Int) ∨ (y = (x : Int) ∧ f < (z : Int))
      · rw [if_pos q2, if_pos (by omega)]
      · rw [if_neg q2, if_neg (by omega)]
  · rw [e0]
    have rr := r.2 f a b
    rw [rr]
    unfold rbV
    by_cases q : f < (z : Int)
    · rw [if_pos q, if_neg (by omega), if_pos (by omega)]
    · rw [if_neg q]
      by_cases q2 : f = (z : Int)
      · subst q2
        rw [if_pos (c := (z : Int) < ((z + 1 : Nat) : Int)) (by omega)]
        show _ = if 0 < mNeed N x z ∧ clB N z x = -1 then N 3 else clB N z x
        by_cases q3 : clB N z x = -1
        · rw [if_pos ⟨rfl, q3⟩, if_pos ⟨h, q3⟩]
        · rw [if_neg (fun w => q3 w.2), if_neg (fun w => q3 w.2)]
      · rw [if_neg (fun w => q2 w.1), if_neg (c := f < ((z + 1 : Nat) : Int)) (by omega)]
theorem clN_dem (hV : mV N) {f : Int} (f0 : 0 ≤ f) (f1 : f < N 2) : mDem (clN N) f = if clB N f (nH N) = -1 then mDem N f else mDem N f * mF N f 1 / 100 := by
  have hn := hV.n
  have q := hV.f f f0 (by omega)
  have hf := nF_eq hV
  have e8 : mF (clN N) f 8 = clB N f (nH N) := by
    rw [clN_F f0 (by omega) (by omega) (by omega)]
    unfold kfF
    rw [if_neg (by omega), if_pos rfl, if_pos (by omega)]
  have e0 : mF (clN N) f 0 = mF N f 0 := by rw [clN_F f0 (by omega) (by omega) (by omega), kfF_k (by omega)]
  have e1 : mF (clN N) f 1 = mF N f 1 := by rw [clN_F f0 (by omega) (by omega) (by omega), kfF_k (by omega)]
  have k : ∀ n : Nat, mDemN (clN N) f n = mDemN N f n := fun n => by
    induction n with
    | zero => exact e0
    | succ n ih => show mDemN (clN N) f n * mF (clN N) f 1 / 100 = mDemN N f n * mF N f 1 / 100; rw [ih, e1]
  have ea : mAge (clN N) f = if clB N f (nH N) = -1 then 0 else N 3 + 1 - clB N f (nH N) := by unfold mAge; rw [e8, clN_3]
  unfold mDem
  rw [k, ea]
  rcases clB_s (N := N) (f := f) (nH N) with z | ⟨z, z'⟩
  · rw [z]
    by_cases c : mF N f 8 = -1
    · rw [if_pos c, if_pos c]; unfold mAge; rw [if_pos c]
    · rw [if_neg c, if_neg c, show mAge N f = N 3 - mF N f 8 from if_neg c, show (N 3 + 1 - mF N f 8).toNat = (N 3 - mF N f 8).toNat + 1 by omega]; rfl
  · rw [z', if_neg (by omega), if_neg (by omega), show mAge N f = 0 from if_pos z, show (N 3 + 1 - N 3).toNat = 1 by omega]; rfl
/-- what the class's memory holds behind a closed week -/
theorem clN_cRs (hV : mV N) (h3 : N 3 < 60) {σ1 : zMem} (hR : cRs N σ B 200)
    (e0 : zia σ1 (B 200) ((0 : Nat) : Int) = N 3 + 1) (e1 : zia σ1 (B 200) ((1 : Nat) : Int) = 0) (e2 : zia σ1 (B 200) ((2 : Nat) : Int) = N 4)
    (eo : ∀ k, (k = 203 ∨ k = 204 ∨ k = 205) → zia σ1 (B k) = zia σ (B k))
    (es : ∀ s : Nat, s < nS N → zia σ1 (B 206) s = hFl N s ∧ zia σ1 (B 207) s = -1 ∧ zia σ1 (B 208) s = 0 ∧ zia σ1 (B 209) s = zb (mHold N s))
    (er : rnI N (nH N) 0 σ1 B) (e11 : ∀ f, 0 ≤ f → f < N 2 → zia σ1 (B 211) f = if clB N f (nH N) = -1 then mDem N f else mDem N f * mF N f 1 / 100)
    (e12 : ∀ f, 0 ≤ f → f < N 2 → zia σ1 (B 212) f = mF N f 9 + cFt N f) (e14 : ∀ k, 0 ≤ k → k < 4 → zia σ1 (B 214) k = N (208 + k) + clA N k)
    (e15 : ∀ k, 0 ≤ k → k < 4 → zia σ1 (B 215) (N 3 % 20 * 5 + k) = clA N k) (e154 : zia σ1 (B 215) (N 3 % 20 * 5 + 4) = zsum (fun s => zb (mHold N s)) (nS N))
    (e15o : ∀ j, j < N 3 % 20 * 5 ∨ N 3 % 20 * 5 + 5 ≤ j → zia σ1 (B 215) j = zia σ (B 215) j) : cRs (clN N) σ1 B 200 := by
  have hn := hV.n
  have hs := nS_eq hV
  have hf := nF_eq hV
  have hh := nH_eq hV
  obtain ⟨hs1, hs2, hs3, hs4, hs5, hs6⟩ := hR
  have n0 : clN N 0 = N 0 := clN_lo (by omega) (by omega) (by omega)
  have n1 : clN N 1 = N 1 := clN_lo (by omega) (by omega) (by omega)
  have n2 : clN N 2 = N 2 := clN_lo (by omega) (by omega) (by omega)
  refine ⟨⟨by rw [e0, clN_3], by rw [e1, clN_5], by rw [e2]; exact (clN_lo (by omega) (by omega) (by omega)).symm⟩, fun h h0 h1 => ⟨?_, fun f f0 f1 => ?_⟩, fun s s0 s1 => ?_, fun f f0 f1 => ⟨?_, ?_, ?_, fun p p0 p1 => ?_⟩, fun k k0 k1 => ?_, fun back what b0 b1 w0 w1 => ?_⟩
  · rw [n0] at h1
    rw [show zia σ1 (B (200 + 3)) = zia σ (B (200 + 3)) from eo 203 (by omega), show mH (clN N) h 1 = mH N h 1 from clN_lo (by omega) (by omega) (by omega)]; exact (hs2 h h0 h1).1
  · rw [n0] at h1
    rw [n2] at f1
    rw [show zia σ1 (B (200 + 13)) (h * 6 + f) = _ from er.1 h f h0 h1 f0 f1, clN_R h0 (by omega) f0 (by omega)]
    unfold rnV kfR
    rw [if_pos (by omega), if_pos (by omega)]
  · rw [n1] at s1
    obtain ⟨n, rfl⟩ := Int.eq_ofNat_of_zero_le s0
    obtain ⟨a6, a7, a8, a9⟩ := es n (by omega)
    rw [show zia σ1 (B (200 + 4)) = zia σ (B (200 + 4)) from eo 204 (by omega), clN_S (k := 3) s0 (by omega) (by omega) (by omega), clN_S (k := 4) s0 (by omega) (by omega) (by omega), clN_S (k := 5) s0 (by omega) (by omega) (by omega), clN_S (k := 6) s0 (by omega) (by omega) (by omega), clN_S (k := 7) s0 (by omega) (by omega) (by omega), hsS_k (by omega)]
    refine ⟨(hs3 n s0 s1).1, a6.trans ?_, a7.trans ?_, a8.trans ?_, a9.trans ?_⟩
    · unfold hsS; rw [if_pos (by omega), if_pos rfl]
    · unfold hsS; rw [if_pos (by omega), if_neg (by omega), if_pos rfl]
    · unfold hsS; rw [if_pos (by omega), if_neg (by omega), if_neg (by omega), if_pos rfl]
    · unfold hsS; rw [if_pos (by omega), if_neg (by omega), if_neg (by omega), if_neg (by omega)]
  · rw [n2] at f1
    rw [show zia σ1 (B (200 + 10)) f = _ from er.2 f f0 f1, clN_F f0 (by omega) (by omega) (by omega)]
    unfold rbV kfF
    rw [if_neg (by omega), if_neg (by omega), if_pos rfl, if_pos (by omega)]
  · rw [n2] at f1
    rw [clN_dem hV f0 f1]; exact e11 f f0 f1
  · rw [n2] at f1
    rw [show zia σ1 (B (200 + 12)) f = _ from e12 f f0 f1, clN_F f0 (by omega) (by omega) (by omega)]
    unfold kfF
    rw [if_pos rfl, if_pos (by omega)]
  · rw [n2] at f1
    rw [n0] at p1
    rw [show zia σ1 (B (200 + 5)) = zia σ (B (200 + 5)) from eo 205 (by omega), show mP (clN N) f p = mP N f p from clN_P (by omega) (by omega)]; exact (hs4 f f0 f1).2.2.2 p p0 p1
  · rw [show zia σ1 (B (200 + 14)) k = _ from e14 k k0 k1, clN_hi (by omega) (by omega)]
    unfold kwN
    rw [if_pos (by omega), show 208 + k - 208 = k by omega]
  · rw [clN_3] at b1 ⊢
    by_cases c : back = 0
    · subst c
      rw [show (N 3 + 1 - 1 - 0) % 20 * 5 + what = N 3 % 20 * 5 + what by omega, show 212 + 5 * 0 + what = 212 + what by omega]
      by_cases w4 : what = 4
      · rw [w4, show (212 : Int) + 4 = 216 by omega, clN_216]; exact e154
      · rw [clN_hi (by omega) (by omega)]
        unfold kwN
        rw [if_neg (by omega), if_pos (by omega), show 212 + what - 212 = what by omega]; exact e15 what w0 (by omega)
    · rw [clN_hi (by omega) (by omega)]
      unfold kwN
      rw [if_neg (by omega), if_neg (by omega), if_neg (by omega), if_pos (by omega), show (N 3 + 1 - 1 - back) % 20 * 5 + what = (N 3 - 1 - (back - 1)) % 20 * 5 + what by omega, show 212 + 5 * back + what - 5 = 212 + 5 * (back - 1) + what by omega]
      refine (e15o _ ?_).trans (hs6 (back - 1) what (by omega) (by omega) w0 w1)
      omega
end ZK4
