/-! pure calls, loops -/
section ZP
def zb (p : Prop) [Decidable p] : Int := if p then 1 else 0
theorem zbT {p : Prop} [Decidable p] (h : p) : 1 = zb p := (if_pos h).symm
theorem zbF {p : Prop} [Decidable p] (h : ¬ p) : 0 = zb p := (if_neg h).symm
theorem zb01 (p : Prop) [Decidable p] : zb p = 0 ∨ zb p = 1 := by
  unfold zb
  split
  · exact Or.inr rfl
  · exact Or.inl rfl
theorem zb_rg (p : Prop) [Decidable p] : zrg (zb p) := by
  rcases zb01 p with h | h <;> rw [h] <;> decide
theorem zb_ge (p : Prop) [Decidable p] : 0 ≤ zb p := by
  rcases zb01 p with h | h <;> rw [h] <;> decide
theorem zb_le (p : Prop) [Decidable p] : zb p ≤ 1 := by
  rcases zb01 p with h | h <;> rw [h] <;> decide
theorem zb_congr {p q : Prop} [Decidable p] [Decidable q] (h : p ↔ q) : zb p = zb q := by
  unfold zb
  by_cases hp : p
  · rw [if_pos hp, if_pos (h.mp hp)]
  · rw [if_neg hp, if_neg (fun x => hp (h.mpr x))]
def zP1 (G : zG) (M : zMeth) (d : Nat) (as : List zV) (σ : zMem) (z : Int) : Prop := zE G M d as σ (fun r σ1 => σ1 = σ ∧ r = .inl (some (zI z)))
theorem zP1.eq {G : zG} {M : zMeth} {d : Nat} {as : List zV} {σ : zMem} {z z' : Int} (h : zP1 G M d as σ z) (e : z = z') : zP1 G M d as σ z' := e ▸ h
variable {G : zG} {M : zMeth} {d pc : Nat} {ls : List (Nat × zV)} {st : List zV} {σ : zMem} {Q : zRes → zMem → Prop}
theorem zF_iretP {z z' : Int} (hd : decode M.2.1 pc = .ok (.ireturn, 1)) (hr : M.2.2.2 = some .int) (h : z' = z) : zF G M d pc ls [zI z'] σ (fun r σ1 => σ1 = σ ∧ r = .inl (some (zI z))) := zF_ireturn hd hr ⟨rfl, by rw [h]⟩
theorem zF_zretP {z z' : Int} (hd : decode M.2.1 pc = .ok (.ireturn, 1)) (hr : M.2.2.2 = some .boolean) (hz : z' = 0 ∨ z' = 1) (h : z' = z) : zF G M d pc ls [zI z'] σ (fun r σ1 => σ1 = σ ∧ r = .inl (some (zI z))) := zF_zreturn hd hr hz ⟨rfl, by rw [h]⟩
theorem zF_callSi (pc' : Nat) {M2 : zMeth} {d2 idx n : Nat} {stk as rest : List zV} {z : Int} (hd : decode M.2.1 pc = .ok (.invokestatic idx, 3)) (hp : pc + 3 = pc') (hcl : zCL M.1.cls idx M2 n) (hst : Cond.static M2.1 ∈ lw_all) (hdd : d2 + 1 ≤ d) (hn : as.length = n) (hs : stk = as.reverse ++ rest) (hcat : (rest.map zcat).sum ≤ 8)
    (hE : zP1 G M2 d2 as σ z) (kk : zF G M d pc' ls (zI z :: rest) σ Q) : zF G M d pc ls stk σ Q := by
  refine zF_callS pc' hd hp hcl hst hdd hn hs hcat (hE.mono fun r σ1 h => ?_)
  obtain ⟨e1, e2⟩ := h
  subst e1
  subst e2
  exact ⟨rfl, kk⟩
theorem zF_callVi (pc' : Nat) {M2 : zMeth} {d2 idx n ci h : Nat} {C : vw_C} {stk as rest : List zV} {z : Int} (hd : decode M.2.1 pc = .ok (.invokevirtual idx, 3)) (hp : pc + 3 = pc') (hcl : zCL M.1.cls idx M2 n) (hin : Cond.instanceMethod M2.1 ∈ lw_all) (hc : zcl[ci]? = some C) (hse : Cond.selects C.1 M2.1 M2.1 ∈ lw_all) (hdd : d2 + 1 ≤ d) (hkd : zkd σ h = (0, ci)) (hh : h < zn σ) (hn : as.length = n) (hs : stk = as.reverse ++ zR h :: rest) (hcat : (rest.map zcat).sum ≤ 8)
    (hE : zP1 G M2 d2 (zR h :: as) σ z) (kk : zF G M d pc' ls (zI z :: rest) σ Q) : zF G M d pc ls stk σ Q := by
  refine zF_callV pc' hd hp hcl hin hc hse hdd hkd hh hn hs hcat (hE.mono fun r σ1 h => ?_)
  obtain ⟨e1, e2⟩ := h
  subst e1
  subst e2
  exact ⟨rfl, kk⟩
theorem zF_ifb_eq (pc1 pc2 : Nat) {p : Prop} [Decidable p] {off : Int} (hd : decode M.2.1 pc = .ok (.ifCond .eq off, 3)) (ht : (pc : Int) + off = (pc1 : Int)) (hp : pc + 3 = pc2) (k1 : ¬ p → zF G M d pc1 ls st σ Q) (k2 : p → zF G M d pc2 ls st σ Q) : zF G M d pc ls (zI (zb p) :: st) σ Q := by
  refine zF_if_eq pc1 pc2 hd ht hp (zb_rg p) (fun h => k1 fun x => ?_) (fun h => k2 (Decidable.not_not.mp fun x => h (zbF x).symm))
  rw [← zbT x] at h
  exact absurd h (by decide)
theorem zF_ifb_ne (pc1 pc2 : Nat) {p : Prop} [Decidable p] {off : Int} (hd : decode M.2.1 pc = .ok (.ifCond .ne off, 3)) (ht : (pc : Int) + off = (pc1 : Int)) (hp : pc + 3 = pc2) (k1 : p → zF G M d pc1 ls st σ Q) (k2 : ¬ p → zF G M d pc2 ls st σ Q) : zF G M d pc ls (zI (zb p) :: st) σ Q := by
  refine zF_if_ne pc1 pc2 hd ht hp (zb_rg p) (fun h => k1 (Decidable.not_not.mp fun x => h (zbF x).symm)) (fun h => k2 fun x => h fun y => ?_)
  rw [← zbT x] at y
  exact absurd y (by decide)
def zsub (ls : List (Nat × zV)) : List (Nat × zV) → Prop
  | [] => True
  | q :: qs => ls.lookup q.1 = some q.2 ∧ zsub ls qs
theorem zsub_of {ls ls' : List (Nat × zV)} (h : zsub ls ls') : ∀ q ∈ ls', ls.lookup q.1 = some q.2 := by
  induction ls' with
  | nil => intro q hq; cases hq
  | cons a l ih =>
    intro q hq
    rcases List.mem_cons.mp hq with e | e
    · subst e; exact h.1
    · exact ih h.2 q e
theorem zF_locs {ls' : List (Nat × zV)} (h : zsub ls ls') (k : zF G M d pc ls' st σ Q) : zF G M d pc ls st σ Q := by
  refine zF_step rfl rfl rfl ?_ k
  intro ρ p e R s m args below meth c0 hC H locs cells slots lsA Qm hS hR1 hR2 kk
  refine kk H locs lsA ⟨hS.1, hS.2.1, hS.2.2.1, hS.2.2.2.1, fun q hq => ?_⟩
  obtain ⟨x, hx, ex⟩ := List.mem_map.mp hq
  subst ex
  exact hS.2.2.2.2 _ (List.mem_map.mpr ⟨x, zlook (zsub_of h x hx), rfl⟩)
theorem zlI {i : Nat} {a b : Int} (h : ls.lookup i = some (zI a)) (e : a = b) : ls.lookup i = some (zI b) := e ▸ h
theorem zF_I {a b : Int} (e : a = b) (k : zF G M d pc ls (zI b :: st) σ Q) : zF G M d pc ls (zI a :: st) σ Q := by rw [e]; exact k
theorem zF_loop {n : Nat} (L : Nat → List (Nat × zV)) (S : Nat → zMem) (step : ∀ i, i < n → zF G M d pc (L (i + 1)) st (S (i + 1)) Q → zF G M d pc (L i) st (S i) Q) (last : zF G M d pc (L n) st (S n) Q) : zF G M d pc (L 0) st (S 0) Q := by
  have key : ∀ k i, i + k = n → zF G M d pc (L i) st (S i) Q := by
    intro k
    induction k with
    | zero => intro i h; rw [Nat.add_zero] at h; subst h; exact last
    | succ k ih => intro i h; exact step i (by omega) (ih (i + 1) (by omega))
  exact key n 0 (by omega)
/-- memory made no longer, but for the ints of some places -/
def zFr (P : Nat → Int → Prop) (σ σ' : zMem) : Prop := zn σ' = zn σ ∧ zkd σ' = zkd σ ∧ zra σ' = zra σ ∧ zcs σ' = zcs σ ∧ zss σ' = zss σ ∧ ∀ h j, ¬ P h j → zia σ' h j = zia σ h j
theorem zFr.rf {P : Nat → Int → Prop} {σ : zMem} : zFr P σ σ := ⟨rfl, rfl, rfl, rfl, rfl, fun _ _ _ => rfl⟩
theorem zFr.tr {P : Nat → Int → Prop} {a b c : zMem} (h : zFr P a b) (k : zFr P b c) : zFr P a c := ⟨k.1.trans h.1, k.2.1.trans h.2.1, k.2.2.1.trans h.2.2.1, k.2.2.2.1.trans h.2.2.2.1, k.2.2.2.2.1.trans h.2.2.2.2.1, fun x j hx => (k.2.2.2.2.2 x j hx).trans (h.2.2.2.2.2 x j hx)⟩
theorem zFr.wk {P P' : Nat → Int → Prop} {a b : zMem} (h : zFr P a b) (k : ∀ x j, P x j → P' x j) : zFr P' a b := ⟨h.1, h.2.1, h.2.2.1, h.2.2.2.1, h.2.2.2.2.1, fun x j hx => h.2.2.2.2.2 x j fun y => hx (k x j y)⟩
theorem zFr_si {P : Nat → Int → Prop} {σ σ' : zMem} {h : Nat} {j v : Int} (hp : P h j) (k : zFr P σ σ') : zFr P σ (zsi σ' h j v) := ⟨k.1, k.2.1, k.2.2.1, k.2.2.2.1, k.2.2.2.2.1, fun x j' hx => by
  refine Eq.trans ?_ (k.2.2.2.2.2 x j' hx)
  rw [zia_si]
  refine if_neg fun (q : x = h ∧ j' = j) => hx ?_
  rw [q.1, q.2]
  exact hp⟩
theorem zFr.at {P : Nat → Int → Prop} {σ σ' : zMem} (k : zFr P σ σ') {h : Nat} (hp : ∀ j, ¬ P h j) : zia σ' h = zia σ h := funext fun j => k.2.2.2.2.2 h j (hp j)
theorem zF_while {X : Type} (μ : X → Nat) (I : X → zMem → Prop) (L : X → List (Nat × zV)) (step : ∀ x σ, I x σ → (∀ x' σ', μ x' < μ x → I x' σ' → zF G M d pc (L x') st σ' Q) → zF G M d pc (L x) st σ Q) : ∀ x σ, I x σ → zF G M d pc (L x) st σ Q := by
  have key : ∀ k x σ, μ x < k → I x σ → zF G M d pc (L x) st σ Q := by
    intro k
    induction k with
    | zero => intro x σ h _; exact absurd h (Nat.not_lt_zero _)
    | succ k ih => intro x σ h hI; exact step x σ hI fun x' σ' h' hI' => ih x' σ' (by omega) hI'
  exact fun x σ hI => key (μ x + 1) x σ (Nat.lt_succ_self _) hI
def zsum (f : Int → Int) : Nat → Int
  | 0 => 0
  | n + 1 => zsum f n + f n
theorem zsum_congr {f g : Int → Int} {n : Nat} (h : ∀ i : Nat, i < n → f i = g i) : zsum f n = zsum g n := by
  induction n with
  | zero => rfl
  | succ n ih => show zsum f n + f n = zsum g n + g n; rw [ih fun i hi => h i (by omega), h n (by omega)]
theorem zsum_ge {f : Int → Int} {n : Nat} {a : Int} (h : ∀ i : Nat, i < n → a ≤ f i) : (n : Int) * a ≤ zsum f n := by
  induction n with
  | zero => show ((0 : Nat) : Int) * a ≤ 0; simp
  | succ n ih =>
    have h1 := ih fun i hi => h i (by omega)
    have h2 := h n (by omega)
    show ((n + 1 : Nat) : Int) * a ≤ zsum f n + f n
    rw [Int.natCast_add, Int.add_mul]
    simp only [Int.natCast_one, Int.one_mul]
    omega
theorem zsum_le {f : Int → Int} {n : Nat} {a : Int} (h : ∀ i : Nat, i < n → f i ≤ a) : zsum f n ≤ (n : Int) * a := by
  induction n with
  | zero => show 0 ≤ ((0 : Nat) : Int) * a; simp
  | succ n ih =>
    have h1 := ih fun i hi => h i (by omega)
    have h2 := h n (by omega)
    show zsum f n + f n ≤ ((n + 1 : Nat) : Int) * a
    rw [Int.natCast_add, Int.add_mul]
    simp only [Int.natCast_one, Int.one_mul]
    omega
def zmax (f : Int → Int) : Nat → Int
  | 0 => 0
  | n + 1 => max (zmax f n) (f n)
theorem zmax_congr {f g : Int → Int} {n : Nat} (h : ∀ i : Nat, i < n → f i = g i) : zmax f n = zmax g n := by
  induction n with
  | zero => rfl
  | succ n ih => show max (zmax f n) (f n) = max (zmax g n) (g n); rw [ih fun i hi => h i (by omega), h n (by omega)]
theorem zmax_ge {f : Int → Int} {n : Nat} : 0 ≤ zmax f n := by
  induction n with
  | zero => exact Int.le_refl _
  | succ n ih => show 0 ≤ max (zmax f n) (f n); omega
theorem zmax_le {f : Int → Int} {n : Nat} {a : Int} (ha : 0 ≤ a) (h : ∀ i : Nat, i < n → f i ≤ a) : zmax f n ≤ a := by
  induction n with
  | zero => exact ha
  | succ n ih =>
    have h1 := ih fun i hi => h i (by omega)
    have h2 := h n (by omega)
    show max (zmax f n) (f n) ≤ a
    omega
end ZP
