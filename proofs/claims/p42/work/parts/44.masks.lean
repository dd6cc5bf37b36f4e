/-! sets of places, as numbers below 16 -/
section ZMk
variable {N : Int → Int}
theorem i32_small : ∀ a : Fin 32, (Int32.ofInt ((a : Nat) : Int)).toInt = ((a : Nat) : Int) := by decide +kernel
theorem bit_or : ∀ a b : Fin 16, (Int32.ofInt ((a : Nat) : Int) ||| Int32.ofInt ((b : Nat) : Int)).toInt = (((a : Nat) ||| (b : Nat) : Nat) : Int) := by decide +kernel
theorem bit_xor : ∀ a b : Fin 16, (Int32.ofInt ((a : Nat) : Int) ^^^ Int32.ofInt ((b : Nat) : Int)).toInt = (((a : Nat) ^^^ (b : Nat) : Nat) : Int) := by decide +kernel
theorem bit_sub : ∀ a b : Fin 16, (Int32.ofInt ((a : Nat) : Int) &&& Int32.ofInt (Int32.ofInt ((b : Nat) : Int) ^^^ Int32.ofInt (-1)).toInt).toInt = (((a : Nat) - ((a : Nat) &&& (b : Nat)) : Nat) : Int) := by decide +kernel
theorem bit_shl : ∀ k : Fin 4, (Int32.ofInt 1 <<< (Int32.ofInt ((k : Nat) : Int) &&& 31)).toInt = ((2 ^ (k : Nat) : Nat) : Int) := by decide +kernel
theorem or_lt : ∀ a b : Fin 16, (a : Nat) ||| (b : Nat) < 16 := by decide +kernel
theorem xor_lt : ∀ a b : Fin 16, (a : Nat) ^^^ (b : Nat) < 16 := by decide +kernel
/-- one set within another -/
def msub (a b : Nat) : Prop := a - (a &&& b) = 0
theorem msub_bit : ∀ a b : Fin 16, ∀ k : Fin 4, msub a b → (a : Nat).testBit k = true → (b : Nat).testBit k = true := by
  have h : ∀ a b : Fin 16, ∀ k : Fin 4, (a : Nat) - ((a : Nat) &&& (b : Nat)) = 0 → (a : Nat).testBit k = true → (b : Nat).testBit k = true := by decide +kernel
  exact h
theorem msub_of : ∀ a b : Fin 16, (∀ k : Fin 4, (a : Nat).testBit k = true → (b : Nat).testBit k = true) → msub a b := by
  have h : ∀ a b : Fin 16, (∀ k : Fin 4, (a : Nat).testBit k = true → (b : Nat).testBit k = true) → (a : Nat) - ((a : Nat) &&& (b : Nat)) = 0 := by decide +kernel
  exact h
theorem msub_le : ∀ a b : Fin 16, msub a b → (a : Nat) ≤ b := by
  have h : ∀ a b : Fin 16, (a : Nat) - ((a : Nat) &&& (b : Nat)) = 0 → (a : Nat) ≤ b := by decide +kernel
  exact h
theorem mxor_bit : ∀ a b : Fin 16, ∀ k : Fin 4, ((a : Nat) ^^^ (b : Nat)).testBit k = ((a : Nat).testBit k ^^ (b : Nat).testBit k) := by decide +kernel
theorem mor_bit : ∀ a b : Fin 16, ∀ k : Fin 4, ((a : Nat) ||| (b : Nat)).testBit k = ((a : Nat).testBit k || (b : Nat).testBit k) := by decide +kernel
theorem mxor_lt : ∀ a b : Fin 16, msub b a → 0 < (b : Nat) → (a : Nat) ^^^ (b : Nat) < a := by
  have h : ∀ a b : Fin 16, (b : Nat) - ((b : Nat) &&& (a : Nat)) = 0 → 0 < (b : Nat) → (a : Nat) ^^^ (b : Nat) < a := by decide +kernel
  exact h
theorem mxor_0 : ∀ a : Fin 16, (a : Nat) ^^^ 0 = a := by decide +kernel
theorem mext : ∀ a b : Fin 16, (∀ k : Fin 4, (a : Nat).testBit k = (b : Nat).testBit k) → (a : Nat) = b := by decide +kernel
def msk4 (a b c d : Bool) : Nat := a.toNat + 2 * b.toNat + 4 * c.toNat + 8 * d.toNat
theorem msk4_lt (a b c d : Bool) : msk4 a b c d < 16 := by
  cases a <;> cases b <;> cases c <;> cases d <;> decide
theorem msk4_bit (a b c d : Bool) : (msk4 a b c d).testBit 0 = a ∧ (msk4 a b c d).testBit 1 = b ∧ (msk4 a b c d).testBit 2 = c ∧ (msk4 a b c d).testBit 3 = d := by
  cases a <;> cases b <;> cases c <;> cases d <;> decide
/-- the places below n of which p holds -/
def msk (p : Nat → Bool) (n : Nat) : Nat := msk4 (decide (0 < n) && p 0) (decide (1 < n) && p 1) (decide (2 < n) && p 2) (decide (3 < n) && p 3)
theorem msk_lt (p : Nat → Bool) (n : Nat) : msk p n < 16 := msk4_lt _ _ _ _
theorem msk_bit (p : Nat → Bool) (n k : Nat) (hk : k < 4) : (msk p n).testBit k = (decide (k < n) && p k) := by
  obtain ⟨a, b, c, d⟩ := msk4_bit (decide (0 < n) && p 0) (decide (1 < n) && p 1) (decide (2 < n) && p 2) (decide (3 < n) && p 3)
  unfold msk
  match k, hk with
  | 0, _ => exact a
  | 1, _ => exact b
  | 2, _ => exact c
  | 3, _ => exact d
theorem mext' {a b : Nat} (ha : a < 16) (hb : b < 16) (h : ∀ k : Nat, k < 4 → a.testBit k = b.testBit k) : a = b := mext ⟨a, ha⟩ ⟨b, hb⟩ fun k => h k k.2
theorem msub_b {a b k : Nat} (ha : a < 16) (hb : b < 16) (hk : k < 4) (h : msub a b) : a.testBit k = true → b.testBit k = true := msub_bit ⟨a, ha⟩ ⟨b, hb⟩ ⟨k, hk⟩ h
theorem msub_o {a b : Nat} (ha : a < 16) (hb : b < 16) (h : ∀ k : Nat, k < 4 → a.testBit k = true → b.testBit k = true) : msub a b := msub_of ⟨a, ha⟩ ⟨b, hb⟩ fun k => h k k.2
theorem mxor_b {a b k : Nat} (ha : a < 16) (hb : b < 16) (hk : k < 4) : (a ^^^ b).testBit k = (a.testBit k ^^ b.testBit k) := mxor_bit ⟨a, ha⟩ ⟨b, hb⟩ ⟨k, hk⟩
theorem mor_b {a b k : Nat} (ha : a < 16) (hb : b < 16) (hk : k < 4) : (a ||| b).testBit k = (a.testBit k || b.testBit k) := mor_bit ⟨a, ha⟩ ⟨b, hb⟩ ⟨k, hk⟩
theorem mxor_o {a b c : Nat} (ha : a < 16) (hb : b < 16) (hc : c < 16) (h1 : msub a c) (h2 : msub b c) : msub (a ^^^ b) c := msub_o (xor_lt ⟨a, ha⟩ ⟨b, hb⟩) hc fun k hk e => by
  rw [mxor_b ha hb hk] at e
  cases x : a.testBit k with
  | true => exact msub_b ha hc hk h1 x
  | false =>
    rw [x, Bool.false_xor] at e
    exact msub_b hb hc hk h2 e
/-- the room of a set, its count -/
def capM (N : Int → Int) (h : Int) (m : Nat) : Int := zsum (fun k => if m.testBit k.toNat = true then mCap N (rk N h k) else 0) 4
def popM (m : Nat) : Int := zsum (fun k => if m.testBit k.toNat = true then 1 else 0) 4
def tkM (N : Int → Int) (h : Int) (f : Int) (m : Nat) : Int := min (mDem N f * 7) (capM N h m * 7) * mH N h 0
def gM (N : Int → Int) (h : Int) (lim : Int → Int) (f : Int) (m : Nat) : Int := if popM m ≤ lim f then tkM N h f m - mShare N h f (tkM N h f m) else -1
def tm (t : Int → Int) (f : Int) (n : Nat) : Nat := msk (fun k => decide (t k = f)) n
theorem zsum_4 {n : Nat} (hn : n ≤ 4) {y : Int → Int} (h0 : ∀ k : Nat, n ≤ k → k < 4 → y k = 0) : zsum y n = zsum y 4 := by
  have key : ∀ m : Nat, n ≤ m → m ≤ 4 → zsum y n = zsum y m := by
    intro m
    induction m with
    | zero => intro a b; have : n = 0 := by omega
              subst this; rfl
    | succ m ih =>
      intro a b
      by_cases e : n = m + 1
      · subst e; rfl
      · rw [ih (by omega) (by omega)]
        show _ = zsum y m + y m
        rw [h0 m (by omega) (by omega)]
        omega
  exact key 4 hn (Nat.le_refl _)
theorem capM_tm {h : Int} {t : Int → Int} {f : Int} (h4 : nn N h ≤ 4) : capM N h (tm t f (nn N h)) = pRoom N h t f (nn N h) := by
  have e : pRoom N h t f (nn N h) = zsum (fun k => if (tm t f (nn N h)).testBit k.toNat = true then mCap N (rk N h k) else 0) (nn N h) := zsum_congr fun k hk => by
    have b : (tm t f (nn N h)).testBit ((k : Int)).toNat = decide (t k = f) := by
      unfold tm
      rw [show ((k : Int)).toNat = k from rfl, msk_bit _ _ _ (by omega), decide_eq_true hk, Bool.true_and]
    by_cases z : t k = f
    · rw [if_pos z, if_pos (by rw [b]; exact decide_eq_true z)]
    · rw [if_neg z, if_neg (by rw [b, decide_eq_false z]; decide)]
  rw [e]
  refine (zsum_4 h4 fun k h1 h2 => ?_).symm
  unfold tm
  rw [show ((k : Int)).toNat = k from rfl, msk_bit _ _ _ h2, decide_eq_false (by omega), Bool.false_and]
  rfl
theorem popM_tm {t : Int → Int} {f : Int} {n : Nat} (h4 : n ≤ 4) : popM (tm t f n) = pCnt t f n := by
  have e : pCnt t f n = zsum (fun k => if (tm t f n).testBit k.toNat = true then 1 else 0) n := zsum_congr fun k hk => by
    unfold tm zb
    rw [show ((k : Int)).toNat = k from rfl, msk_bit _ _ _ (by omega), decide_eq_true hk, Bool.true_and]
    simp only [decide_eq_true_iff]
  rw [e]
  refine (zsum_4 h4 fun k h1 h2 => ?_).symm
  unfold tm
  rw [show ((k : Int)).toNat = k from rfl, msk_bit _ _ _ h2, decide_eq_false (by omega), Bool.false_and]
  rfl
/-- a film's gain is that of the set of its places -/
theorem pG1_gM (hV : mV N) (hQ : mC4 N) {h : Int} (h0 : 0 ≤ h) (h1 : h < 4) {lim t : Int → Int} {f : Int} (f0 : 0 ≤ f) (f1 : f < N 2) : pG1 N h lim t f = gM N h lim f (tm t f (nn N h)) := by
  have hn := hV.n
  have h4 := (nn_eq hQ h).2
  have ec := capM_tm (t := t) (f := f) h4
  have ep := popM_tm (t := t) (f := f) h4
  have et : tkM N h f (tm t f (nn N h)) = pTk N h t f := by
    unfold tkM pTk
    rw [ec, show min (mDem N f * 7) (pRoom N h t f (nn N h) * 7) = 7 * min (mDem N f) (pRoom N h t f (nn N h)) by omega]
  unfold pG1 gM
  rw [ep, et]
  by_cases c : lim f < pCnt t f (nn N h)
  · rw [if_pos c, if_neg (by omega)]
  · rw [if_neg c, if_pos (show pCnt t f (nn N h) ≤ lim f by omega)]
    by_cases z : pCnt t f (nn N h) = 0
    · rw [if_pos z]
      have r : pRoom N h t f (nn N h) = 0 := by
        have key : ∀ m : Nat, m ≤ nn N h → pCnt t f m = 0 → pRoom N h t f m = 0 := by
          intro m
          induction m with
          | zero => intro _ _; rfl
          | succ m ih =>
            intro hm hz
            have b := pCnt_b t f m
            have g := zb_ge (t m = f)
            have hz2 : pCnt t f m + zb (t m = f) = 0 := hz
            show pRoom N h t f m + (if t m = f then mCap N (rk N h m) else 0) = 0
            have nt : ¬ t m = f := fun e => by rw [← zbT e] at hz2; omega
            rw [ih (by omega) (by omega), if_neg nt]
            rfl
        exact key _ (Nat.le_refl _) z
      have d := mDem_b hV f0 (by omega) (mAge N f).toNat
      have dz : pTk N h t f = 0 := by
        unfold pTk
        rw [r, show min (mDem N f) 0 = 0 by unfold mDem; omega]
        simp
      rw [dz, mShare_0 hV f0 (by omega)]
      rfl
    · rw [if_neg z]
/-- what of the places has been given to the films before f: the open ones in S -/
def PA (ch : Int → Int) (n f S : Nat) (t : Int → Int) : Prop := ∀ k : Nat, k < n → (ch k ≠ -2 → t k = ch k) ∧ (ch k = -2 → (S.testBit k = true → 0 ≤ t k ∧ t k < f) ∧ (S.testBit k = false → t k = -1))
def opn (ch : Int → Int) (n : Nat) : Nat := msk (fun k => decide (ch k = -2)) n
def DPc (N : Int → Int) (h : Int) (lim ch : Int → Int) (f S : Nat) (v : Int) : Prop := -1 ≤ v ∧ (∀ t, PA ch (nn N h) f S t → pGN N h lim t f ≤ v) ∧ (v = -1 ∨ ∃ t, PA ch (nn N h) f S t ∧ pGN N h lim t f = v)
theorem opn_bit (ch : Int → Int) (n k : Nat) (hk : k < 4) : (opn ch n).testBit k = (decide (k < n) && decide (ch k = -2)) := msk_bit _ _ _ hk
theorem pGN_congr {h : Int} {lim t u : Int → Int} {f : Nat} (e : ∀ g : Nat, g < f → pG1 N h lim t g = pG1 N h lim u g) : pGN N h lim t f = pGN N h lim u f := by
  induction f with
  | zero => rfl
  | succ f ih => unfold pGN; rw [ih fun g hg => e g (by omega), e f (by omega)]
/-- one more film -/
theorem DP_step (hV : mV N) (hQ : mC4 N) {h : Int} (h0 : 0 ≤ h) (h1 : h < 4) {lim ch : Int → Int} {f S : Nat} (hf : f < nF N) (hS : S < 16) (hSo : msub S (opn ch (nn N h))) {arr fg : Nat → Int} (D : ∀ R, R < 16 → msub R (opn ch (nn N h)) → DPc N h lim ch f R (arr R)) (hfg : ∀ P, P < 16 → msub P (opn ch (nn N h)) → fg P = gM N h lim f (tm ch f (nn N h) ||| P)) {v : Int}
    (up : ∀ P, P < 16 → msub P S → 0 ≤ fg P → 0 ≤ arr (S ^^^ P) → fg P + arr (S ^^^ P) ≤ v) (at_ : v = -1 ∨ ∃ P, P < 16 ∧ msub P S ∧ 0 ≤ fg P ∧ 0 ≤ arr (S ^^^ P) ∧ fg P + arr (S ^^^ P) = v) (v1 : -1 ≤ v) : DPc N h lim ch (f + 1) S v := by
  have hn := hV.n
  have hF := nF_eq hV
  have h4 := (nn_eq hQ h).2
  have ob := opn_bit ch (nn N h)
  have olt : opn ch (nn N h) < 16 := msk_lt _ _
  have clt : tm ch f (nn N h) < 16 := msk_lt _ _
  refine ⟨v1, fun t ht => ?_, ?_⟩
  · -- the places of film f among the open ones
    let P := msk (fun k => decide (ch k = -2 ∧ t k = f)) (nn N h)
    have Plt : P < 16 := msk_lt _ _
    have Pb : ∀ k : Nat, k < 4 → P.testBit k = (decide (k < nn N h) && decide (ch k = -2 ∧ t k = f)) := fun k hk => msk_bit _ _ _ hk
    have PS : msub P S := msub_o Plt hS fun k hk hb => by
      rw [Pb k hk, Bool.and_eq_true, decide_eq_true_iff, decide_eq_true_iff] at hb
      cases e : S.testBit k with
      | true => rfl
      | false => have := ((ht k hb.1).2 hb.2.1).2 e; have := hb.2.2; omega
    have PO : msub P (opn ch (nn N h)) := msub_o Plt olt fun k hk hb => by
      rw [Pb k hk, Bool.and_eq_true, decide_eq_true_iff, decide_eq_true_iff] at hb
      rw [ob k hk, Bool.and_eq_true, decide_eq_true_iff, decide_eq_true_iff]
      exact ⟨hb.1, hb.2.1⟩
    let u : Int → Int := fun k => if ch k = -2 ∧ t k = f then -1 else t k
    have hu : PA ch (nn N h) f (S ^^^ P) u := fun k hk => by
      have q := ht k hk
      have k4 : k < 4 := by omega
      refine ⟨fun c => ?_, fun c => ⟨fun b => ?_, fun b => ?_⟩⟩
      · show (if ch k = -2 ∧ t k = f then -1 else t k) = ch k
        rw [if_neg (fun z => c z.1)]; exact q.1 c
      · rw [mxor_b hS Plt k4, Pb k k4, decide_eq_true hk, Bool.true_and] at b
        show 0 ≤ (if ch k = -2 ∧ t k = f then -1 else t k) ∧ (if ch k = -2 ∧ t k = f then -1 else t k) < f
        by_cases z : ch k = -2 ∧ t k = f
        · rw [decide_eq_true z] at b
          have e : S.testBit k = false := by cases e : S.testBit k with
            | true => rw [e] at b; exact absurd b (by decide)
            | false => rfl
          have := (q.2 c).2 e
          omega
        · rw [if_neg z]
          rw [decide_eq_false z, Bool.xor_false] at b
          have := (q.2 c).1 b
          have : t k ≠ f := fun w => z ⟨c, w⟩
          omega
      · rw [mxor_b hS Plt k4, Pb k k4, decide_eq_true hk, Bool.true_and] at b
        show (if ch k = -2 ∧ t k = f then -1 else t k) = -1
        by_cases z : ch k = -2 ∧ t k = f
        · rw [if_pos z]
        · rw [if_neg z]
          rw [decide_eq_false z, Bool.xor_false] at b
          exact (q.2 c).2 b
    have eg : ∀ g : Nat, g < f → pG1 N h lim t g = pG1 N h lim u g := fun g hg => by
      have e : ∀ k : Nat, k < nn N h → (t k = g ↔ u k = g) := fun k hk => by
        show t k = g ↔ (if ch k = -2 ∧ t k = f then -1 else t k) = g
        by_cases z : ch k = -2 ∧ t k = f
        · rw [if_pos z]
          have := z.2
          omega
        · rw [if_neg z]
      have r : pRoom N h t g (nn N h) = pRoom N h u g (nn N h) := zsum_congr fun k hk => by
        by_cases z : t k = g
        · rw [if_pos z, if_pos ((e k hk).mp z)]
        · rw [if_neg z, if_neg fun w => z ((e k hk).mpr w)]
      have c : pCnt t g (nn N h) = pCnt u g (nn N h) := zsum_congr fun k hk => zb_congr (e k hk)
      unfold pG1 pTk
      rw [r, c]
    have em : tm t f (nn N h) = tm ch f (nn N h) ||| P := by
      refine mext' (msk_lt _ _) (or_lt ⟨_, clt⟩ ⟨_, Plt⟩) fun k hk => ?_
      have x : (tm t f (nn N h)).testBit k = (decide (k < nn N h) && decide (t k = f)) := msk_bit _ _ _ hk
      have y : (tm ch f (nn N h)).testBit k = (decide (k < nn N h) && decide (ch k = f)) := msk_bit _ _ _ hk
      rw [mor_b clt Plt hk, x, y, Pb k hk]
      by_cases hkn : k < nn N h
      · rw [decide_eq_true hkn, Bool.true_and, Bool.true_and, Bool.true_and, ← Bool.decide_or]
        refine decide_eq_decide.mpr ?_
        have q := ht k hkn
        by_cases c : ch k = -2
        · constructor
          · intro w; exact Or.inr ⟨c, w⟩
          · intro w; rcases w with w | w
            · omega
            · exact w.2
        · rw [q.1 c]
          constructor
          · intro w; exact Or.inl w
          · intro w; rcases w with w | w
            · exact w
            · exact w.2
      · rw [decide_eq_false hkn]; rfl
    have g1 := pG1_gM hV hQ h0 h1 (lim := lim) (t := t) (f := (f : Int)) (by omega) (by omega)
    rw [em, ← hfg P Plt PO] at g1
    have pp := pG1_p hV hQ h0 h1 lim t (f := (f : Int)) (by omega) (by omega)
    have pb := pGN_b hV hQ h0 h1 lim t (m := f) (by omega)
    have du := (D (S ^^^ P) (xor_lt ⟨S, hS⟩ ⟨P, Plt⟩) (mxor_o hS Plt olt hSo PO)).2.1 u hu
    rw [← pGN_congr eg] at du
    show (if pGN N h lim t f = -1 ∨ pG1 N h lim t f = -1 then -1 else pGN N h lim t f + pG1 N h lim t f) ≤ v
    by_cases z : pGN N h lim t f = -1 ∨ pG1 N h lim t f = -1
    · rw [if_pos z]; exact v1
    · rw [if_neg z]
      have := up P Plt PS (by omega) (by omega)
      omega
  · rcases at_ with z | ⟨P, Plt, PS, p1, p2, p3⟩
    · exact Or.inl z
    · right
      have PO0 : msub P (opn ch (nn N h)) := msub_o Plt olt fun k hk hb => msub_b hS olt hk hSo (msub_b Plt hS hk PS hb)
      rcases (D (S ^^^ P) (xor_lt ⟨S, hS⟩ ⟨P, Plt⟩) (mxor_o hS Plt olt hSo PO0)).2.2 with z | ⟨u, hu, eu⟩
      · omega
      · have PO : msub P (opn ch (nn N h)) := msub_o Plt olt fun k hk hb => msub_b hS olt hk hSo (msub_b Plt hS hk PS hb)
        let t : Int → Int := fun k => if P.testBit k.toNat = true then f else u k
        have Pop : ∀ k : Nat, k < nn N h → P.testBit k = true → ch k = -2 := fun k hk hb => by
          have := msub_b Plt olt (by omega) PO hb
          rw [ob k (by omega), Bool.and_eq_true, decide_eq_true_iff, decide_eq_true_iff] at this
          exact this.2
        have tk : ∀ k : Nat, t k = if P.testBit k = true then (f : Int) else u k := fun k => rfl
        refine ⟨t, fun k hk => ?_, ?_⟩
        · have q := hu k hk
          have k4 : k < 4 := by omega
          rw [tk]
          refine ⟨fun c => ?_, fun c => ⟨fun b => ?_, fun b => ?_⟩⟩
          · rw [if_neg (fun w => c (Pop k hk w))]; exact q.1 c
          · by_cases w : P.testBit k = true
            · rw [if_pos w]; omega
            · rw [if_neg w]
              have wf : P.testBit k = false := by cases e : P.testBit k with
                | true => exact absurd e w
                | false => rfl
              have := (q.2 c).1 (by rw [mxor_b hS Plt k4, b, wf]; rfl)
              omega
          · by_cases w : P.testBit k = true
            · have := msub_b Plt hS k4 PS w; rw [b] at this; exact absurd this (by decide)
            · rw [if_neg w]
              have wf : P.testBit k = false := by cases e : P.testBit k with
                | true => exact absurd e w
                | false => rfl
              exact (q.2 c).2 (by rw [mxor_b hS Plt k4, b, wf]; rfl)
        · have uP : ∀ k : Nat, k < nn N h → P.testBit k = true → u k = -1 := fun k hk hb => by
            have q := hu k hk
            exact (q.2 (Pop k hk hb)).2 (by rw [mxor_b hS Plt (by omega), hb, msub_b Plt hS (by omega) PS hb]; rfl)
          have eg : ∀ g : Nat, g < f → pG1 N h lim t g = pG1 N h lim u g := fun g hg => by
            have e : ∀ k : Nat, k < nn N h → (t k = g ↔ u k = g) := fun k hk => by
              rw [tk]
              by_cases w : P.testBit k = true
              · rw [if_pos w, uP k hk w]; omega
              · rw [if_neg w]
            have r : pRoom N h t g (nn N h) = pRoom N h u g (nn N h) := zsum_congr fun k hk => by
              by_cases z : t k = g
              · rw [if_pos z, if_pos ((e k hk).mp z)]
              · rw [if_neg z, if_neg fun w => z ((e k hk).mpr w)]
            have c : pCnt t g (nn N h) = pCnt u g (nn N h) := zsum_congr fun k hk => zb_congr (e k hk)
            unfold pG1 pTk
            rw [r, c]
          have em : tm t f (nn N h) = tm ch f (nn N h) ||| P := by
            refine mext' (msk_lt _ _) (or_lt ⟨_, clt⟩ ⟨_, Plt⟩) fun k hk => ?_
            have x : (tm t f (nn N h)).testBit k = (decide (k < nn N h) && decide (t k = f)) := msk_bit _ _ _ hk
            have y : (tm ch f (nn N h)).testBit k = (decide (k < nn N h) && decide (ch k = f)) := msk_bit _ _ _ hk
            rw [mor_b clt Plt hk, x, y]
            by_cases hkn : k < nn N h
            · rw [decide_eq_true hkn, Bool.true_and, Bool.true_and, tk]
              by_cases w : P.testBit k = true
              · rw [if_pos w, w, Bool.or_true, decide_eq_true rfl]
              · have wf : P.testBit k = false := by cases e : P.testBit k with
                  | true => exact absurd e w
                  | false => rfl
                rw [if_neg w, wf, Bool.or_false]
                refine decide_eq_decide.mpr ?_
                have q := hu k hkn
                by_cases c : ch k = -2
                · have : u k ≠ f := fun z => by
                    cases e : (S ^^^ P).testBit k with
                    | true => have := (q.2 c).1 e; omega
                    | false => have := (q.2 c).2 e; omega
                  constructor
                  · intro z; exact absurd z this
                  · intro z; omega
                · rw [q.1 c]
            · have pf : P.testBit k = false := by cases e : P.testBit k with
                | true => have := msub_b Plt olt hk PO e
                          rw [ob k hk, decide_eq_false hkn, Bool.false_and] at this
                          exact absurd this (by decide)
                | false => rfl
              rw [decide_eq_false hkn, pf]; rfl
          have g1 := pG1_gM hV hQ h0 h1 (lim := lim) (t := t) (f := (f : Int)) (by omega) (by omega)
          rw [em, ← hfg P Plt PO] at g1
          show (if pGN N h lim t f = -1 ∨ pG1 N h lim t f = -1 then -1 else pGN N h lim t f + pG1 N h lim t f) = v
          rw [pGN_congr eg, eu, g1, if_neg (by omega)]
          omega
/-- a set that isn't open is never reached -/
theorem DP_out {h : Int} {lim ch : Int → Int} {f S : Nat} (hS : S < 16) (h4 : nn N h ≤ 4) (hSo : ¬ msub S (opn ch (nn N h))) : msub S (opn ch (nn N h)) ∨ True := Or.inr trivial
/-- before the first film -/
theorem DP_0 {h : Int} {lim ch : Int → Int} (h4 : nn N h ≤ 4) {S : Nat} (hS : S < 16) {v : Int} (hv : v = if S = 0 then 0 else -1) (hSo : msub S (opn ch (nn N h))) : DPc N h lim ch 0 S v := by
  have ob := opn_bit ch (nn N h)
  by_cases c : S = 0
  · subst c
    rw [if_pos rfl] at hv
    subst hv
    refine ⟨by decide, fun t _ => Int.le_refl _, Or.inr ⟨fun k => if ch k = -2 then -1 else ch k, fun k hk => ⟨fun z => if_neg z, fun z => ⟨fun b => ?_, fun _ => if_pos z⟩⟩, rfl⟩⟩
    rw [Nat.zero_testBit] at b
    exact absurd b (by decide)
  · rw [if_neg c] at hv
    subst hv
    refine ⟨by decide, fun t ht => ?_, Or.inl rfl⟩
    exfalso
    refine c (mext' hS (by decide) fun k hk => ?_)
    rw [Nat.zero_testBit]
    cases e : S.testBit k with
    | false => rfl
    | true =>
      have o := msub_b hS (msk_lt _ _) hk hSo e
      rw [show (msk (fun k => decide (ch k = -2)) (nn N h)) = opn ch (nn N h) from rfl, ob k hk, Bool.and_eq_true, decide_eq_true_iff, decide_eq_true_iff] at o
      have := ((ht k o.1).2 o.2).1 e
      omega
/-- behind the last film: the greatest of all sets -/
theorem DP_end (hV : mV N) (hQ : mC4 N) {h : Int} (h0 : 0 ≤ h) (h1 : h < 4) {lim ch : Int → Int} {arr : Nat → Int} (D : ∀ S, S < 16 → msub S (opn ch (nn N h)) → DPc N h lim ch (nF N) S (arr S)) (D2 : ∀ S, S < 16 → ¬ msub S (opn ch (nn N h)) → arr S = -1) {b : Int} (up : ∀ S, S < 16 → arr S ≤ b) (at_ : b = -1 ∨ ∃ S, S < 16 ∧ arr S = b) : pMax N h lim ch b := by
  have hn := hV.n
  have hF := nF_eq hV
  have h4 := (nn_eq hQ h).2
  have ob := opn_bit ch (nn N h)
  have olt : opn ch (nn N h) < 16 := msk_lt _ _
  have upper : ∀ t, pVc (N 2) ch (nn N h) t → pG N h lim t ≤ b := fun t ht => by
    let S := msk (fun k => decide (ch k = -2 ∧ 0 ≤ t k)) (nn N h)
    have Sb : ∀ k : Nat, k < 4 → S.testBit k = (decide (k < nn N h) && decide (ch k = -2 ∧ 0 ≤ t k)) := fun k hk => msk_bit _ _ _ hk
    have Slt : S < 16 := msk_lt _ _
    have So : msub S (opn ch (nn N h)) := msub_o Slt olt fun k hk hb => by
      rw [Sb k hk, Bool.and_eq_true, decide_eq_true_iff, decide_eq_true_iff] at hb
      rw [ob k hk, Bool.and_eq_true, decide_eq_true_iff, decide_eq_true_iff]
      exact ⟨hb.1, hb.2.1⟩
    have pa : PA ch (nn N h) (nF N) S t := fun k hk => by
      have q := ht k hk
      refine ⟨q.2, fun c => ⟨fun e => ?_, fun e => ?_⟩⟩
      · rw [Sb k (by omega), Bool.and_eq_true, decide_eq_true_iff, decide_eq_true_iff] at e
        have := q.1 c
        have := e.2.2
        omega
      · rw [Sb k (by omega), decide_eq_true hk, Bool.true_and, decide_eq_false_iff_not] at e
        have := q.1 c
        have : ¬ 0 ≤ t k := fun z => e ⟨c, z⟩
        omega
    exact Int.le_trans ((D S Slt So).2.1 t pa) (up S Slt)
  have pav : ∀ S t, PA ch (nn N h) (nF N) S t → pVc (N 2) ch (nn N h) t := fun S t pa k hk => by
    have q := pa k hk
    refine ⟨fun c => ?_, q.1⟩
    cases e : S.testBit k with
    | true => have := (q.2 c).1 e; omega
    | false => have := (q.2 c).2 e; omega
  have b1 : -1 ≤ b := Int.le_trans (D 0 (by decide) (msub_o (by decide) olt fun k hk e => by rw [Nat.zero_testBit] at e; exact absurd e (by decide))).1 (up 0 (by decide))
  refine ⟨?_, upper⟩
  have low : b = -1 → ∃ t, pVc (N 2) ch (nn N h) t ∧ pG N h lim t = b := fun z => by
    refine ⟨fun k => if ch k = -2 then -1 else ch k, ?_, ?_⟩
    · intro k hk
      exact ⟨fun c => by show -1 ≤ (if ch k = -2 then -1 else ch k) ∧ (if ch k = -2 then -1 else ch k) < N 2; rw [if_pos c]; omega, fun c => if_neg c⟩
    · have q := upper (fun k => if ch k = -2 then -1 else ch k) (fun k hk => ⟨fun c => by show -1 ≤ (if ch k = -2 then -1 else ch k) ∧ (if ch k = -2 then -1 else ch k) < N 2; rw [if_pos c]; omega, fun c => if_neg c⟩)
      have := pG_b hV hQ h0 h1 lim (fun k => if ch k = -2 then -1 else ch k)
      omega
  rcases at_ with z | ⟨S, Slt, e⟩
  · exact low z
  · by_cases So : msub S (opn ch (nn N h))
    · rcases (D S Slt So).2.2 with z | ⟨t, t1, t2⟩
      · exact low (by omega)
      · exact ⟨t, pav S t t1, by unfold pG; omega⟩
    · exact low (by rw [← e]; exact D2 S Slt So)
end ZMk
