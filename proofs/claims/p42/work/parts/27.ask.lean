/-! the class: its questions -/
section ZC3
variable {G : zG} {d : Nat} {σ : zMem} {B : Nat → Nat} {N : Int → Int}
def eNSE : String := "java/util/NoSuchElementException"
def eIAE : String := "java/lang/IllegalArgumentException"
/-- a question's end: 0 with an answer, or thrown -/
def zop (k v : Int) (σ : zMem) : zRes → zMem → Prop := fun r σ1 => (k = 0 ∧ r = .inl (some (zI v)) ∧ σ1 = σ) ∨ (k = 1 ∧ r = .inr eNSE ∧ σ1 = zus σ 1 6) ∨ (k = 2 ∧ r = .inr eIAE ∧ σ1 = zus σ 1 6)
theorem zopR {k v x : Int} (hk : k = 0) (hv : x = v) : zop k v σ (.inl (some (zI x))) σ := Or.inl ⟨hk, by rw [hv], rfl⟩
theorem zopN {k v : Int} (hk : k = 1) : zop k v σ (.inr "java/util/NoSuchElementException") (zus σ 1 6) := Or.inr (Or.inl ⟨hk, rfl, rfl⟩)
theorem zopA {k v : Int} (hk : k = 2) : zop k v σ (.inr "java/lang/IllegalArgumentException") (zus σ 1 6) := Or.inr (Or.inr ⟨hk, rfl, rfl⟩)
/-- the main object -/
def cO (σ : zMem) (B : Nat → Nat) : Prop := cM σ B ∧ zkd σ (B 0) = (0, 11) ∧ B 0 < zn σ ∧ zra σ (B 0) ((0 : Nat) : Int) = some (B 10) ∧ zra σ (B 0) ((3 : Nat) : Int) = some (B 11) ∧ zra σ (B 0) ((4 : Nat) : Int) = some (B 100) ∧ zra σ (B 0) ((5 : Nat) : Int) = some (B 200) ∧ zra σ (B 0) ((6 : Nat) : Int) = some (B 300) ∧ zra σ (B 0) ((7 : Nat) : Int) = some (B 400) ∧ zra σ (B 0) ((8 : Nat) : Int) = some (B 500) ∧ zra σ (B 0) ((9 : Nat) : Int) = some (B 600) ∧ zra σ (B 0) ((10 : Nat) : Int) = some (B 20) ∧ zra σ (B 0) ((11 : Nat) : Int) = some (B 30) ∧ zra σ (B 0) ((12 : Nat) : Int) = some (B 40)
theorem zt_X11_checkHouse {a : Int} (hG : zGd G) (hO : cO σ B) (hR : cR N σ B) (hV : mV N) (h2 : zrg a) : zE G mX11_checkHouse (d + 6) [zR (B 0), zI a] σ (fun r σ1 => if (0 ≤ a ∧ a < N 0) then r = .inl none ∧ σ1 = σ else r = .inr eNSE ∧ σ1 = zus σ 1 6) := by
  refine zE_of rfl (by simp [zcat]) (Nat.le_of_ble_eq_true rfl) ?_
  show zF G mX11_checkHouse (d + 6) 0 [(0, zR (B 0)), (1, zI a)] [] σ _
  have hB := hO.1
  have hb := hV.b
  have hn := hV.n
  refine zF_iload_n 1 dX11_checkHouse_0 rfl rfl ?_
  refine zF_if_lt 15 4 dX11_checkHouse_1 rfl rfl (by first | decide | assumption | exact hb _ | exact mSh_rg hb _ _ | exact zb_rg _ | (constructor <;> omega)) (fun c1 => ?_) (fun c1 => ?_)
  · exact zF_throwW hG rfl zrxN0 zrxN1 zrxN2 zrxN5 zatN zckN zinN (by decide) (by decide) rfl (i := 8) rfl dX11_checkHouse_15 dX11_checkHouse_18 dX11_checkHouse_19 dX11_checkHouse_22 dX11_checkHouse_25 (by omega) (Nat.le_of_ble_eq_true rfl) (by rw [if_neg (by omega)]; exact ⟨rfl, rfl⟩)
  · refine zF_iload_n 5 dX11_checkHouse_4 rfl rfl ?_
    refine zF_aload_n 6 dX11_checkHouse_5 rfl rfl ?_
    refine zF_getR 9 dX11_checkHouse_6 rfl gX11_27 hO.2.1 hO.2.2.1 hO.2.2.2.2.2.1 ?_
    refine zF_getI 12 dX11_checkHouse_9 rfl gX11_155 (by decide) (by decide) hB.ch.1 hB.ch.2.1 hR.c.1.1 ?_
    refine zF_icmp_lt 26 15 dX11_checkHouse_12 rfl rfl (by first | decide | assumption | exact hb _ | exact mSh_rg hb _ _ | exact zb_rg _ | (constructor <;> omega)) (by first | decide | assumption | exact hb _ | exact mSh_rg hb _ _ | exact zb_rg _ | (constructor <;> omega)) (fun c2 => ?_) (fun c2 => ?_)
    · exact zF_return dX11_checkHouse_26 rfl (by rw [if_pos (by omega)]; exact ⟨rfl, rfl⟩)
    · exact zF_throwW hG rfl zrxN0 zrxN1 zrxN2 zrxN5 zatN zckN zinN (by decide) (by decide) rfl (i := 8) rfl dX11_checkHouse_15 dX11_checkHouse_18 dX11_checkHouse_19 dX11_checkHouse_22 dX11_checkHouse_25 (by omega) (Nat.le_of_ble_eq_true rfl) (by rw [if_neg (by omega)]; exact ⟨rfl, rfl⟩)
theorem zt_X11_checkScreen {a : Int} (hG : zGd G) (hO : cO σ B) (hR : cR N σ B) (hV : mV N) (h2 : zrg a) : zE G mX11_checkScreen (d + 6) [zR (B 0), zI a] σ (fun r σ1 => if (0 ≤ a ∧ a < N 1) then r = .inl none ∧ σ1 = σ else r = .inr eNSE ∧ σ1 = zus σ 1 6) := by
  refine zE_of rfl (by simp [zcat]) (Nat.le_of_ble_eq_true rfl) ?_
  show zF G mX11_checkScreen (d + 6) 0 [(0, zR (B 0)), (1, zI a)] [] σ _
  have hB := hO.1
  have hb := hV.b
  have hn := hV.n
  refine zF_iload_n 1 dX11_checkScreen_0 rfl rfl ?_
  refine zF_if_lt 15 4 dX11_checkScreen_1 rfl rfl (by first | decide | assumption | exact hb _ | exact mSh_rg hb _ _ | exact zb_rg _ | (constructor <;> omega)) (fun c1 => ?_) (fun c1 => ?_)
  · exact zF_throwW hG rfl zrxN0 zrxN1 zrxN2 zrxN5 zatN zckN zinN (by decide) (by decide) rfl (i := 9) rfl dX11_checkScreen_15 dX11_checkScreen_18 dX11_checkScreen_19 dX11_checkScreen_22 dX11_checkScreen_25 (by omega) (Nat.le_of_ble_eq_true rfl) (by rw [if_neg (by omega)]; exact ⟨rfl, rfl⟩)
  · refine zF_iload_n 5 dX11_checkScreen_4 rfl rfl ?_
    refine zF_aload_n 6 dX11_checkScreen_5 rfl rfl ?_
    refine zF_getR 9 dX11_checkScreen_6 rfl gX11_27 hO.2.1 hO.2.2.1 hO.2.2.2.2.2.1 ?_
    refine zF_getI 12 dX11_checkScreen_9 rfl gX11_139 (by decide) (by decide) hB.ch.1 hB.ch.2.1 hR.c.1.2.1 ?_
    refine zF_icmp_lt 26 15 dX11_checkScreen_12 rfl rfl (by first | decide | assumption | exact hb _ | exact mSh_rg hb _ _ | exact zb_rg _ | (constructor <;> omega)) (by first | decide | assumption | exact hb _ | exact mSh_rg hb _ _ | exact zb_rg _ | (constructor <;> omega)) (fun c2 => ?_) (fun c2 => ?_)
    · exact zF_return dX11_checkScreen_26 rfl (by rw [if_pos (by omega)]; exact ⟨rfl, rfl⟩)
    · exact zF_throwW hG rfl zrxN0 zrxN1 zrxN2 zrxN5 zatN zckN zinN (by decide) (by decide) rfl (i := 9) rfl dX11_checkScreen_15 dX11_checkScreen_18 dX11_checkScreen_19 dX11_checkScreen_22 dX11_checkScreen_25 (by omega) (Nat.le_of_ble_eq_true rfl) (by rw [if_neg (by omega)]; exact ⟨rfl, rfl⟩)
theorem zt_X11_checkFilm {a : Int} (hG : zGd G) (hO : cO σ B) (hR : cR N σ B) (hV : mV N) (h2 : zrg a) : zE G mX11_checkFilm (d + 6) [zR (B 0), zI a] σ (fun r σ1 => if (0 ≤ a ∧ a < N 2) then r = .inl none ∧ σ1 = σ else r = .inr eNSE ∧ σ1 = zus σ 1 6) := by
  refine zE_of rfl (by simp [zcat]) (Nat.le_of_ble_eq_true rfl) ?_
  show zF G mX11_checkFilm (d + 6) 0 [(0, zR (B 0)), (1, zI a)] [] σ _
  have hB := hO.1
  have hb := hV.b
  have hn := hV.n
  refine zF_iload_n 1 dX11_checkFilm_0 rfl rfl ?_
  refine zF_if_lt 15 4 dX11_checkFilm_1 rfl rfl (by first | decide | assumption | exact hb _ | exact mSh_rg hb _ _ | exact zb_rg _ | (constructor <;> omega)) (fun c1 => ?_) (fun c1 => ?_)
  · exact zF_throwW hG rfl zrxN0 zrxN1 zrxN2 zrxN5 zatN zckN zinN (by decide) (by decide) rfl (i := 10) rfl dX11_checkFilm_15 dX11_checkFilm_18 dX11_checkFilm_19 dX11_checkFilm_22 dX11_checkFilm_25 (by omega) (Nat.le_of_ble_eq_true rfl) (by rw [if_neg (by omega)]; exact ⟨rfl, rfl⟩)
  · refine zF_iload_n 5 dX11_checkFilm_4 rfl rfl ?_
    refine zF_aload_n 6 dX11_checkFilm_5 rfl rfl ?_
    refine zF_getR 9 dX11_checkFilm_6 rfl gX11_27 hO.2.1 hO.2.2.1 hO.2.2.2.2.2.1 ?_
    refine zF_getI 12 dX11_checkFilm_9 rfl gX11_158 (by decide) (by decide) hB.ch.1 hB.ch.2.1 hR.c.1.2.2 ?_
    refine zF_icmp_lt 26 15 dX11_checkFilm_12 rfl rfl (by first | decide | assumption | exact hb _ | exact mSh_rg hb _ _ | exact zb_rg _ | (constructor <;> omega)) (by first | decide | assumption | exact hb _ | exact mSh_rg hb _ _ | exact zb_rg _ | (constructor <;> omega)) (fun c2 => ?_) (fun c2 => ?_)
    · exact zF_return dX11_checkFilm_26 rfl (by rw [if_pos (by omega)]; exact ⟨rfl, rfl⟩)
    · exact zF_throwW hG rfl zrxN0 zrxN1 zrxN2 zrxN5 zatN zckN zinN (by decide) (by decide) rfl (i := 10) rfl dX11_checkFilm_15 dX11_checkFilm_18 dX11_checkFilm_19 dX11_checkFilm_22 dX11_checkFilm_25 (by omega) (Nat.le_of_ble_eq_true rfl) (by rw [if_neg (by omega)]; exact ⟨rfl, rfl⟩)
theorem zt_X11_checkPlace {a : Int} (hG : zGd G) (hO : cO σ B) (hR : cR N σ B) (hV : mV N) (h2 : zrg a) : zE G mX11_checkPlace (d + 6) [zR (B 0), zI a] σ (fun r σ1 => if (-1 ≤ a ∧ a < N 0) then r = .inl none ∧ σ1 = σ else r = .inr eNSE ∧ σ1 = zus σ 1 6) := by
  refine zE_of rfl (by simp [zcat]) (Nat.le_of_ble_eq_true rfl) ?_
  show zF G mX11_checkPlace (d + 6) 0 [(0, zR (B 0)), (1, zI a)] [] σ _
  have hB := hO.1
  have hb := hV.b
  have hn := hV.n
  refine zF_iload_n 1 dX11_checkPlace_0 rfl rfl ?_
  refine zF_iconst 2 dX11_checkPlace_1 rfl ?_
  refine zF_icmp_lt 16 5 dX11_checkPlace_2 rfl rfl (by first | decide | assumption | exact hb _ | exact mSh_rg hb _ _ | exact zb_rg _ | (constructor <;> omega)) (by first | decide | assumption | exact hb _ | exact mSh_rg hb _ _ | exact zb_rg _ | (constructor <;> omega)) (fun c1 => ?_) (fun c1 => ?_)
  · exact zF_throwW hG rfl zrxN0 zrxN1 zrxN2 zrxN5 zatN zckN zinN (by decide) (by decide) rfl (i := 12) rfl dX11_checkPlace_16 dX11_checkPlace_19 dX11_checkPlace_20 dX11_checkPlace_23 dX11_checkPlace_26 (by omega) (Nat.le_of_ble_eq_true rfl) (by rw [if_neg (by omega)]; exact ⟨rfl, rfl⟩)
  · refine zF_iload_n 6 dX11_checkPlace_5 rfl rfl ?_
    refine zF_aload_n 7 dX11_checkPlace_6 rfl rfl ?_
    refine zF_getR 10 dX11_checkPlace_7 rfl gX11_27 hO.2.1 hO.2.2.1 hO.2.2.2.2.2.1 ?_
    refine zF_getI 13 dX11_checkPlace_10 rfl gX11_155 (by decide) (by decide) hB.ch.1 hB.ch.2.1 hR.c.1.1 ?_
    refine zF_icmp_lt 27 16 dX11_checkPlace_13 rfl rfl (by first | decide | assumption | exact hb _ | exact mSh_rg hb _ _ | exact zb_rg _ | (constructor <;> omega)) (by first | decide | assumption | exact hb _ | exact mSh_rg hb _ _ | exact zb_rg _ | (constructor <;> omega)) (fun c2 => ?_) (fun c2 => ?_)
    · exact zF_return dX11_checkPlace_27 rfl (by rw [if_pos (by omega)]; exact ⟨rfl, rfl⟩)
    · exact zF_throwW hG rfl zrxN0 zrxN1 zrxN2 zrxN5 zatN zckN zinN (by decide) (by decide) rfl (i := 12) rfl dX11_checkPlace_16 dX11_checkPlace_19 dX11_checkPlace_20 dX11_checkPlace_23 dX11_checkPlace_26 (by omega) (Nat.le_of_ble_eq_true rfl) (by rw [if_neg (by omega)]; exact ⟨rfl, rfl⟩)
theorem zt_X11_checkDay {a : Int} (hG : zGd G) (hO : cO σ B) (hR : cR N σ B) (hV : mV N) (h2 : zrg a) : zE G mX11_checkDay (d + 6) [zR (B 0), zI a] σ (fun r σ1 => if (0 ≤ a ∧ a < 7) then r = .inl none ∧ σ1 = σ else r = .inr eIAE ∧ σ1 = zus σ 1 6) := by
  refine zE_of rfl (by simp [zcat]) (Nat.le_of_ble_eq_true rfl) ?_
  show zF G mX11_checkDay (d + 6) 0 [(0, zR (B 0)), (1, zI a)] [] σ _
  have hB := hO.1
  have hb := hV.b
  have hn := hV.n
  refine zF_iload_n 1 dX11_checkDay_0 rfl rfl ?_
  refine zF_if_lt 10 4 dX11_checkDay_1 rfl rfl (by first | decide | assumption | exact hb _ | exact mSh_rg hb _ _ | exact zb_rg _ | (constructor <;> omega)) (fun c1 => ?_) (fun c1 => ?_)
  · exact zF_throwW hG rfl zrxA0 zrxA1 zrxA2 zrxA5 zatA zckA zinA (by decide) (by decide) rfl (i := 13) rfl dX11_checkDay_10 dX11_checkDay_13 dX11_checkDay_14 dX11_checkDay_17 dX11_checkDay_20 (by omega) (Nat.le_of_ble_eq_true rfl) (by rw [if_neg (by omega)]; exact ⟨rfl, rfl⟩)
  · refine zF_iload_n 5 dX11_checkDay_4 rfl rfl ?_
    refine zF_bipush 7 dX11_checkDay_5 rfl (by decide) ?_
    refine zF_icmp_lt 21 10 dX11_checkDay_7 rfl rfl (by first | decide | assumption | exact hb _ | exact mSh_rg hb _ _ | exact zb_rg _ | (constructor <;> omega)) (by first | decide | assumption | exact hb _ | exact mSh_rg hb _ _ | exact zb_rg _ | (constructor <;> omega)) (fun c2 => ?_) (fun c2 => ?_)
    · exact zF_return dX11_checkDay_21 rfl (by rw [if_pos (by omega)]; exact ⟨rfl, rfl⟩)
    · exact zF_throwW hG rfl zrxA0 zrxA1 zrxA2 zrxA5 zatA zckA zinA (by decide) (by decide) rfl (i := 13) rfl dX11_checkDay_10 dX11_checkDay_13 dX11_checkDay_14 dX11_checkDay_17 dX11_checkDay_20 (by omega) (Nat.le_of_ble_eq_true rfl) (by rw [if_neg (by omega)]; exact ⟨rfl, rfl⟩)
def sSize (N : Int → Int) (w : Int) : Int := if w = 0 then N 0 else if w = 1 then N 1 else if w = 2 then N 2 else if w = 3 then N 3 else if w = 4 then N 4 else if w = 5 then N 5 else if w = 6 then cBkN N (nS N) else cHdN N (nS N)
def sHouse (N : Int → Int) (h w : Int) : Int := if w = 0 then mH N h 0 else if w = 1 then mH N h 1 else if w = 2 then zsum (fun s => zb (mS N s 0 = h)) (nS N) else if w = 3 then cHouseN N h (nS N) else if w = 4 then cShN N h (nF N) else cHouseN N h (nS N) - cShN N h (nF N) - cRentN N h (nS N)
def sScreen (N : Int → Int) (s w : Int) : Int := if w = 8 then cTake N s else mS N s w
def sFilm (N : Int → Int) (f w : Int) : Int := if w = 4 then mAge N f else if w = 5 then mDem N f else if w = 6 then cFt N f else if w = 7 then mF N f 9 else mF N f w
def sTotal (N : Int → Int) (w : Int) : Int := if w = 4 then N 208 - N 209 - N 210 - N 211 else N (208 + w)
theorem zt_X11_size {w : Int} (hG : zGd G) (hO : cO σ B) (hR : cR N σ B) (hV : mV N) (zw : zrg w) : zE G mX11_size (d + 8) [zR (B 0), zI w] σ (zop (if 0 ≤ w ∧ w ≤ 7 then 0 else 1) (sSize N w) σ) := by
  refine zE_of rfl (by simp [zcat]) (Nat.le_of_ble_eq_true rfl) ?_
  show zF G mX11_size (d + 8) 0 [(0, zR (B 0)), (1, zI w)] [] σ _
  have hB := hO.1
  have hb := hV.b
  have hn := hV.n
  refine zF_iload_n 1 dX11_size_0 rfl rfl ?_
  rcases Decidable.em (w = 0) with sw1 | sw1x0
  · refine zF_swIn 48 dX11_size_1 (by first | decide | assumption | exact hb _ | exact mSh_rg hb _ _ | exact zb_rg _ | (constructor <;> omega)) (by omega) (by omega) (by rw [sw1]; rfl) rfl ?_
    refine zF_aload_n 49 dX11_size_48 rfl rfl ?_
    refine zF_getR 52 dX11_size_49 rfl gX11_27 hO.2.1 hO.2.2.1 hO.2.2.2.2.2.1 ?_
    refine zF_getI 55 dX11_size_52 rfl gX11_155 (by decide) (by decide) hB.ch.1 hB.ch.2.1 hR.c.1.1 ?_
    exact zF_ireturn dX11_size_55 rfl (zopR (by repeat (first | rw [if_pos (by omega)] | rw [if_neg (by omega)])) (by first | rfl | (unfold sSize; repeat (first | rw [if_pos (by omega)] | rw [if_neg (by omega)]))))
  rcases Decidable.em (w = 1) with sw1 | sw1x1
  · refine zF_swIn 56 dX11_size_1 (by first | decide | assumption | exact hb _ | exact mSh_rg hb _ _ | exact zb_rg _ | (constructor <;> omega)) (by omega) (by omega) (by rw [sw1]; rfl) rfl ?_
    refine zF_aload_n 57 dX11_size_56 rfl rfl ?_
    refine zF_getR 60 dX11_size_57 rfl gX11_27 hO.2.1 hO.2.2.1 hO.2.2.2.2.2.1 ?_
    refine zF_getI 63 dX11_size_60 rfl gX11_139 (by decide) (by decide) hB.ch.1 hB.ch.2.1 hR.c.1.2.1 ?_
    exact zF_ireturn dX11_size_63 rfl (zopR (by repeat (first | rw [if_pos (by omega)] | rw [if_neg (by omega)])) (by first | rfl | (unfold sSize; repeat (first | rw [if_pos (by omega)] | rw [if_neg (by omega)]))))
  rcases Decidable.em (w = 2) with sw1 | sw1x2
  · refine zF_swIn 64 dX11_size_1 (by first | decide | assumption | exact hb _ | exact mSh_rg hb _ _ | exact zb_rg _ | (constructor <;> omega)) (by omega) (by omega) (by rw [sw1]; rfl) rfl ?_
    refine zF_aload_n 65 dX11_size_64 rfl rfl ?_
    refine zF_getR 68 dX11_size_65 rfl gX11_27 hO.2.1 hO.2.2.1 hO.2.2.2.2.2.1 ?_
    refine zF_getI 71 dX11_size_68 rfl gX11_158 (by decide) (by decide) hB.ch.1 hB.ch.2.1 hR.c.1.2.2 ?_
    exact zF_ireturn dX11_size_71 rfl (zopR (by repeat (first | rw [if_pos (by omega)] | rw [if_neg (by omega)])) (by first | rfl | (unfold sSize; repeat (first | rw [if_pos (by omega)] | rw [if_neg (by omega)]))))
  rcases Decidable.em (w = 3) with sw1 | sw1x3
  · refine zF_swIn 72 dX11_size_1 (by first | decide | assumption | exact hb _ | exact mSh_rg hb _ _ | exact zb_rg _ | (constructor <;> omega)) (by omega) (by omega) (by rw [sw1]; rfl) rfl ?_
    refine zF_aload_n 73 dX11_size_72 rfl rfl ?_
    refine zF_getR 76 dX11_size_73 rfl gX11_34 hO.2.1 hO.2.2.1 hO.2.2.2.2.2.2.1 ?_
    refine zF_getI 79 dX11_size_76 rfl gX11_161 (by decide) (by decide) hB.st.1 hB.st.2.1 hR.s.1.1 ?_
    exact zF_ireturn dX11_size_79 rfl (zopR (by repeat (first | rw [if_pos (by omega)] | rw [if_neg (by omega)])) (by first | rfl | (unfold sSize; repeat (first | rw [if_pos (by omega)] | rw [if_neg (by omega)]))))
  rcases Decidable.em (w = 4) with sw1 | sw1x4
  · refine zF_swIn 80 dX11_size_1 (by first | decide | assumption | exact hb _ | exact mSh_rg hb _ _ | exact zb_rg _ | (constructor <;> omega)) (by omega) (by omega) (by rw [sw1]; rfl) rfl ?_
    refine zF_aload_n 81 dX11_size_80 rfl rfl ?_
    refine zF_getR 84 dX11_size_81 rfl gX11_34 hO.2.1 hO.2.2.1 hO.2.2.2.2.2.2.1 ?_
    refine zF_getI 87 dX11_size_84 rfl gX11_164 (by decide) (by decide) hB.st.1 hB.st.2.1 hR.s.1.2.2 ?_
    exact zF_ireturn dX11_size_87 rfl (zopR (by repeat (first | rw [if_pos (by omega)] | rw [if_neg (by omega)])) (by first | rfl | (unfold sSize; repeat (first | rw [if_pos (by omega)] | rw [if_neg (by omega)]))))
  rcases Decidable.em (w = 5) with sw1 | sw1x5
  · refine zF_swIn 88 dX11_size_1 (by first | decide | assumption | exact hb _ | exact mSh_rg hb _ _ | exact zb_rg _ | (constructor <;> omega)) (by omega) (by omega) (by rw [sw1]; rfl) rfl ?_
    refine zF_aload_n 89 dX11_size_88 rfl rfl ?_
    refine zF_getR 92 dX11_size_89 rfl gX11_34 hO.2.1 hO.2.2.1 hO.2.2.2.2.2.2.1 ?_
    refine zF_getI 95 dX11_size_92 rfl gX11_167 (by decide) (by decide) hB.st.1 hB.st.2.1 hR.s.1.2.1 ?_
    exact zF_ireturn dX11_size_95 rfl (zopR (by repeat (first | rw [if_pos (by omega)] | rw [if_neg (by omega)])) (by first | rfl | (unfold sSize; repeat (first | rw [if_pos (by omega)] | rw [if_neg (by omega)]))))
  rcases Decidable.em (w = 6) with sw1 | sw1x6
  · refine zF_swIn 96 dX11_size_1 (by first | decide | assumption | exact hb _ | exact mSh_rg hb _ _ | exact zb_rg _ | (constructor <;> omega)) (by omega) (by omega) (by rw [sw1]; rfl) rfl ?_
    refine zF_aload_n 97 dX11_size_96 rfl rfl ?_
    refine zF_getR 100 dX11_size_97 rfl gX11_34 hO.2.1 hO.2.2.1 hO.2.2.2.2.2.2.1 ?_
    refine zF_aload_n 101 dX11_size_100 rfl rfl ?_
    refine zF_getR 104 dX11_size_101 rfl gX11_27 hO.2.1 hO.2.2.1 hO.2.2.2.2.2.1 ?_
    refine zF_getI 107 dX11_size_104 rfl gX11_139 (by decide) (by decide) hB.ch.1 hB.ch.2.1 hR.c.1.2.1 ?_
    refine zF_callVi 110 (d2 := (d + 7)) (as := [zI (N 1)]) dX11_size_107 rfl kX11_170 iX8_countBooked (ci := 8) rfl eX8_countBooked (Nat.le_refl _) hB.st.1 hB.st.2.1 rfl rfl (Nat.le_of_ble_eq_true rfl) (zt_X8_countBooked hB hR hV (by omega)) ?_
    exact zF_ireturn dX11_size_110 rfl (zopR (by repeat (first | rw [if_pos (by omega)] | rw [if_neg (by omega)])) (by first | rfl | (unfold sSize; repeat (first | rw [if_pos (by omega)] | rw [if_neg (by omega)]))))
  rcases Decidable.em (w = 7) with sw1 | sw1x7
  · refine zF_swIn 111 dX11_size_1 (by first | decide | assumption | exact hb _ | exact mSh_rg hb _ _ | exact zb_rg _ | (constructor <;> omega)) (by omega) (by omega) (by rw [sw1]; rfl) rfl ?_
    refine zF_aload_n 112 dX11_size_111 rfl rfl ?_
    refine zF_getR 115 dX11_size_112 rfl gX11_34 hO.2.1 hO.2.2.1 hO.2.2.2.2.2.2.1 ?_
    refine zF_aload_n 116 dX11_size_115 rfl rfl ?_
    refine zF_getR 119 dX11_size_116 rfl gX11_27 hO.2.1 hO.2.2.1 hO.2.2.2.2.2.1 ?_
    refine zF_getI 122 dX11_size_119 rfl gX11_139 (by decide) (by decide) hB.ch.1 hB.ch.2.1 hR.c.1.2.1 ?_
    refine zF_callVi 125 (d2 := (d + 7)) (as := [zI (N 1)]) dX11_size_122 rfl kX11_173 iX8_countHeld (ci := 8) rfl eX8_countHeld (Nat.le_refl _) hB.st.1 hB.st.2.1 rfl rfl (Nat.le_of_ble_eq_true rfl) (zt_X8_countHeld hB hR hV (by omega)) ?_
    exact zF_ireturn dX11_size_125 rfl (zopR (by repeat (first | rw [if_pos (by omega)] | rw [if_neg (by omega)])) (by first | rfl | (unfold sSize; repeat (first | rw [if_pos (by omega)] | rw [if_neg (by omega)]))))
  refine zF_swOut 126 dX11_size_1 (by first | decide | assumption | exact hb _ | exact mSh_rg hb _ _ | exact zb_rg _ | (constructor <;> omega)) (by omega) rfl ?_
  exact zF_throw hG rfl zrxN0 zrxN1 zrxN2 zrxN5 zatN zckN zinN (by decide) (by decide) rfl (i := 7) rfl dX11_size_126 dX11_size_129 dX11_size_130 dX11_size_132 dX11_size_135 (by omega) (Nat.le_of_ble_eq_true rfl) (zopN (by repeat (first | rw [if_pos (by omega)] | rw [if_neg (by omega)])))
theorem zt_X11_house {h w : Int} (hG : zGd G) (hO : cO σ B) (hR : cR N σ B) (hV : mV N) (hW : mW N) (hX : mX N) (zh : zrg h) (zw : zrg w) : zE G mX11_house (d + 8) [zR (B 0), zI h, zI w] σ (zop (if 0 ≤ h ∧ h < N 0 then if 0 ≤ w ∧ w ≤ 5 then 0 else 1 else 1) (sHouse N h w) σ) := by
  refine zE_of rfl (by simp [zcat]) (Nat.le_of_ble_eq_true rfl) ?_
  show zF G mX11_house (d + 8) 0 [(0, zR (B 0)), (1, zI h), (2, zI w)] [] σ _
  have hB := hO.1
  have hb := hV.b
  have hn := hV.n
  refine zF_aload_n 1 dX11_house_0 rfl rfl ?_
  refine zF_iload_n 2 dX11_house_1 rfl rfl ?_
  refine zF_callV 5 (d2 := (d + 7)) (as := [zI h]) dX11_house_2 rfl kX11_181 iX11_checkHouse (ci := 11) rfl eX11_checkHouse (Nat.le_refl _) hO.2.1 hO.2.2.1 rfl rfl (Nat.le_of_ble_eq_true rfl) (zE.mono (zt_X11_checkHouse hG hO hR hV (by first | decide | assumption | exact hb _ | exact mSh_rg hb _ _ | exact zb_rg _ | (constructor <;> omega))) fun ro σx1 hh1 => ?_)
  rcases Decidable.em (0 ≤ h ∧ h < N 0) with kc1 | kc1
  rotate_left
  · rw [if_neg kc1] at hh1; obtain ⟨er1, es1⟩ := hh1; subst er1; subst es1; exact ⟨rfl, by decide, zopN (by repeat (first | rw [if_pos (by omega)] | rw [if_neg (by omega)]))⟩
  rw [if_pos kc1] at hh1; obtain ⟨er1, es1⟩ := hh1; subst er1; replace es1 := es1.symm; subst es1; refine ⟨rfl, ?_⟩
  show zF G mX11_house (d + 8) 5 [(0, zR (B 0)), (1, zI h), (2, zI w)] [] σ _
  refine zF_iload_n 6 dX11_house_5 rfl rfl ?_
  rcases Decidable.em (w = 0) with sw1 | sw1x0
  · refine zF_swIn 44 dX11_house_6 (by first | decide | assumption | exact hb _ | exact mSh_rg hb _ _ | exact zb_rg _ | (constructor <;> omega)) (by omega) (by omega) (by rw [sw1]; rfl) rfl ?_
    refine zF_aload_n 45 dX11_house_44 rfl rfl ?_
    refine zF_getR 48 dX11_house_45 rfl gX11_27 hO.2.1 hO.2.2.1 hO.2.2.2.2.2.1 ?_
    refine zF_getR 51 dX11_house_48 rfl gX11_184 hB.ch.1 hB.ch.2.1 (cB_101 hB).1 ?_
    refine zF_iload_n 52 dX11_house_51 rfl rfl ?_
    refine zF_iaload 53 dX11_house_52 rfl (cB_101 hB).2.2 (cB_101 hB).2.1 (by omega) (by omega) (hR.c.2.1 _ (by omega) (by omega)).1 ?_
    exact zF_ireturn dX11_house_53 rfl (zopR (by repeat (first | rw [if_pos (by omega)] | rw [if_neg (by omega)])) (by first | rfl | (unfold sHouse; repeat (first | rw [if_pos (by omega)] | rw [if_neg (by omega)]))))
  rcases Decidable.em (w = 1) with sw1 | sw1x1
  · refine zF_swIn 54 dX11_house_6 (by first | decide | assumption | exact hb _ | exact mSh_rg hb _ _ | exact zb_rg _ | (constructor <;> omega)) (by omega) (by omega) (by rw [sw1]; rfl) rfl ?_
    refine zF_aload_n 55 dX11_house_54 rfl rfl ?_
    refine zF_getR 58 dX11_house_55 rfl gX11_34 hO.2.1 hO.2.2.1 hO.2.2.2.2.2.2.1 ?_
    refine zF_getR 61 dX11_house_58 rfl gX11_188 hB.st.1 hB.st.2.1 (cB_203 hB).1 ?_
    refine zF_iload_n 62 dX11_house_61 rfl rfl ?_
    refine zF_iaload 63 dX11_house_62 rfl (cB_203 hB).2.2 (cB_203 hB).2.1 (by omega) (by omega) (hR.s.2.1 _ (by omega) (by omega)).1 ?_
    exact zF_ireturn dX11_house_63 rfl (zopR (by repeat (first | rw [if_pos (by omega)] | rw [if_neg (by omega)])) (by first | rfl | (unfold sHouse; repeat (first | rw [if_pos (by omega)] | rw [if_neg (by omega)]))))
  rcases Decidable.em (w = 2) with sw1 | sw1x2
  · refine zF_swIn 64 dX11_house_6 (by first | decide | assumption | exact hb _ | exact mSh_rg hb _ _ | exact zb_rg _ | (constructor <;> omega)) (by omega) (by omega) (by rw [sw1]; rfl) rfl ?_
    refine zF_aload_n 65 dX11_house_64 rfl rfl ?_
    refine zF_getR 68 dX11_house_65 rfl gX11_27 hO.2.1 hO.2.2.1 hO.2.2.2.2.2.1 ?_
    refine zF_getR 71 dX11_house_68 rfl gX11_191 hB.ch.1 hB.ch.2.1 (cB_102 hB).1 ?_
    refine zF_iload_n 72 dX11_house_71 rfl rfl ?_
    refine zF_iaload 73 dX11_house_72 rfl (cB_102 hB).2.2 (cB_102 hB).2.1 (by omega) (by omega) (hR.c.2.1 _ (by omega) (by omega)).2 ?_
    exact zF_ireturn dX11_house_73 rfl (zopR (by repeat (first | rw [if_pos (by omega)] | rw [if_neg (by omega)])) (by first | rfl | (unfold sHouse; repeat (first | rw [if_pos (by omega)] | rw [if_neg (by omega)]))))
  rcases Decidable.em (w = 3) with sw1 | sw1x3
  · refine zF_swIn 74 dX11_house_6 (by first | decide | assumption | exact hb _ | exact mSh_rg hb _ _ | exact zb_rg _ | (constructor <;> omega)) (by omega) (by omega) (by rw [sw1]; rfl) rfl ?_
    refine zF_aload_n 75 dX11_house_74 rfl rfl ?_
    refine zF_getR 78 dX11_house_75 rfl gX11_43 hO.2.1 hO.2.2.1 hO.2.2.2.2.2.2.2.1 ?_
    refine zF_iload_n 79 dX11_house_78 rfl rfl ?_
    refine zF_callVi 82 (d2 := (d + 7)) (as := [zI h]) dX11_house_79 rfl kX11_194 iX10_houseTakings (ci := 10) rfl eX10_houseTakings (Nat.le_refl _) hB.wk.1 hB.wk.2.1 rfl rfl (Nat.le_of_ble_eq_true rfl) (zt_X10_houseTakings hB hR hV hW (by first | decide | assumption | exact hb _ | exact mSh_rg hb _ _ | exact zb_rg _ | (constructor <;> omega))) ?_
    exact zF_ireturn dX11_house_82 rfl (zopR (by repeat (first | rw [if_pos (by omega)] | rw [if_neg (by omega)])) (by first | rfl | (unfold sHouse; repeat (first | rw [if_pos (by omega)] | rw [if_neg (by omega)]))))
  rcases Decidable.em (w = 4) with sw1 | sw1x4
  · refine zF_swIn 83 dX11_house_6 (by first | decide | assumption | exact hb _ | exact mSh_rg hb _ _ | exact zb_rg _ | (constructor <;> omega)) (by omega) (by omega) (by rw [sw1]; rfl) rfl ?_
    refine zF_aload_n 84 dX11_house_83 rfl rfl ?_
    refine zF_getR 87 dX11_house_84 rfl gX11_43 hO.2.1 hO.2.2.1 hO.2.2.2.2.2.2.2.1 ?_
    refine zF_iload_n 88 dX11_house_87 rfl rfl ?_
    refine zF_callVi 91 (d2 := (d + 7)) (as := [zI h]) dX11_house_88 rfl kX11_197 iX10_houseShares (ci := 10) rfl eX10_houseShares (Nat.le_refl _) hB.wk.1 hB.wk.2.1 rfl rfl (Nat.le_of_ble_eq_true rfl) (zt_X10_houseShares hB hR hV hX (by omega) (by omega)) ?_
    exact zF_ireturn dX11_house_91 rfl (zopR (by repeat (first | rw [if_pos (by omega)] | rw [if_neg (by omega)])) (by first | rfl | (unfold sHouse; repeat (first | rw [if_pos (by omega)] | rw [if_neg (by omega)]))))
  rcases Decidable.em (w = 5) with sw1 | sw1x5
  · refine zF_swIn 92 dX11_house_6 (by first | decide | assumption | exact hb _ | exact mSh_rg hb _ _ | exact zb_rg _ | (constructor <;> omega)) (by omega) (by omega) (by rw [sw1]; rfl) rfl ?_
    refine zF_aload_n 93 dX11_house_92 rfl rfl ?_
    refine zF_getR 96 dX11_house_93 rfl gX11_43 hO.2.1 hO.2.2.1 hO.2.2.2.2.2.2.2.1 ?_
    refine zF_iload_n 97 dX11_house_96 rfl rfl ?_
    refine zF_callVi 100 (d2 := (d + 7)) (as := [zI h]) dX11_house_97 rfl kX11_194 iX10_houseTakings (ci := 10) rfl eX10_houseTakings (Nat.le_refl _) hB.wk.1 hB.wk.2.1 rfl rfl (Nat.le_of_ble_eq_true rfl) (zt_X10_houseTakings hB hR hV hW (by first | decide | assumption | exact hb _ | exact mSh_rg hb _ _ | exact zb_rg _ | (constructor <;> omega))) ?_
    refine zF_aload_n 101 dX11_house_100 rfl rfl ?_
    refine zF_getR 104 dX11_house_101 rfl gX11_43 hO.2.1 hO.2.2.1 hO.2.2.2.2.2.2.2.1 ?_
    refine zF_iload_n 105 dX11_house_104 rfl rfl ?_
    refine zF_callVi 108 (d2 := (d + 7)) (as := [zI h]) dX11_house_105 rfl kX11_197 iX10_houseShares (ci := 10) rfl eX10_houseShares (Nat.le_refl _) hB.wk.1 hB.wk.2.1 rfl rfl (Nat.le_of_ble_eq_true rfl) (zt_X10_houseShares hB hR hV hX (by omega) (by omega)) ?_
    refine zF_isub 109 dX11_house_108 rfl ?_
    refine zF_aload_n 110 dX11_house_109 rfl rfl ?_
    refine zF_getR 113 dX11_house_110 rfl gX11_43 hO.2.1 hO.2.2.1 hO.2.2.2.2.2.2.2.1 ?_
    refine zF_iload_n 114 dX11_house_113 rfl rfl ?_
    refine zF_callVi 117 (d2 := (d + 7)) (as := [zI h]) dX11_house_114 rfl kX11_200 iX10_houseRents (ci := 10) rfl eX10_houseRents (Nat.le_refl _) hB.wk.1 hB.wk.2.1 rfl rfl (Nat.le_of_ble_eq_true rfl) (zt_X10_houseRents hB hR hV (by first | decide | assumption | exact hb _ | exact mSh_rg hb _ _ | exact zb_rg _ | (constructor <;> omega))) ?_
    refine zF_isub 118 dX11_house_117 rfl ?_
    exact zF_ireturn dX11_house_118 rfl (zopR (by repeat (first | rw [if_pos (by omega)] | rw [if_neg (by omega)])) (by first | rfl | (unfold sHouse; repeat (first | rw [if_pos (by omega)] | rw [if_neg (by omega)]))))
  refine zF_swOut 119 dX11_house_6 (by first | decide | assumption | exact hb _ | exact mSh_rg hb _ _ | exact zb_rg _ | (constructor <;> omega)) (by omega) rfl ?_
  exact zF_throw hG rfl zrxN0 zrxN1 zrxN2 zrxN5 zatN zckN zinN (by decide) (by decide) rfl (i := 7) rfl dX11_house_119 dX11_house_122 dX11_house_123 dX11_house_125 dX11_house_128 (by omega) (Nat.le_of_ble_eq_true rfl) (zopN (by repeat (first | rw [if_pos (by omega)] | rw [if_neg (by omega)])))
theorem zt_X11_screen {s w : Int} (hG : zGd G) (hO : cO σ B) (hR : cR N σ B) (hV : mV N) (hW : mW N) (zs : zrg s) (zw : zrg w) : zE G mX11_screen (d + 8) [zR (B 0), zI s, zI w] σ (zop (if 0 ≤ s ∧ s < N 1 then if 0 ≤ w ∧ w ≤ 8 then 0 else 1 else 1) (sScreen N s w) σ) := by
  refine zE_of rfl (by simp [zcat]) (Nat.le_of_ble_eq_true rfl) ?_
  show zF G mX11_screen (d + 8) 0 [(0, zR (B 0)), (1, zI s), (2, zI w)] [] σ _
  have hB := hO.1
  have hb := hV.b
  have hn := hV.n
  refine zF_aload_n 1 dX11_screen_0 rfl rfl ?_
  refine zF_iload_n 2 dX11_screen_1 rfl rfl ?_
  refine zF_callV 5 (d2 := (d + 7)) (as := [zI s]) dX11_screen_2 rfl kX11_203 iX11_checkScreen (ci := 11) rfl eX11_checkScreen (Nat.le_refl _) hO.2.1 hO.2.2.1 rfl rfl (Nat.le_of_ble_eq_true rfl) (zE.mono (zt_X11_checkScreen hG hO hR hV (by first | decide | assumption | exact hb _ | exact mSh_rg hb _ _ | exact zb_rg _ | (constructor <;> omega))) fun ro σx1 hh1 => ?_)
  rcases Decidable.em (0 ≤ s ∧ s < N 1) with kc1 | kc1
  rotate_left
  · rw [if_neg kc1] at hh1; obtain ⟨er1, es1⟩ := hh1; subst er1; subst es1; exact ⟨rfl, by decide, zopN (by repeat (first | rw [if_pos (by omega)] | rw [if_neg (by omega)]))⟩
  rw [if_pos kc1] at hh1; obtain ⟨er1, es1⟩ := hh1; subst er1; replace es1 := es1.symm; subst es1; refine ⟨rfl, ?_⟩
  show zF G mX11_screen (d + 8) 5 [(0, zR (B 0)), (1, zI s), (2, zI w)] [] σ _
  refine zF_iload_n 6 dX11_screen_5 rfl rfl ?_
  rcases Decidable.em (w = 0) with sw1 | sw1x0
  · refine zF_swIn 56 dX11_screen_6 (by first | decide | assumption | exact hb _ | exact mSh_rg hb _ _ | exact zb_rg _ | (constructor <;> omega)) (by omega) (by omega) (by rw [sw1]; rfl) rfl ?_
    refine zF_aload_n 57 dX11_screen_56 rfl rfl ?_
    refine zF_getR 60 dX11_screen_57 rfl gX11_27 hO.2.1 hO.2.2.1 hO.2.2.2.2.2.1 ?_
    refine zF_getR 63 dX11_screen_60 rfl gX11_206 hB.ch.1 hB.ch.2.1 (cB_104 hB).1 ?_
    refine zF_iload_n 64 dX11_screen_63 rfl rfl ?_
    refine zF_iaload 65 dX11_screen_64 rfl (cB_104 hB).2.2 (cB_104 hB).2.1 (by omega) (by omega) (hR.c.2.2.1 _ (by omega) (by omega)).1 ?_
    exact zF_ireturn dX11_screen_65 rfl (zopR (by repeat (first | rw [if_pos (by omega)] | rw [if_neg (by omega)])) (by first | rfl | (unfold sScreen; rw [if_pos (by omega)]) | (unfold sScreen; rw [if_neg (by omega)]; congr 1; omega)))
  rcases Decidable.em (w = 1) with sw1 | sw1x1
  · refine zF_swIn 66 dX11_screen_6 (by first | decide | assumption | exact hb _ | exact mSh_rg hb _ _ | exact zb_rg _ | (constructor <;> omega)) (by omega) (by omega) (by rw [sw1]; rfl) rfl ?_
    refine zF_aload_n 67 dX11_screen_66 rfl rfl ?_
    refine zF_getR 70 dX11_screen_67 rfl gX11_27 hO.2.1 hO.2.2.1 hO.2.2.2.2.2.1 ?_
    refine zF_getR 73 dX11_screen_70 rfl gX11_209 hB.ch.1 hB.ch.2.1 (cB_105 hB).1 ?_
    refine zF_iload_n 74 dX11_screen_73 rfl rfl ?_
    refine zF_iaload 75 dX11_screen_74 rfl (cB_105 hB).2.2 (cB_105 hB).2.1 (by omega) (by omega) (hR.c.2.2.1 _ (by omega) (by omega)).2.1 ?_
    exact zF_ireturn dX11_screen_75 rfl (zopR (by repeat (first | rw [if_pos (by omega)] | rw [if_neg (by omega)])) (by first | rfl | (unfold sScreen; rw [if_pos (by omega)]) | (unfold sScreen; rw [if_neg (by omega)]; congr 1; omega)))
  rcases Decidable.em (w = 2) with sw1 | sw1x2
  · refine zF_swIn 76 dX11_screen_6 (by first | decide | assumption | exact hb _ | exact mSh_rg hb _ _ | exact zb_rg _ | (constructor <;> omega)) (by omega) (by omega) (by rw [sw1]; rfl) rfl ?_
    refine zF_aload_n 77 dX11_screen_76 rfl rfl ?_
    refine zF_getR 80 dX11_screen_77 rfl gX11_27 hO.2.1 hO.2.2.1 hO.2.2.2.2.2.1 ?_
    refine zF_getR 83 dX11_screen_80 rfl gX11_212 hB.ch.1 hB.ch.2.1 (cB_106 hB).1 ?_
    refine zF_iload_n 84 dX11_screen_83 rfl rfl ?_
    refine zF_iaload 85 dX11_screen_84 rfl (cB_106 hB).2.2 (cB_106 hB).2.1 (by omega) (by omega) (hR.c.2.2.1 _ (by omega) (by omega)).2.2 ?_
    exact zF_ireturn dX11_screen_85 rfl (zopR (by repeat (first | rw [if_pos (by omega)] | rw [if_neg (by omega)])) (by first | rfl | (unfold sScreen; rw [if_pos (by omega)]) | (unfold sScreen; rw [if_neg (by omega)]; congr 1; omega)))
  rcases Decidable.em (w = 3) with sw1 | sw1x3
  · refine zF_swIn 86 dX11_screen_6 (by first | decide | assumption | exact hb _ | exact mSh_rg hb _ _ | exact zb_rg _ | (constructor <;> omega)) (by omega) (by omega) (by rw [sw1]; rfl) rfl ?_
    refine zF_aload_n 87 dX11_screen_86 rfl rfl ?_
    refine zF_getR 90 dX11_screen_87 rfl gX11_34 hO.2.1 hO.2.2.1 hO.2.2.2.2.2.2.1 ?_
    refine zF_getR 93 dX11_screen_90 rfl gX11_215 hB.st.1 hB.st.2.1 (cB_204 hB).1 ?_
    refine zF_iload_n 94 dX11_screen_93 rfl rfl ?_
    refine zF_iaload 95 dX11_screen_94 rfl (cB_204 hB).2.2 (cB_204 hB).2.1 (by omega) (by omega) (hR.s.2.2.1 _ (by omega) (by omega)).1 ?_
    exact zF_ireturn dX11_screen_95 rfl (zopR (by repeat (first | rw [if_pos (by omega)] | rw [if_neg (by omega)])) (by first | rfl | (unfold sScreen; rw [if_pos (by omega)]) | (unfold sScreen; rw [if_neg (by omega)]; congr 1; omega)))
  rcases Decidable.em (w = 4) with sw1 | sw1x4
  · refine zF_swIn 96 dX11_screen_6 (by first | decide | assumption | exact hb _ | exact mSh_rg hb _ _ | exact zb_rg _ | (constructor <;> omega)) (by omega) (by omega) (by rw [sw1]; rfl) rfl ?_
    refine zF_aload_n 97 dX11_screen_96 rfl rfl ?_
    refine zF_getR 100 dX11_screen_97 rfl gX11_34 hO.2.1 hO.2.2.1 hO.2.2.2.2.2.2.1 ?_
    refine zF_getR 103 dX11_screen_100 rfl gX11_218 hB.st.1 hB.st.2.1 (cB_206 hB).1 ?_
    refine zF_iload_n 104 dX11_screen_103 rfl rfl ?_
    refine zF_iaload 105 dX11_screen_104 rfl (cB_206 hB).2.2 (cB_206 hB).2.1 (by omega) (by omega) (hR.s.2.2.1 _ (by omega) (by omega)).2.1 ?_
    exact zF_ireturn dX11_screen_105 rfl (zopR (by repeat (first | rw [if_pos (by omega)] | rw [if_neg (by omega)])) (by first | rfl | (unfold sScreen; rw [if_pos (by omega)]) | (unfold sScreen; rw [if_neg (by omega)]; congr 1; omega)))
  rcases Decidable.em (w = 5) with sw1 | sw1x5
  · refine zF_swIn 106 dX11_screen_6 (by first | decide | assumption | exact hb _ | exact mSh_rg hb _ _ | exact zb_rg _ | (constructor <;> omega)) (by omega) (by omega) (by rw [sw1]; rfl) rfl ?_
    refine zF_aload_n 107 dX11_screen_106 rfl rfl ?_
    refine zF_getR 110 dX11_screen_107 rfl gX11_34 hO.2.1 hO.2.2.1 hO.2.2.2.2.2.2.1 ?_
    refine zF_getR 113 dX11_screen_110 rfl gX11_221 hB.st.1 hB.st.2.1 (cB_207 hB).1 ?_
    refine zF_iload_n 114 dX11_screen_113 rfl rfl ?_
    refine zF_iaload 115 dX11_screen_114 rfl (cB_207 hB).2.2 (cB_207 hB).2.1 (by omega) (by omega) (hR.s.2.2.1 _ (by omega) (by omega)).2.2.1 ?_
    exact zF_ireturn dX11_screen_115 rfl (zopR (by repeat (first | rw [if_pos (by omega)] | rw [if_neg (by omega)])) (by first | rfl | (unfold sScreen; rw [if_pos (by omega)]) | (unfold sScreen; rw [if_neg (by omega)]; congr 1; omega)))
  rcases Decidable.em (w = 6) with sw1 | sw1x6
  · refine zF_swIn 116 dX11_screen_6 (by first | decide | assumption | exact hb _ | exact mSh_rg hb _ _ | exact zb_rg _ | (constructor <;> omega)) (by omega) (by omega) (by rw [sw1]; rfl) rfl ?_
    refine zF_aload_n 117 dX11_screen_116 rfl rfl ?_
    refine zF_getR 120 dX11_screen_117 rfl gX11_34 hO.2.1 hO.2.2.1 hO.2.2.2.2.2.2.1 ?_
    refine zF_getR 123 dX11_screen_120 rfl gX11_224 hB.st.1 hB.st.2.1 (cB_208 hB).1 ?_
    refine zF_iload_n 124 dX11_screen_123 rfl rfl ?_
    refine zF_iaload 125 dX11_screen_124 rfl (cB_208 hB).2.2 (cB_208 hB).2.1 (by omega) (by omega) (hR.s.2.2.1 _ (by omega) (by omega)).2.2.2.1 ?_
    exact zF_ireturn dX11_screen_125 rfl (zopR (by repeat (first | rw [if_pos (by omega)] | rw [if_neg (by omega)])) (by first | rfl | (unfold sScreen; rw [if_pos (by omega)]) | (unfold sScreen; rw [if_neg (by omega)]; congr 1; omega)))
  rcases Decidable.em (w = 7) with sw1 | sw1x7
  · refine zF_swIn 126 dX11_screen_6 (by first | decide | assumption | exact hb _ | exact mSh_rg hb _ _ | exact zb_rg _ | (constructor <;> omega)) (by omega) (by omega) (by rw [sw1]; rfl) rfl ?_
    refine zF_aload_n 127 dX11_screen_126 rfl rfl ?_
    refine zF_getR 130 dX11_screen_127 rfl gX11_34 hO.2.1 hO.2.2.1 hO.2.2.2.2.2.2.1 ?_
    refine zF_getR 133 dX11_screen_130 rfl gX11_227 hB.st.1 hB.st.2.1 (cB_209 hB).1 ?_
    refine zF_iload_n 134 dX11_screen_133 rfl rfl ?_
    refine zF_iaload 135 dX11_screen_134 rfl (cB_209 hB).2.2 (cB_209 hB).2.1 (by omega) (by omega) (hR.s.2.2.1 _ (by omega) (by omega)).2.2.2.2 ?_
    exact zF_ireturn dX11_screen_135 rfl (zopR (by repeat (first | rw [if_pos (by omega)] | rw [if_neg (by omega)])) (by first | rfl | (unfold sScreen; rw [if_pos (by omega)]) | (unfold sScreen; rw [if_neg (by omega)]; congr 1; omega)))
  rcases Decidable.em (w = 8) with sw1 | sw1x8
  · refine zF_swIn 136 dX11_screen_6 (by first | decide | assumption | exact hb _ | exact mSh_rg hb _ _ | exact zb_rg _ | (constructor <;> omega)) (by omega) (by omega) (by rw [sw1]; rfl) rfl ?_
    refine zF_aload_n 137 dX11_screen_136 rfl rfl ?_
    refine zF_getR 140 dX11_screen_137 rfl gX11_43 hO.2.1 hO.2.2.1 hO.2.2.2.2.2.2.2.1 ?_
    refine zF_iload_n 141 dX11_screen_140 rfl rfl ?_
    refine zF_callVi 144 (d2 := (d + 7)) (as := [zI s]) dX11_screen_141 rfl kX11_230 iX10_screenTakings (ci := 10) rfl eX10_screenTakings (Nat.le_refl _) hB.wk.1 hB.wk.2.1 rfl rfl (Nat.le_of_ble_eq_true rfl) (zt_X10_screenTakings hB hR hV hW (by omega) (by omega)) ?_
    exact zF_ireturn dX11_screen_144 rfl (zopR (by repeat (first | rw [if_pos (by omega)] | rw [if_neg (by omega)])) (by first | rfl | (unfold sScreen; rw [if_pos (by omega)]) | (unfold sScreen; rw [if_neg (by omega)]; congr 1; omega)))
  refine zF_swOut 145 dX11_screen_6 (by first | decide | assumption | exact hb _ | exact mSh_rg hb _ _ | exact zb_rg _ | (constructor <;> omega)) (by omega) rfl ?_
  exact zF_throw hG rfl zrxN0 zrxN1 zrxN2 zrxN5 zatN zckN zinN (by decide) (by decide) rfl (i := 7) rfl dX11_screen_145 dX11_screen_148 dX11_screen_149 dX11_screen_151 dX11_screen_154 (by omega) (Nat.le_of_ble_eq_true rfl) (zopN (by repeat (first | rw [if_pos (by omega)] | rw [if_neg (by omega)])))
theorem zt_X11_film {f w : Int} (hG : zGd G) (hO : cO σ B) (hR : cR N σ B) (hV : mV N) (hX : mX N) (zf : zrg f) (zw : zrg w) : zE G mX11_film (d + 8) [zR (B 0), zI f, zI w] σ (zop (if 0 ≤ f ∧ f < N 2 then if 0 ≤ w ∧ w ≤ 7 then 0 else 1 else 1) (sFilm N f w) σ) := by
  refine zE_of rfl (by simp [zcat]) (Nat.le_of_ble_eq_true rfl) ?_
  show zF G mX11_film (d + 8) 0 [(0, zR (B 0)), (1, zI f), (2, zI w)] [] σ _
  have hB := hO.1
  have hb := hV.b
  have hn := hV.n
  refine zF_aload_n 1 dX11_film_0 rfl rfl ?_
  refine zF_iload_n 2 dX11_film_1 rfl rfl ?_
  refine zF_callV 5 (d2 := (d + 7)) (as := [zI f]) dX11_film_2 rfl kX11_233 iX11_checkFilm (ci := 11) rfl eX11_checkFilm (Nat.le_refl _) hO.2.1 hO.2.2.1 rfl rfl (Nat.le_of_ble_eq_true rfl) (zE.mono (zt_X11_checkFilm hG hO hR hV (by first | decide | assumption | exact hb _ | exact mSh_rg hb _ _ | exact zb_rg _ | (constructor <;> omega))) fun ro σx1 hh1 => ?_)
  rcases Decidable.em (0 ≤ f ∧ f < N 2) with kc1 | kc1
  rotate_left
  · rw [if_neg kc1] at hh1; obtain ⟨er1, es1⟩ := hh1; subst er1; subst es1; exact ⟨rfl, by decide, zopN (by repeat (first | rw [if_pos (by omega)] | rw [if_neg (by omega)]))⟩
  rw [if_pos kc1] at hh1; obtain ⟨er1, es1⟩ := hh1; subst er1; replace es1 := es1.symm; subst es1; refine ⟨rfl, ?_⟩
  show zF G mX11_film (d + 8) 5 [(0, zR (B 0)), (1, zI f), (2, zI w)] [] σ _
  refine zF_iload_n 6 dX11_film_5 rfl rfl ?_
  rcases Decidable.em (w = 0) with sw1 | sw1x0
  · refine zF_swIn 52 dX11_film_6 (by first | decide | assumption | exact hb _ | exact mSh_rg hb _ _ | exact zb_rg _ | (constructor <;> omega)) (by omega) (by omega) (by rw [sw1]; rfl) rfl ?_
    refine zF_aload_n 53 dX11_film_52 rfl rfl ?_
    refine zF_getR 56 dX11_film_53 rfl gX11_27 hO.2.1 hO.2.2.1 hO.2.2.2.2.2.1 ?_
    refine zF_getR 59 dX11_film_56 rfl gX11_236 hB.ch.1 hB.ch.2.1 (cB_108 hB).1 ?_
    refine zF_iload_n 60 dX11_film_59 rfl rfl ?_
    refine zF_iaload 61 dX11_film_60 rfl (cB_108 hB).2.2 (cB_108 hB).2.1 (by omega) (by omega) (hR.c.2.2.2 _ (by omega) (by omega)).1 ?_
    exact zF_ireturn dX11_film_61 rfl (zopR (by repeat (first | rw [if_pos (by omega)] | rw [if_neg (by omega)])) (by first | rfl | (unfold sFilm; (repeat (first | rw [if_pos (by omega)] | rw [if_neg (by omega)])); done) | (unfold sFilm; rw [if_neg (by omega), if_neg (by omega), if_neg (by omega), if_neg (by omega)]; congr 1; omega)))
  rcases Decidable.em (w = 1) with sw1 | sw1x1
  · refine zF_swIn 62 dX11_film_6 (by first | decide | assumption | exact hb _ | exact mSh_rg hb _ _ | exact zb_rg _ | (constructor <;> omega)) (by omega) (by omega) (by rw [sw1]; rfl) rfl ?_
    refine zF_aload_n 63 dX11_film_62 rfl rfl ?_
    refine zF_getR 66 dX11_film_63 rfl gX11_27 hO.2.1 hO.2.2.1 hO.2.2.2.2.2.1 ?_
    refine zF_getR 69 dX11_film_66 rfl gX11_239 hB.ch.1 hB.ch.2.1 (cB_109 hB).1 ?_
    refine zF_iload_n 70 dX11_film_69 rfl rfl ?_
    refine zF_iaload 71 dX11_film_70 rfl (cB_109 hB).2.2 (cB_109 hB).2.1 (by omega) (by omega) (hR.c.2.2.2 _ (by omega) (by omega)).2.1 ?_
    exact zF_ireturn dX11_film_71 rfl (zopR (by repeat (first | rw [if_pos (by omega)] | rw [if_neg (by omega)])) (by first | rfl | (unfold sFilm; (repeat (first | rw [if_pos (by omega)] | rw [if_neg (by omega)])); done) | (unfold sFilm; rw [if_neg (by omega), if_neg (by omega), if_neg (by omega), if_neg (by omega)]; congr 1; omega)))
  rcases Decidable.em (w = 2) with sw1 | sw1x2
  · refine zF_swIn 72 dX11_film_6 (by first | decide | assumption | exact hb _ | exact mSh_rg hb _ _ | exact zb_rg _ | (constructor <;> omega)) (by omega) (by omega) (by rw [sw1]; rfl) rfl ?_
    refine zF_aload_n 73 dX11_film_72 rfl rfl ?_
    refine zF_getR 76 dX11_film_73 rfl gX11_27 hO.2.1 hO.2.2.1 hO.2.2.2.2.2.1 ?_
    refine zF_getR 79 dX11_film_76 rfl gX11_242 hB.ch.1 hB.ch.2.1 (cB_110 hB).1 ?_
    refine zF_iload_n 80 dX11_film_79 rfl rfl ?_
    refine zF_iaload 81 dX11_film_80 rfl (cB_110 hB).2.2 (cB_110 hB).2.1 (by omega) (by omega) (hR.c.2.2.2 _ (by omega) (by omega)).2.2.1 ?_
    exact zF_ireturn dX11_film_81 rfl (zopR (by repeat (first | rw [if_pos (by omega)] | rw [if_neg (by omega)])) (by first | rfl | (unfold sFilm; (repeat (first | rw [if_pos (by omega)] | rw [if_neg (by omega)])); done) | (unfold sFilm; rw [if_neg (by omega), if_neg (by omega), if_neg (by omega), if_neg (by omega)]; congr 1; omega)))
  rcases Decidable.em (w = 3) with sw1 | sw1x3
  · refine zF_swIn 82 dX11_film_6 (by first | decide | assumption | exact hb _ | exact mSh_rg hb _ _ | exact zb_rg _ | (constructor <;> omega)) (by omega) (by omega) (by rw [sw1]; rfl) rfl ?_
    refine zF_aload_n 83 dX11_film_82 rfl rfl ?_
    refine zF_getR 86 dX11_film_83 rfl gX11_27 hO.2.1 hO.2.2.1 hO.2.2.2.2.2.1 ?_
    refine zF_getR 89 dX11_film_86 rfl gX11_245 hB.ch.1 hB.ch.2.1 (cB_111 hB).1 ?_
    refine zF_iload_n 90 dX11_film_89 rfl rfl ?_
    refine zF_iaload 91 dX11_film_90 rfl (cB_111 hB).2.2 (cB_111 hB).2.1 (by omega) (by omega) (hR.c.2.2.2 _ (by omega) (by omega)).2.2.2.1 ?_
    exact zF_ireturn dX11_film_91 rfl (zopR (by repeat (first | rw [if_pos (by omega)] | rw [if_neg (by omega)])) (by first | rfl | (unfold sFilm; (repeat (first | rw [if_pos (by omega)] | rw [if_neg (by omega)])); done) | (unfold sFilm; rw [if_neg (by omega), if_neg (by omega), if_neg (by omega), if_neg (by omega)]; congr 1; omega)))
  rcases Decidable.em (w = 4) with sw1 | sw1x4
  · refine zF_swIn 92 dX11_film_6 (by first | decide | assumption | exact hb _ | exact mSh_rg hb _ _ | exact zb_rg _ | (constructor <;> omega)) (by omega) (by omega) (by rw [sw1]; rfl) rfl ?_
    refine zF_aload_n 93 dX11_film_92 rfl rfl ?_
    refine zF_getR 96 dX11_film_93 rfl gX11_34 hO.2.1 hO.2.2.1 hO.2.2.2.2.2.2.1 ?_
    refine zF_iload_n 97 dX11_film_96 rfl rfl ?_
    refine zF_callVi 100 (d2 := (d + 7)) (as := [zI f]) dX11_film_97 rfl kX11_248 iX8_ageOf (ci := 8) rfl eX8_ageOf (Nat.le_refl _) hB.st.1 hB.st.2.1 rfl rfl (Nat.le_of_ble_eq_true rfl) (zt_X8_ageOf hB hR hV (by omega) (by omega)) ?_
    exact zF_ireturn dX11_film_100 rfl (zopR (by repeat (first | rw [if_pos (by omega)] | rw [if_neg (by omega)])) (by first | rfl | (unfold sFilm; (repeat (first | rw [if_pos (by omega)] | rw [if_neg (by omega)])); done) | (unfold sFilm; rw [if_neg (by omega), if_neg (by omega), if_neg (by omega), if_neg (by omega)]; congr 1; omega)))
  rcases Decidable.em (w = 5) with sw1 | sw1x5
  · refine zF_swIn 101 dX11_film_6 (by first | decide | assumption | exact hb _ | exact mSh_rg hb _ _ | exact zb_rg _ | (constructor <;> omega)) (by omega) (by omega) (by rw [sw1]; rfl) rfl ?_
    refine zF_aload_n 102 dX11_film_101 rfl rfl ?_
    refine zF_getR 105 dX11_film_102 rfl gX11_34 hO.2.1 hO.2.2.1 hO.2.2.2.2.2.2.1 ?_
    refine zF_getR 108 dX11_film_105 rfl gX11_251 hB.st.1 hB.st.2.1 (cB_211 hB).1 ?_
    refine zF_iload_n 109 dX11_film_108 rfl rfl ?_
    refine zF_iaload 110 dX11_film_109 rfl (cB_211 hB).2.2 (cB_211 hB).2.1 (by omega) (by omega) (hR.s.2.2.2.1 _ (by omega) (by omega)).2.1 ?_
    exact zF_ireturn dX11_film_110 rfl (zopR (by repeat (first | rw [if_pos (by omega)] | rw [if_neg (by omega)])) (by first | rfl | (unfold sFilm; (repeat (first | rw [if_pos (by omega)] | rw [if_neg (by omega)])); done) | (unfold sFilm; rw [if_neg (by omega), if_neg (by omega), if_neg (by omega), if_neg (by omega)]; congr 1; omega)))
  rcases Decidable.em (w = 6) with sw1 | sw1x6
  · refine zF_swIn 111 dX11_film_6 (by first | decide | assumption | exact hb _ | exact mSh_rg hb _ _ | exact zb_rg _ | (constructor <;> omega)) (by omega) (by omega) (by rw [sw1]; rfl) rfl ?_
    refine zF_aload_n 112 dX11_film_111 rfl rfl ?_
    refine zF_getR 115 dX11_film_112 rfl gX11_43 hO.2.1 hO.2.2.1 hO.2.2.2.2.2.2.2.1 ?_
    refine zF_iload_n 116 dX11_film_115 rfl rfl ?_
    refine zF_callVi 119 (d2 := (d + 7)) (as := [zI f]) dX11_film_116 rfl kX11_254 iX10_filmTakings (ci := 10) rfl eX10_filmTakings (Nat.le_refl _) hB.wk.1 hB.wk.2.1 rfl rfl (Nat.le_of_ble_eq_true rfl) (zt_X10_filmTakings hB hR hV hX (by first | decide | assumption | exact hb _ | exact mSh_rg hb _ _ | exact zb_rg _ | (constructor <;> omega))) ?_
    exact zF_ireturn dX11_film_119 rfl (zopR (by repeat (first | rw [if_pos (by omega)] | rw [if_neg (by omega)])) (by first | rfl | (unfold sFilm; (repeat (first | rw [if_pos (by omega)] | rw [if_neg (by omega)])); done) | (unfold sFilm; rw [if_neg (by omega), if_neg (by omega), if_neg (by omega), if_neg (by omega)]; congr 1; omega)))
  rcases Decidable.em (w = 7) with sw1 | sw1x7
  · refine zF_swIn 120 dX11_film_6 (by first | decide | assumption | exact hb _ | exact mSh_rg hb _ _ | exact zb_rg _ | (constructor <;> omega)) (by omega) (by omega) (by rw [sw1]; rfl) rfl ?_
    refine zF_aload_n 121 dX11_film_120 rfl rfl ?_
    refine zF_getR 124 dX11_film_121 rfl gX11_34 hO.2.1 hO.2.2.1 hO.2.2.2.2.2.2.1 ?_
    refine zF_getR 127 dX11_film_124 rfl gX11_257 hB.st.1 hB.st.2.1 (cB_212 hB).1 ?_
    refine zF_iload_n 128 dX11_film_127 rfl rfl ?_
    refine zF_iaload 129 dX11_film_128 rfl (cB_212 hB).2.2 (cB_212 hB).2.1 (by omega) (by omega) (hR.s.2.2.2.1 _ (by omega) (by omega)).2.2.1 ?_
    exact zF_ireturn dX11_film_129 rfl (zopR (by repeat (first | rw [if_pos (by omega)] | rw [if_neg (by omega)])) (by first | rfl | (unfold sFilm; (repeat (first | rw [if_pos (by omega)] | rw [if_neg (by omega)])); done) | (unfold sFilm; rw [if_neg (by omega), if_neg (by omega), if_neg (by omega), if_neg (by omega)]; congr 1; omega)))
  refine zF_swOut 130 dX11_film_6 (by first | decide | assumption | exact hb _ | exact mSh_rg hb _ _ | exact zb_rg _ | (constructor <;> omega)) (by omega) rfl ?_
  exact zF_throw hG rfl zrxN0 zrxN1 zrxN2 zrxN5 zatN zckN zinN (by decide) (by decide) rfl (i := 7) rfl dX11_film_130 dX11_film_133 dX11_film_134 dX11_film_136 dX11_film_139 (by omega) (Nat.le_of_ble_eq_true rfl) (zopN (by repeat (first | rw [if_pos (by omega)] | rw [if_neg (by omega)])))
theorem zt_X11_prints {f p : Int} (hG : zGd G) (hO : cO σ B) (hR : cR N σ B) (hV : mV N) (zf : zrg f) (zp : zrg p) : zE G mX11_prints (d + 8) [zR (B 0), zI f, zI p] σ (zop (if 0 ≤ f ∧ f < N 2 then if -1 ≤ p ∧ p < N 0 then 0 else 1 else 1) (mP N f p) σ) := by
  refine zE_of rfl (by simp [zcat]) (Nat.le_of_ble_eq_true rfl) ?_
  show zF G mX11_prints (d + 8) 0 [(0, zR (B 0)), (1, zI f), (2, zI p)] [] σ _
  have hB := hO.1
  have hb := hV.b
  have hn := hV.n
  refine zF_aload_n 1 dX11_prints_0 rfl rfl ?_
  refine zF_iload_n 2 dX11_prints_1 rfl rfl ?_
  refine zF_callV 5 (d2 := (d + 7)) (as := [zI f]) dX11_prints_2 rfl kX11_233 iX11_checkFilm (ci := 11) rfl eX11_checkFilm (Nat.le_refl _) hO.2.1 hO.2.2.1 rfl rfl (Nat.le_of_ble_eq_true rfl) (zE.mono (zt_X11_checkFilm hG hO hR hV (by first | decide | assumption | exact hb _ | exact mSh_rg hb _ _ | exact zb_rg _ | (constructor <;> omega))) fun ro σx1 hh1 => ?_)
  rcases Decidable.em (0 ≤ f ∧ f < N 2) with kc1 | kc1
  rotate_left
  · rw [if_neg kc1] at hh1; obtain ⟨er1, es1⟩ := hh1; subst er1; subst es1; exact ⟨rfl, by decide, zopN (by repeat (first | rw [if_pos (by omega)] | rw [if_neg (by omega)]))⟩
  rw [if_pos kc1] at hh1; obtain ⟨er1, es1⟩ := hh1; subst er1; replace es1 := es1.symm; subst es1; refine ⟨rfl, ?_⟩
  show zF G mX11_prints (d + 8) 5 [(0, zR (B 0)), (1, zI f), (2, zI p)] [] σ _
  refine zF_aload_n 6 dX11_prints_5 rfl rfl ?_
  refine zF_iload_n 7 dX11_prints_6 rfl rfl ?_
  refine zF_callV 10 (d2 := (d + 7)) (as := [zI p]) dX11_prints_7 rfl kX11_264 iX11_checkPlace (ci := 11) rfl eX11_checkPlace (Nat.le_refl _) hO.2.1 hO.2.2.1 rfl rfl (Nat.le_of_ble_eq_true rfl) (zE.mono (zt_X11_checkPlace hG hO hR hV (by first | decide | assumption | exact hb _ | exact mSh_rg hb _ _ | exact zb_rg _ | (constructor <;> omega))) fun ro σx2 hh2 => ?_)
  rcases Decidable.em (-1 ≤ p ∧ p < N 0) with kc2 | kc2
  rotate_left
  · rw [if_neg kc2] at hh2; obtain ⟨er2, es2⟩ := hh2; subst er2; subst es2; exact ⟨rfl, by decide, zopN (by repeat (first | rw [if_pos (by omega)] | rw [if_neg (by omega)]))⟩
  rw [if_pos kc2] at hh2; obtain ⟨er2, es2⟩ := hh2; subst er2; replace es2 := es2.symm; subst es2; refine ⟨rfl, ?_⟩
  show zF G mX11_prints (d + 8) 10 [(0, zR (B 0)), (1, zI f), (2, zI p)] [] σ _
  refine zF_aload_n 11 dX11_prints_10 rfl rfl ?_
  refine zF_getR 14 dX11_prints_11 rfl gX11_34 hO.2.1 hO.2.2.1 hO.2.2.2.2.2.2.1 ?_
  refine zF_iload_n 15 dX11_prints_14 rfl rfl ?_
  refine zF_iload_n 16 dX11_prints_15 rfl rfl ?_
  refine zF_callVi 19 (d2 := (d + 7)) (as := [zI f, zI p]) dX11_prints_16 rfl kX11_267 iX8_printsAt (ci := 8) rfl eX8_printsAt (Nat.le_refl _) hB.st.1 hB.st.2.1 rfl rfl (Nat.le_of_ble_eq_true rfl) (zt_X8_printsAt hB hR hV (by omega) (by omega) (by omega) (by omega)) ?_
  exact zF_ireturn dX11_prints_19 rfl (zopR (by repeat (first | rw [if_pos (by omega)] | rw [if_neg (by omega)])) (rfl))
theorem zt_X11_shown {s b : Int} (hG : zGd G) (hO : cO σ B) (hR : cR N σ B) (hV : mV N) (hX : mX N) (zs : zrg s) (zb : zrg b) : zE G mX11_shown (d + 8) [zR (B 0), zI s, zI b] σ (zop (if 0 ≤ s ∧ s < N 1 then if 0 ≤ b ∧ b < 7 then 0 else 2 else 1) (mSh N s b) σ) := by
  refine zE_of rfl (by simp [zcat]) (Nat.le_of_ble_eq_true rfl) ?_
  show zF G mX11_shown (d + 8) 0 [(0, zR (B 0)), (1, zI s), (2, zI b)] [] σ _
  have hB := hO.1
  have hb := hV.b
  have hn := hV.n
  refine zF_aload_n 1 dX11_shown_0 rfl rfl ?_
  refine zF_iload_n 2 dX11_shown_1 rfl rfl ?_
  refine zF_callV 5 (d2 := (d + 7)) (as := [zI s]) dX11_shown_2 rfl kX11_203 iX11_checkScreen (ci := 11) rfl eX11_checkScreen (Nat.le_refl _) hO.2.1 hO.2.2.1 rfl rfl (Nat.le_of_ble_eq_true rfl) (zE.mono (zt_X11_checkScreen hG hO hR hV (by first | decide | assumption | exact hb _ | exact mSh_rg hb _ _ | exact zb_rg _ | (constructor <;> omega))) fun ro σx1 hh1 => ?_)
  rcases Decidable.em (0 ≤ s ∧ s < N 1) with kc1 | kc1
  rotate_left
  · rw [if_neg kc1] at hh1; obtain ⟨er1, es1⟩ := hh1; subst er1; subst es1; exact ⟨rfl, by decide, zopN (by repeat (first | rw [if_pos (by omega)] | rw [if_neg (by omega)]))⟩
  rw [if_pos kc1] at hh1; obtain ⟨er1, es1⟩ := hh1; subst er1; replace es1 := es1.symm; subst es1; refine ⟨rfl, ?_⟩
  show zF G mX11_shown (d + 8) 5 [(0, zR (B 0)), (1, zI s), (2, zI b)] [] σ _
  refine zF_aload_n 6 dX11_shown_5 rfl rfl ?_
  refine zF_iload_n 7 dX11_shown_6 rfl rfl ?_
  refine zF_callV 10 (d2 := (d + 7)) (as := [zI b]) dX11_shown_7 rfl kX11_271 iX11_checkDay (ci := 11) rfl eX11_checkDay (Nat.le_refl _) hO.2.1 hO.2.2.1 rfl rfl (Nat.le_of_ble_eq_true rfl) (zE.mono (zt_X11_checkDay hG hO hR hV (by first | decide | assumption | exact hb _ | exact mSh_rg hb _ _ | exact zb_rg _ | (constructor <;> omega))) fun ro σx2 hh2 => ?_)
  rcases Decidable.em (0 ≤ b ∧ b < 7) with kc2 | kc2
  rotate_left
  · rw [if_neg kc2] at hh2; obtain ⟨er2, es2⟩ := hh2; subst er2; subst es2; exact ⟨rfl, by decide, zopA (by repeat (first | rw [if_pos (by omega)] | rw [if_neg (by omega)]))⟩
  rw [if_pos kc2] at hh2; obtain ⟨er2, es2⟩ := hh2; subst er2; replace es2 := es2.symm; subst es2; refine ⟨rfl, ?_⟩
  show zF G mX11_shown (d + 8) 10 [(0, zR (B 0)), (1, zI s), (2, zI b)] [] σ _
  refine zF_aload_n 11 dX11_shown_10 rfl rfl ?_
  refine zF_getR 14 dX11_shown_11 rfl gX11_34 hO.2.1 hO.2.2.1 hO.2.2.2.2.2.2.1 ?_
  refine zF_iload_n 15 dX11_shown_14 rfl rfl ?_
  refine zF_iload_n 16 dX11_shown_15 rfl rfl ?_
  refine zF_callVi 19 (d2 := (d + 7)) (as := [zI s, zI b]) dX11_shown_16 rfl kX11_274 iX8_filmOn (ci := 8) rfl eX8_filmOn (Nat.le_refl _) hB.st.1 hB.st.2.1 rfl rfl (Nat.le_of_ble_eq_true rfl) (zt_X8_filmOn hB hR hV hX (by omega) (by omega) (by first | decide | assumption | exact hb _ | exact mSh_rg hb _ _ | exact zb_rg _ | (constructor <;> omega))) ?_
  exact zF_ireturn dX11_shown_19 rfl (zopR (by repeat (first | rw [if_pos (by omega)] | rw [if_neg (by omega)])) (rfl))
theorem zt_X11_visitors {s b : Int} (hG : zGd G) (hO : cO σ B) (hR : cR N σ B) (hV : mV N) (zs : zrg s) (zb : zrg b) : zE G mX11_visitors (d + 8) [zR (B 0), zI s, zI b] σ (zop (if 0 ≤ s ∧ s < N 1 then if 0 ≤ b ∧ b < 7 then 0 else 2 else 1) (gv N s b) σ) := by
  refine zE_of rfl (by simp [zcat]) (Nat.le_of_ble_eq_true rfl) ?_
  show zF G mX11_visitors (d + 8) 0 [(0, zR (B 0)), (1, zI s), (2, zI b)] [] σ _
  have hB := hO.1
  have hb := hV.b
  have hn := hV.n
  refine zF_aload_n 1 dX11_visitors_0 rfl rfl ?_
  refine zF_iload_n 2 dX11_visitors_1 rfl rfl ?_
  refine zF_callV 5 (d2 := (d + 7)) (as := [zI s]) dX11_visitors_2 rfl kX11_203 iX11_checkScreen (ci := 11) rfl eX11_checkScreen (Nat.le_refl _) hO.2.1 hO.2.2.1 rfl rfl (Nat.le_of_ble_eq_true rfl) (zE.mono (zt_X11_checkScreen hG hO hR hV (by first | decide | assumption | exact hb _ | exact mSh_rg hb _ _ | exact zb_rg _ | (constructor <;> omega))) fun ro σx1 hh1 => ?_)
  rcases Decidable.em (0 ≤ s ∧ s < N 1) with kc1 | kc1
  rotate_left
  · rw [if_neg kc1] at hh1; obtain ⟨er1, es1⟩ := hh1; subst er1; subst es1; exact ⟨rfl, by decide, zopN (by repeat (first | rw [if_pos (by omega)] | rw [if_neg (by omega)]))⟩
  rw [if_pos kc1] at hh1; obtain ⟨er1, es1⟩ := hh1; subst er1; replace es1 := es1.symm; subst es1; refine ⟨rfl, ?_⟩
  show zF G mX11_visitors (d + 8) 5 [(0, zR (B 0)), (1, zI s), (2, zI b)] [] σ _
  refine zF_aload_n 6 dX11_visitors_5 rfl rfl ?_
  refine zF_iload_n 7 dX11_visitors_6 rfl rfl ?_
  refine zF_callV 10 (d2 := (d + 7)) (as := [zI b]) dX11_visitors_7 rfl kX11_271 iX11_checkDay (ci := 11) rfl eX11_checkDay (Nat.le_refl _) hO.2.1 hO.2.2.1 rfl rfl (Nat.le_of_ble_eq_true rfl) (zE.mono (zt_X11_checkDay hG hO hR hV (by first | decide | assumption | exact hb _ | exact mSh_rg hb _ _ | exact zb_rg _ | (constructor <;> omega))) fun ro σx2 hh2 => ?_)
  rcases Decidable.em (0 ≤ b ∧ b < 7) with kc2 | kc2
  rotate_left
  · rw [if_neg kc2] at hh2; obtain ⟨er2, es2⟩ := hh2; subst er2; subst es2; exact ⟨rfl, by decide, zopA (by repeat (first | rw [if_pos (by omega)] | rw [if_neg (by omega)]))⟩
  rw [if_pos kc2] at hh2; obtain ⟨er2, es2⟩ := hh2; subst er2; replace es2 := es2.symm; subst es2; refine ⟨rfl, ?_⟩
  show zF G mX11_visitors (d + 8) 10 [(0, zR (B 0)), (1, zI s), (2, zI b)] [] σ _
  refine zF_aload_n 11 dX11_visitors_10 rfl rfl ?_
  refine zF_getR 14 dX11_visitors_11 rfl gX11_43 hO.2.1 hO.2.2.1 hO.2.2.2.2.2.2.2.1 ?_
  refine zF_iload_n 15 dX11_visitors_14 rfl rfl ?_
  refine zF_iload_n 16 dX11_visitors_15 rfl rfl ?_
  refine zF_callVi 19 (d2 := (d + 7)) (as := [zI s, zI b]) dX11_visitors_16 rfl kX11_277 iX10_visitorsOn (ci := 10) rfl eX10_visitorsOn (Nat.le_refl _) hB.wk.1 hB.wk.2.1 rfl rfl (Nat.le_of_ble_eq_true rfl) (zt_X10_visitorsOn hB hR hV (by omega) (by omega) (by omega) (by omega)) ?_
  exact zF_ireturn dX11_visitors_19 rfl (zopR (by repeat (first | rw [if_pos (by omega)] | rw [if_neg (by omega)])) (rfl))
theorem zt_X11_share {h f : Int} (hG : zGd G) (hO : cO σ B) (hR : cR N σ B) (hV : mV N) (hX : mX N) (zh : zrg h) (zf : zrg f) : zE G mX11_share (d + 8) [zR (B 0), zI h, zI f] σ (zop (if 0 ≤ h ∧ h < N 0 then if 0 ≤ f ∧ f < N 2 then 0 else 1 else 1) (mShare N h f (cFi N h f)) σ) := by
  refine zE_of rfl (by simp [zcat]) (Nat.le_of_ble_eq_true rfl) ?_
  show zF G mX11_share (d + 8) 0 [(0, zR (B 0)), (1, zI h), (2, zI f)] [] σ _
  have hB := hO.1
  have hb := hV.b
  have hn := hV.n
  refine zF_aload_n 1 dX11_share_0 rfl rfl ?_
  refine zF_iload_n 2 dX11_share_1 rfl rfl ?_
  refine zF_callV 5 (d2 := (d + 7)) (as := [zI h]) dX11_share_2 rfl kX11_181 iX11_checkHouse (ci := 11) rfl eX11_checkHouse (Nat.le_refl _) hO.2.1 hO.2.2.1 rfl rfl (Nat.le_of_ble_eq_true rfl) (zE.mono (zt_X11_checkHouse hG hO hR hV (by first | decide | assumption | exact hb _ | exact mSh_rg hb _ _ | exact zb_rg _ | (constructor <;> omega))) fun ro σx1 hh1 => ?_)
  rcases Decidable.em (0 ≤ h ∧ h < N 0) with kc1 | kc1
  rotate_left
  · rw [if_neg kc1] at hh1; obtain ⟨er1, es1⟩ := hh1; subst er1; subst es1; exact ⟨rfl, by decide, zopN (by repeat (first | rw [if_pos (by omega)] | rw [if_neg (by omega)]))⟩
  rw [if_pos kc1] at hh1; obtain ⟨er1, es1⟩ := hh1; subst er1; replace es1 := es1.symm; subst es1; refine ⟨rfl, ?_⟩
  show zF G mX11_share (d + 8) 5 [(0, zR (B 0)), (1, zI h), (2, zI f)] [] σ _
  refine zF_aload_n 6 dX11_share_5 rfl rfl ?_
  refine zF_iload_n 7 dX11_share_6 rfl rfl ?_
  refine zF_callV 10 (d2 := (d + 7)) (as := [zI f]) dX11_share_7 rfl kX11_233 iX11_checkFilm (ci := 11) rfl eX11_checkFilm (Nat.le_refl _) hO.2.1 hO.2.2.1 rfl rfl (Nat.le_of_ble_eq_true rfl) (zE.mono (zt_X11_checkFilm hG hO hR hV (by first | decide | assumption | exact hb _ | exact mSh_rg hb _ _ | exact zb_rg _ | (constructor <;> omega))) fun ro σx2 hh2 => ?_)
  rcases Decidable.em (0 ≤ f ∧ f < N 2) with kc2 | kc2
  rotate_left
  · rw [if_neg kc2] at hh2; obtain ⟨er2, es2⟩ := hh2; subst er2; subst es2; exact ⟨rfl, by decide, zopN (by repeat (first | rw [if_pos (by omega)] | rw [if_neg (by omega)]))⟩
  rw [if_pos kc2] at hh2; obtain ⟨er2, es2⟩ := hh2; subst er2; replace es2 := es2.symm; subst es2; refine ⟨rfl, ?_⟩
  show zF G mX11_share (d + 8) 10 [(0, zR (B 0)), (1, zI h), (2, zI f)] [] σ _
  refine zF_aload_n 11 dX11_share_10 rfl rfl ?_
  refine zF_getR 14 dX11_share_11 rfl gX11_43 hO.2.1 hO.2.2.1 hO.2.2.2.2.2.2.2.1 ?_
  refine zF_iload_n 15 dX11_share_14 rfl rfl ?_
  refine zF_iload_n 16 dX11_share_15 rfl rfl ?_
  refine zF_callVi 19 (d2 := (d + 7)) (as := [zI h, zI f]) dX11_share_16 rfl kX11_280 iX10_shareIn (ci := 10) rfl eX10_shareIn (Nat.le_refl _) hB.wk.1 hB.wk.2.1 rfl rfl (Nat.le_of_ble_eq_true rfl) (zt_X10_shareIn hB hR hV hX (by omega) (by omega) (by omega) (by omega)) ?_
  exact zF_ireturn dX11_share_19 rfl (zopR (by repeat (first | rw [if_pos (by omega)] | rw [if_neg (by omega)])) (rfl))
theorem zt_X11_run {h f : Int} (hG : zGd G) (hO : cO σ B) (hR : cR N σ B) (hV : mV N) (zh : zrg h) (zf : zrg f) : zE G mX11_run (d + 8) [zR (B 0), zI h, zI f] σ (zop (if 0 ≤ h ∧ h < N 0 then if 0 ≤ f ∧ f < N 2 then 0 else 1 else 1) (mR N h f) σ) := by
  refine zE_of rfl (by simp [zcat]) (Nat.le_of_ble_eq_true rfl) ?_
  show zF G mX11_run (d + 8) 0 [(0, zR (B 0)), (1, zI h), (2, zI f)] [] σ _
  have hB := hO.1
  have hb := hV.b
  have hn := hV.n
  refine zF_aload_n 1 dX11_run_0 rfl rfl ?_
  refine zF_iload_n 2 dX11_run_1 rfl rfl ?_
  refine zF_callV 5 (d2 := (d + 7)) (as := [zI h]) dX11_run_2 rfl kX11_181 iX11_checkHouse (ci := 11) rfl eX11_checkHouse (Nat.le_refl _) hO.2.1 hO.2.2.1 rfl rfl (Nat.le_of_ble_eq_true rfl) (zE.mono (zt_X11_checkHouse hG hO hR hV (by first | decide | assumption | exact hb _ | exact mSh_rg hb _ _ | exact zb_rg _ | (constructor <;> omega))) fun ro σx1 hh1 => ?_)
  rcases Decidable.em (0 ≤ h ∧ h < N 0) with kc1 | kc1
  rotate_left
  · rw [if_neg kc1] at hh1; obtain ⟨er1, es1⟩ := hh1; subst er1; subst es1; exact ⟨rfl, by decide, zopN (by repeat (first | rw [if_pos (by omega)] | rw [if_neg (by omega)]))⟩
  rw [if_pos kc1] at hh1; obtain ⟨er1, es1⟩ := hh1; subst er1; replace es1 := es1.symm; subst es1; refine ⟨rfl, ?_⟩
  show zF G mX11_run (d + 8) 5 [(0, zR (B 0)), (1, zI h), (2, zI f)] [] σ _
  refine zF_aload_n 6 dX11_run_5 rfl rfl ?_
  refine zF_iload_n 7 dX11_run_6 rfl rfl ?_
  refine zF_callV 10 (d2 := (d + 7)) (as := [zI f]) dX11_run_7 rfl kX11_233 iX11_checkFilm (ci := 11) rfl eX11_checkFilm (Nat.le_refl _) hO.2.1 hO.2.2.1 rfl rfl (Nat.le_of_ble_eq_true rfl) (zE.mono (zt_X11_checkFilm hG hO hR hV (by first | decide | assumption | exact hb _ | exact mSh_rg hb _ _ | exact zb_rg _ | (constructor <;> omega))) fun ro σx2 hh2 => ?_)
  rcases Decidable.em (0 ≤ f ∧ f < N 2) with kc2 | kc2
  rotate_left
  · rw [if_neg kc2] at hh2; obtain ⟨er2, es2⟩ := hh2; subst er2; subst es2; exact ⟨rfl, by decide, zopN (by repeat (first | rw [if_pos (by omega)] | rw [if_neg (by omega)]))⟩
  rw [if_pos kc2] at hh2; obtain ⟨er2, es2⟩ := hh2; subst er2; replace es2 := es2.symm; subst es2; refine ⟨rfl, ?_⟩
  show zF G mX11_run (d + 8) 10 [(0, zR (B 0)), (1, zI h), (2, zI f)] [] σ _
  refine zF_aload_n 11 dX11_run_10 rfl rfl ?_
  refine zF_getR 14 dX11_run_11 rfl gX11_34 hO.2.1 hO.2.2.1 hO.2.2.2.2.2.2.1 ?_
  refine zF_iload_n 15 dX11_run_14 rfl rfl ?_
  refine zF_iload_n 16 dX11_run_15 rfl rfl ?_
  refine zF_callVi 19 (d2 := (d + 7)) (as := [zI h, zI f]) dX11_run_16 rfl kX11_283 iX8_runOf (ci := 8) rfl eX8_runOf (Nat.le_refl _) hB.st.1 hB.st.2.1 rfl rfl (Nat.le_of_ble_eq_true rfl) (zt_X8_runOf hB hR hV (by omega) (by omega) (by omega) (by omega)) ?_
  exact zF_ireturn dX11_run_19 rfl (zopR (by repeat (first | rw [if_pos (by omega)] | rw [if_neg (by omega)])) (rfl))
theorem zt_X11_total {w : Int} (hG : zGd G) (hO : cO σ B) (hR : cR N σ B) (hV : mV N) (zw : zrg w) : zE G mX11_total (d + 8) [zR (B 0), zI w] σ (zop (if 0 ≤ w ∧ w ≤ 4 then 0 else 1) (sTotal N w) σ) := by
  refine zE_of rfl (by simp [zcat]) (Nat.le_of_ble_eq_true rfl) ?_
  show zF G mX11_total (d + 8) 0 [(0, zR (B 0)), (1, zI w)] [] σ _
  have hB := hO.1
  have hb := hV.b
  have hn := hV.n
  refine zF_aload_n 1 dX11_total_0 rfl rfl ?_
  refine zF_getR 4 dX11_total_1 rfl gX11_34 hO.2.1 hO.2.2.1 hO.2.2.2.2.2.2.1 ?_
  refine zF_getR 7 dX11_total_4 rfl gX11_311 hB.st.1 hB.st.2.1 (cB_214 hB).1 ?_
  refine zF_astore_n 8 (ls' := [(2, zR (B 214)), (0, zR (B 0)), (1, zI w)]) dX11_total_7 rfl (by decide) rfl ?_
  refine zF_iload_n 9 dX11_total_8 rfl rfl ?_
  refine zF_iconst 10 dX11_total_9 rfl ?_
  refine zF_icmp_ne 29 13 dX11_total_10 rfl rfl (by first | decide | assumption | exact hb _ | exact mSh_rg hb _ _ | exact zb_rg _ | (constructor <;> omega)) (by first | decide | assumption | exact hb _ | exact mSh_rg hb _ _ | exact zb_rg _ | (constructor <;> omega)) (fun c1 => ?_) (fun c1 => ?_)
  · refine zF_iload_n 30 dX11_total_29 rfl rfl ?_
    refine zF_if_lt 38 33 dX11_total_30 rfl rfl (by first | decide | assumption | exact hb _ | exact mSh_rg hb _ _ | exact zb_rg _ | (constructor <;> omega)) (fun c2 => ?_) (fun c2 => ?_)
    · exact zF_throw hG rfl zrxN0 zrxN1 zrxN2 zrxN5 zatN zckN zinN (by decide) (by decide) rfl (i := 7) rfl dX11_total_38 dX11_total_41 dX11_total_42 dX11_total_44 dX11_total_47 (by omega) (Nat.le_of_ble_eq_true rfl) (zopN (by repeat (first | rw [if_pos (by omega)] | rw [if_neg (by omega)])))
    · refine zF_iload_n 34 dX11_total_33 rfl rfl ?_
      refine zF_iconst 35 dX11_total_34 rfl ?_
      refine zF_icmp_le 48 38 dX11_total_35 rfl rfl (by first | decide | assumption | exact hb _ | exact mSh_rg hb _ _ | exact zb_rg _ | (constructor <;> omega)) (by first | decide | assumption | exact hb _ | exact mSh_rg hb _ _ | exact zb_rg _ | (constructor <;> omega)) (fun c3 => ?_) (fun c3 => ?_)
      · refine zF_aload_n 49 dX11_total_48 rfl rfl ?_
        refine zF_iload_n 50 dX11_total_49 rfl rfl ?_
        refine zF_iaload 51 dX11_total_50 rfl (cB_214 hB).2.2 (cB_214 hB).2.1 (by omega) (by omega) (hR.s.2.2.2.2.1 _ (by omega) (by omega)) ?_
        exact zF_ireturn dX11_total_51 rfl (zopR (by repeat (first | rw [if_pos (by omega)] | rw [if_neg (by omega)])) (by first | rfl | (unfold sTotal; rw [if_pos (by omega)]; first | done | rfl) | (unfold sTotal; rw [if_neg (by omega)]; first | done | rfl)))
      · exact zF_throw hG rfl zrxN0 zrxN1 zrxN2 zrxN5 zatN zckN zinN (by decide) (by decide) rfl (i := 7) rfl dX11_total_38 dX11_total_41 dX11_total_42 dX11_total_44 dX11_total_47 (by omega) (Nat.le_of_ble_eq_true rfl) (zopN (by repeat (first | rw [if_pos (by omega)] | rw [if_neg (by omega)])))
  · refine zF_aload_n 14 dX11_total_13 rfl rfl ?_
    refine zF_iconst 15 dX11_total_14 rfl ?_
    refine zF_iaload 16 dX11_total_15 rfl (cB_214 hB).2.2 (cB_214 hB).2.1 (by omega) (by omega) (hR.s.2.2.2.2.1 _ (by omega) (by omega)) ?_
    refine zF_aload_n 17 dX11_total_16 rfl rfl ?_
    refine zF_iconst 18 dX11_total_17 rfl ?_
    refine zF_iaload 19 dX11_total_18 rfl (cB_214 hB).2.2 (cB_214 hB).2.1 (by omega) (by omega) (hR.s.2.2.2.2.1 _ (by omega) (by omega)) ?_
    refine zF_isub 20 dX11_total_19 rfl ?_
    refine zF_aload_n 21 dX11_total_20 rfl rfl ?_
    refine zF_iconst 22 dX11_total_21 rfl ?_
    refine zF_iaload 23 dX11_total_22 rfl (cB_214 hB).2.2 (cB_214 hB).2.1 (by omega) (by omega) (hR.s.2.2.2.2.1 _ (by omega) (by omega)) ?_
    refine zF_isub 24 dX11_total_23 rfl ?_
    refine zF_aload_n 25 dX11_total_24 rfl rfl ?_
    refine zF_iconst 26 dX11_total_25 rfl ?_
    refine zF_iaload 27 dX11_total_26 rfl (cB_214 hB).2.2 (cB_214 hB).2.1 (by omega) (by omega) (hR.s.2.2.2.2.1 _ (by omega) (by omega)) ?_
    refine zF_isub 28 dX11_total_27 rfl ?_
    exact zF_ireturn dX11_total_28 rfl (zopR (by repeat (first | rw [if_pos (by omega)] | rw [if_neg (by omega)])) (by first | rfl | (unfold sTotal; rw [if_pos (by omega)]; first | done | rfl) | (unfold sTotal; rw [if_neg (by omega)]; first | done | rfl)))
theorem zt_X8_logged {c w : Int} (hB : cM σ B) (hR : cR N σ B) (hV : mV N) (c0 : 0 ≤ c) (c1 : c < N 3) (c2 : N 3 - 20 ≤ c) (w0 : 0 ≤ w) (w1 : w < 5) : zP1 G mX8_logged d [zR (B 200), zI c, zI w] σ (N (212 + 5 * (N 3 - 1 - c) + w)) := by
  refine zE_of rfl (by simp [zcat]) (Nat.le_of_ble_eq_true rfl) ?_
  show zF G mX8_logged d 0 [(0, zR (B 200)), (1, zI c), (2, zI w)] [] σ _
  have hb := hV.b
  have hn := hV.n
  have q1 := hR.s.2.2.2.2.2 (N 3 - 1 - c) w (by omega) (by omega) w0 w1
  rw [show N 3 - 1 - (N 3 - 1 - c) = c by omega] at q1
  refine zF_aload_n 1 dX8_logged_0 rfl rfl ?_
  refine zF_getR 4 dX8_logged_1 rfl gX8_48 hB.st.1 hB.st.2.1 (cB_215 hB).1 ?_
  refine zF_iload_n 5 dX8_logged_4 rfl rfl ?_
  refine zF_bipush 7 dX8_logged_5 rfl (by decide) ?_
  refine zF_irem 8 dX8_logged_7 rfl (by omega) (by omega) (by omega) (by omega) ?_
  refine zF_iconst 9 dX8_logged_8 rfl ?_
  refine zF_imul 10 dX8_logged_9 rfl ?_
  refine zF_iload_n 11 dX8_logged_10 rfl rfl ?_
  refine zF_iadd 12 dX8_logged_11 rfl ?_
  refine zF_iaload 13 dX8_logged_12 rfl (cB_215 hB).2.2 (cB_215 hB).2.1 (by omega) (by omega) q1 ?_
  exact zF_iretP dX8_logged_13 rfl (rfl)
theorem zt_X11_closed {b w : Int} (hG : zGd G) (hO : cO σ B) (hR : cR N σ B) (hV : mV N) (zb : zrg b) (zw : zrg w) : zE G mX11_closed (d + 8) [zR (B 0), zI b, zI w] σ (zop (if 0 ≤ b ∧ b < min 20 (N 3) then if 0 ≤ w ∧ w < 5 then 0 else 1 else 1) (N (212 + 5 * b + w)) σ) := by
  refine zE_of rfl (by simp [zcat]) (Nat.le_of_ble_eq_true rfl) ?_
  show zF G mX11_closed (d + 8) 0 [(0, zR (B 0)), (1, zI b), (2, zI w)] [] σ _
  have hB := hO.1
  have hb := hV.b
  have hn := hV.n
  refine zF_iload_n 1 dX11_closed_0 rfl rfl ?_
  refine zF_if_lt 21 4 dX11_closed_1 rfl rfl (by first | decide | assumption | exact hb _ | exact mSh_rg hb _ _ | exact zb_rg _ | (constructor <;> omega)) (fun c1 => ?_) (fun c1 => ?_)
  · exact zF_throwW hG rfl zrxN0 zrxN1 zrxN2 zrxN5 zatN zckN zinN (by decide) (by decide) rfl (i := 14) rfl dX11_closed_21 dX11_closed_24 dX11_closed_25 dX11_closed_28 dX11_closed_31 (by omega) (Nat.le_of_ble_eq_true rfl) (zopN (by repeat (first | rw [if_pos (by omega)] | rw [if_neg (by omega)])))
  · refine zF_iload_n 5 dX11_closed_4 rfl rfl ?_
    refine zF_aload_n 6 dX11_closed_5 rfl rfl ?_
    refine zF_getR 9 dX11_closed_6 rfl gX11_34 hO.2.1 hO.2.2.1 hO.2.2.2.2.2.2.1 ?_
    refine zF_getI 12 dX11_closed_9 rfl gX11_161 (by decide) (by decide) hB.st.1 hB.st.2.1 hR.s.1.1 ?_
    refine zF_icmp_ge 21 15 dX11_closed_12 rfl rfl (by first | decide | assumption | exact hb _ | exact mSh_rg hb _ _ | exact zb_rg _ | (constructor <;> omega)) (by first | decide | assumption | exact hb _ | exact mSh_rg hb _ _ | exact zb_rg _ | (constructor <;> omega)) (fun c2 => ?_) (fun c2 => ?_)
    · exact zF_throwW hG rfl zrxN0 zrxN1 zrxN2 zrxN5 zatN zckN zinN (by decide) (by decide) rfl (i := 14) rfl dX11_closed_21 dX11_closed_24 dX11_closed_25 dX11_closed_28 dX11_closed_31 (by omega) (Nat.le_of_ble_eq_true rfl) (zopN (by repeat (first | rw [if_pos (by omega)] | rw [if_neg (by omega)])))
    · refine zF_iload_n 16 dX11_closed_15 rfl rfl ?_
      refine zF_bipush 18 dX11_closed_16 rfl (by decide) ?_
      refine zF_icmp_lt 32 21 dX11_closed_18 rfl rfl (by first | decide | assumption | exact hb _ | exact mSh_rg hb _ _ | exact zb_rg _ | (constructor <;> omega)) (by first | decide | assumption | exact hb _ | exact mSh_rg hb _ _ | exact zb_rg _ | (constructor <;> omega)) (fun c3 => ?_) (fun c3 => ?_)
      · refine zF_iload_n 33 dX11_closed_32 rfl rfl ?_
        refine zF_if_lt 41 36 dX11_closed_33 rfl rfl (by first | decide | assumption | exact hb _ | exact mSh_rg hb _ _ | exact zb_rg _ | (constructor <;> omega)) (fun c4 => ?_) (fun c4 => ?_)
        · exact zF_throw hG rfl zrxN0 zrxN1 zrxN2 zrxN5 zatN zckN zinN (by decide) (by decide) rfl (i := 7) rfl dX11_closed_41 dX11_closed_44 dX11_closed_45 dX11_closed_47 dX11_closed_50 (by omega) (Nat.le_of_ble_eq_true rfl) (zopN (by repeat (first | rw [if_pos (by omega)] | rw [if_neg (by omega)])))
        · refine zF_iload_n 37 dX11_closed_36 rfl rfl ?_
          refine zF_iconst 38 dX11_closed_37 rfl ?_
          refine zF_icmp_lt 51 41 dX11_closed_38 rfl rfl (by first | decide | assumption | exact hb _ | exact mSh_rg hb _ _ | exact zb_rg _ | (constructor <;> omega)) (by first | decide | assumption | exact hb _ | exact mSh_rg hb _ _ | exact zb_rg _ | (constructor <;> omega)) (fun c5 => ?_) (fun c5 => ?_)
          · refine zF_aload_n 52 dX11_closed_51 rfl rfl ?_
            refine zF_getR 55 dX11_closed_52 rfl gX11_34 hO.2.1 hO.2.2.1 hO.2.2.2.2.2.2.1 ?_
            refine zF_aload_n 56 dX11_closed_55 rfl rfl ?_
            refine zF_getR 59 dX11_closed_56 rfl gX11_34 hO.2.1 hO.2.2.1 hO.2.2.2.2.2.2.1 ?_
            refine zF_getI 62 dX11_closed_59 rfl gX11_161 (by decide) (by decide) hB.st.1 hB.st.2.1 hR.s.1.1 ?_
            refine zF_iconst 63 dX11_closed_62 rfl ?_
            refine zF_isub 64 dX11_closed_63 rfl ?_
            refine zF_iload_n 65 dX11_closed_64 rfl rfl ?_
            refine zF_isub 66 dX11_closed_65 rfl ?_
            refine zF_iload_n 67 dX11_closed_66 rfl rfl ?_
            refine zF_callVi 70 (d2 := (d + 7)) (as := [zI (((N 3) - 1) - b), zI w]) dX11_closed_67 rfl kX11_316 iX8_logged (ci := 8) rfl eX8_logged (Nat.le_refl _) hB.st.1 hB.st.2.1 rfl rfl (Nat.le_of_ble_eq_true rfl) (zt_X8_logged hB hR hV (by omega) (by omega) (by omega) (by omega) (by omega)) ?_
            exact zF_ireturn dX11_closed_70 rfl (zopR (by repeat (first | rw [if_pos (by omega)] | rw [if_neg (by omega)])) (by congr 1; omega))
          · exact zF_throw hG rfl zrxN0 zrxN1 zrxN2 zrxN5 zatN zckN zinN (by decide) (by decide) rfl (i := 7) rfl dX11_closed_41 dX11_closed_44 dX11_closed_45 dX11_closed_47 dX11_closed_50 (by omega) (Nat.le_of_ble_eq_true rfl) (zopN (by repeat (first | rw [if_pos (by omega)] | rw [if_neg (by omega)])))
      · exact zF_throwW hG rfl zrxN0 zrxN1 zrxN2 zrxN5 zatN zckN zinN (by decide) (by decide) rfl (i := 14) rfl dX11_closed_21 dX11_closed_24 dX11_closed_25 dX11_closed_28 dX11_closed_31 (by omega) (Nat.le_of_ble_eq_true rfl) (zopN (by repeat (first | rw [if_pos (by omega)] | rw [if_neg (by omega)])))
end ZC3
