/-! doubles and floats: no NaN comes where whole numbers are divided -/
section ZFP
abbrev fcFmt : Type := FP.Core.Fmt
def zNN (f : FP.Core.Fmt) (D : FP.Core.Datum) : Prop := match D with
  | .nan => False
  | .inf _ => True
  | .fin _ c q => c < 2 ^ f.p ∧ q ≤ f.qmax
theorem zNN_bound {f : FP.Core.Fmt} {s : Bool} {c : Nat} {q : Int} (hc : c < 2 ^ f.p) : zNN f (FP.Core.bound f s c q) := by
  unfold FP.Core.bound
  by_cases h : q ≤ f.qmax
  · rw [if_pos h]; exact ⟨hc, h⟩
  · rw [if_neg h]; exact trivial
theorem zNN_settle {f : FP.Core.Fmt} {s : Bool} {c : Nat} {q : Int} (ht : f.tails < 2 ^ f.p) : zNN f (FP.Core.settle f s c q) := by
  unfold FP.Core.settle
  by_cases h : c < 2 ^ f.p
  · rw [if_pos h]; exact zNN_bound h
  · rw [if_neg h]; exact zNN_bound ht
theorem zNN_ratio {f : FP.Core.Fmt} {s : Bool} {n d : Nat} {e : Int} (ht : f.tails < 2 ^ f.p) (hq : f.qmin ≤ f.qmax) : zNN f (FP.Core.roundRatio f s n d e) := by
  unfold FP.Core.roundRatio
  by_cases h : n = 0
  · rw [if_pos h]; exact ⟨Nat.lt_of_le_of_lt (Nat.zero_le _) ht, hq⟩
  · rw [if_neg h]; exact zNN_settle ht
theorem zNN_round {f : FP.Core.Fmt} {D : FP.Core.Datum} (ht : f.tails < 2 ^ f.p) (hq : f.qmin ≤ f.qmax) (h : D ≠ .nan) : zNN f (FP.Core.round f D) := by
  cases D with
  | nan => exact absurd rfl h
  | inf s => exact trivial
  | fin s c q => exact zNN_ratio ht hq
theorem zNN_quot {f : FP.Core.Fmt} {D : FP.Core.Datum} {t : Bool} {d : Nat} {r : Int} (ht : f.tails < 2 ^ f.p) (hq : f.qmin ≤ f.qmax) (h : D ≠ .nan) (hd : d ≠ 0) : zNN f (FP.Core.quotient f D (.fin t d r)) := by
  cases D with
  | nan => exact absurd rfl h
  | inf s => exact trivial
  | fin s c q =>
    show zNN f (if d = 0 then _ else _)
    rw [if_neg hd]; exact zNN_ratio ht hq
theorem zbt (s : Bool) : s.toNat = 0 ∨ s.toNat = 1 := by cases s <;> decide
theorem zen64 {D : FP.Core.Datum} (h : zNN FP.Core.b64 D) : FP.Core.encode FP.Core.b64 D % 9223372036854775808 ≤ 9218868437227405312 ∧ FP.Core.encode FP.Core.b64 D < 18446744073709551616 := by
  cases D with
  | nan => exact absurd h id
  | inf s =>
    show ((s.toNat * 2048 + 2047) * 4503599627370496 + 0) % 9223372036854775808 ≤ 9218868437227405312 ∧ (s.toNat * 2048 + 2047) * 4503599627370496 + 0 < 18446744073709551616
    rcases zbt s with e | e <;> rw [e] <;> decide
  | fin s c q =>
    have hc : c < 9007199254740992 := h.1
    have hq : q ≤ 971 := h.2
    have e1 : FP.Core.encode FP.Core.b64 (.fin s c q) = if c < 4503599627370496 then (s.toNat * 2048 + 0) * 4503599627370496 + c else (s.toNat * 2048 + ((q - (-1074)).toNat + 1)) * 4503599627370496 + (c - 4503599627370496) := rfl
    rw [e1]
    rcases zbt s with e | e <;> rw [e] <;> split <;> omega
theorem zen32 {D : FP.Core.Datum} (h : zNN FP.Core.b32 D) : FP.Core.encode FP.Core.b32 D % 2147483648 ≤ 2139095040 ∧ FP.Core.encode FP.Core.b32 D < 4294967296 := by
  cases D with
  | nan => exact absurd h id
  | inf s =>
    show ((s.toNat * 256 + 255) * 8388608 + 0) % 2147483648 ≤ 2139095040 ∧ (s.toNat * 256 + 255) * 8388608 + 0 < 4294967296
    rcases zbt s with e | e <;> rw [e] <;> decide
  | fin s c q =>
    have hc : c < 16777216 := h.1
    have hq : q ≤ 104 := h.2
    have e1 : FP.Core.encode FP.Core.b32 (.fin s c q) = if c < 8388608 then (s.toNat * 256 + 0) * 8388608 + c else (s.toNat * 256 + ((q - (-149)).toNat + 1)) * 8388608 + (c - 8388608) := rfl
    rw [e1]
    rcases zbt s with e | e <;> rw [e] <;> split <;> omega
theorem zdec64 {n : Nat} (h : n % 9223372036854775808 ≤ 9218868437227405312) : FP.Core.decode FP.Core.b64 n ≠ .nan := by
  have e1 : FP.Core.decode FP.Core.b64 n = if n / 4503599627370496 % 2048 = 2047 then (if n % 4503599627370496 = 0 then .inf (FP.Core.fieldS FP.Core.b64 n) else .nan) else if n / 4503599627370496 % 2048 = 0 then .fin (FP.Core.fieldS FP.Core.b64 n) (n % 4503599627370496) FP.Core.b64.qmin else .fin (FP.Core.fieldS FP.Core.b64 n) (4503599627370496 + n % 4503599627370496) (FP.Core.b64.qmin + (((n / 4503599627370496 % 2048 : Nat) : Int) - 1)) := rfl
  rw [e1]
  by_cases a : n / 4503599627370496 % 2048 = 2047
  · rw [if_pos a, if_pos (by omega)]; exact fun z => nomatch z
  · rw [if_neg a]
    split <;> exact fun z => nomatch z
theorem zdec32 {n : Nat} (h : n % 2147483648 ≤ 2139095040) : FP.Core.decode FP.Core.b32 n ≠ .nan := by
  have e1 : FP.Core.decode FP.Core.b32 n = if n / 8388608 % 256 = 255 then (if n % 8388608 = 0 then .inf (FP.Core.fieldS FP.Core.b32 n) else .nan) else if n / 8388608 % 256 = 0 then .fin (FP.Core.fieldS FP.Core.b32 n) (n % 8388608) FP.Core.b32.qmin else .fin (FP.Core.fieldS FP.Core.b32 n) (8388608 + n % 8388608) (FP.Core.b32.qmin + (((n / 8388608 % 256 : Nat) : Int) - 1)) := rfl
  rw [e1]
  by_cases a : n / 8388608 % 256 = 255
  · rw [if_pos a, if_pos (by omega)]; exact fun z => nomatch z
  · rw [if_neg a]
    split <;> exact fun z => nomatch z
theorem zu64 (n : Nat) : (UInt64.ofNat n).toNat = n % 18446744073709551616 := UInt64.toNat_ofNat'
theorem zu32 (n : Nat) : (UInt32.ofNat n).toNat = n % 4294967296 := UInt32.toNat_ofNat'
theorem zvf64 {n : Nat} (h : n % 9223372036854775808 ≤ 9218868437227405312) : vf_n64 (UInt64.ofNat n) := by
  show UInt64.ofNat n &&& 0x7fffffffffffffff ≤ 0x7ff0000000000000
  rw [UInt64.le_iff_toNat_le, UInt64.toNat_and, zu64]
  show (n % 18446744073709551616) &&& (2 ^ 63 - 1) ≤ 9218868437227405312
  rw [Nat.and_two_pow_sub_one_eq_mod]
  omega
theorem zvf32 {n : Nat} (h : n % 2147483648 ≤ 2139095040) : vf_n32 (UInt32.ofNat n) := by
  show UInt32.ofNat n &&& 0x7fffffff ≤ 0x7f800000
  rw [UInt32.le_iff_toNat_le, UInt32.toNat_and, zu32]
  show (n % 4294967296) &&& (2 ^ 31 - 1) ≤ 2139095040
  rw [Nat.and_two_pow_sub_one_eq_mod]
  omega
/-- bits that stand for a number, and for a number that is finite and not zero -/
def zD64 (a : UInt64) : Prop := FP.Core.decode FP.Core.b64 a.toNat ≠ .nan
def zD32 (a : UInt32) : Prop := FP.Core.decode FP.Core.b32 a.toNat ≠ .nan
def zZ64 (a : UInt64) : Prop := ∃ t d r, FP.Core.decode FP.Core.b64 a.toNat = .fin t d r ∧ d ≠ 0
def zZ32 (a : UInt32) : Prop := ∃ t d r, FP.Core.decode FP.Core.b32 a.toNat = .fin t d r ∧ d ≠ 0
theorem zD64_enc {D : FP.Core.Datum} (h : zNN FP.Core.b64 D) : zD64 (UInt64.ofNat (FP.Core.encode FP.Core.b64 D)) := by
  unfold zD64
  have q := zen64 h
  rw [zu64, Nat.mod_eq_of_lt q.2]
  exact zdec64 q.1
theorem zD32_enc {D : FP.Core.Datum} (h : zNN FP.Core.b32 D) : zD32 (UInt32.ofNat (FP.Core.encode FP.Core.b32 D)) := by
  unfold zD32
  have q := zen32 h
  rw [zu32, Nat.mod_eq_of_lt q.2]
  exact zdec32 q.1
theorem zt64 : FP.Core.b64.tails < 2 ^ FP.Core.b64.p := by decide
theorem zt32 : FP.Core.b32.tails < 2 ^ FP.Core.b32.p := by decide
theorem zq64 : FP.Core.b64.qmin ≤ FP.Core.b64.qmax := by decide
theorem zq32 : FP.Core.b32.qmin ≤ FP.Core.b32.qmax := by decide
theorem zi2d_D (x : Int32) : zD64 (FP.i2d x) := zD64_enc (zNN_round zt64 zq64 (fun z => nomatch z))
theorem zi2f_D (x : Int32) : zD32 (FP.i2f x) := zD32_enc (zNN_round zt32 zq32 (fun z => nomatch z))
theorem zddiv_v {a b : UInt64} (ha : zD64 a) (hb : zZ64 b) : zNN FP.Core.b64 (FP.Core.quotient FP.Core.b64 (FP.Core.decode FP.Core.b64 a.toNat) (FP.Core.decode FP.Core.b64 b.toNat)) := by
  obtain ⟨t, d, r, e, hd⟩ := hb
  rw [e]; exact zNN_quot zt64 zq64 ha hd
theorem zfdiv_v {a b : UInt32} (ha : zD32 a) (hb : zZ32 b) : zNN FP.Core.b32 (FP.Core.quotient FP.Core.b32 (FP.Core.decode FP.Core.b32 a.toNat) (FP.Core.decode FP.Core.b32 b.toNat)) := by
  obtain ⟨t, d, r, e, hd⟩ := hb
  rw [e]; exact zNN_quot zt32 zq32 ha hd
theorem zddiv_n {a b : UInt64} (ha : zD64 a) (hb : zZ64 b) : vf_n64 (FP.ddiv a b) := zvf64 (zen64 (zddiv_v ha hb)).1
theorem zddiv_D {a b : UInt64} (ha : zD64 a) (hb : zZ64 b) : zD64 (FP.ddiv a b) := zD64_enc (zddiv_v ha hb)
theorem zfdiv_n {a b : UInt32} (ha : zD32 a) (hb : zZ32 b) : vf_n32 (FP.fdiv a b) := zvf32 (zen32 (zfdiv_v ha hb)).1
theorem zfdiv_D {a b : UInt32} (ha : zD32 a) (hb : zZ32 b) : zD32 (FP.fdiv a b) := zD32_enc (zfdiv_v ha hb)
theorem zf2d_e {a : UInt32} (ha : zD32 a) : FP.f2d a = UInt64.ofNat (FP.Core.encode FP.Core.b64 (FP.Core.round FP.Core.b64 (FP.Core.decode FP.Core.b32 a.toNat))) := by
  have e : FP.Core.fIsNaN a = false := decide_eq_false ha
  unfold FP.f2d
  rw [e]
  rfl
theorem zf2d_n {a : UInt32} (ha : zD32 a) : vf_n64 (FP.f2d a) := by
  rw [zf2d_e ha]; exact zvf64 (zen64 (zNN_round zt64 zq64 ha)).1
theorem zf2d_D {a : UInt32} (ha : zD32 a) : zD64 (FP.f2d a) := by
  rw [zf2d_e ha]; exact zD64_enc (zNN_round zt64 zq64 ha)
theorem zcmp_s (a : Int) : compare a a = .eq := by
  show compareOfLessAndEq a a = .eq
  unfold compareOfLessAndEq
  rw [if_neg (Int.lt_irrefl a), if_pos rfl]
theorem zdcmp {a : UInt64} (ha : zD64 a) : FP.dcmp a a = some .eq := by
  show FP.Core.order (FP.Core.decode FP.Core.b64 a.toNat) (FP.Core.decode FP.Core.b64 a.toNat) = some .eq
  unfold zD64 at ha
  cases h : FP.Core.decode FP.Core.b64 a.toNat with
  | nan => exact absurd h ha
  | inf s => exact congrArg some (zcmp_s _)
  | fin s c q => exact congrArg some (zcmp_s _)
/-- a whole number as a double, and as a float -/
theorem zlead {n : Nat} (h0 : 0 < n) : FP.Core.leading n 1 = (n.log2 : Int) := by
  have e : ((n.log2 : Int) - ((1 : Nat).log2 : Int)) = (n.log2 : Int) := by
    have : (1 : Nat).log2 = 0 := by decide
    rw [this]; omega
  unfold FP.Core.leading
  rw [e]
  have a := Nat.log2_self_le (n := n) (by omega)
  have c : 1 * 2 ^ ((n.log2 : Nat) : Int).toNat ≤ n * 2 ^ (-((n.log2 : Nat) : Int)).toNat := by
    rw [show (-((n.log2 : Nat) : Int)).toNat = 0 by omega, Int.toNat_natCast]; omega
  exact if_pos c
theorem zround1 {f : FP.Core.Fmt} {s : Bool} {n P : Nat} (hp : f.p = P + 1) (h0 : 0 < n) (hL : n.log2 ≤ P) (hq : f.qmin ≤ (n.log2 : Int) - P) (hm : (n.log2 : Int) - P ≤ f.qmax) :
    ∃ c, FP.Core.roundRatio f s n 1 0 = .fin s c ((n.log2 : Int) - P) ∧ 2 ^ P ≤ c ∧ c < 2 ^ (P + 1) := by
  have a := Nat.log2_self_le (n := n) (by omega)
  have b := Nat.lt_log2_self (n := n)
  have eq : FP.Core.quantum f n 1 0 = (n.log2 : Int) - P := by
    unfold FP.Core.quantum
    rw [zlead h0, hp]
    omega
  have eu : FP.Core.unitsNum n 0 ((n.log2 : Int) - P) = n * 2 ^ (P - n.log2) := by
    unfold FP.Core.unitsNum
    rw [show (0 - ((n.log2 : Int) - P)).toNat = P - n.log2 by omega]
  have ed : FP.Core.unitsDen 1 0 ((n.log2 : Int) - P) = 1 := by
    unfold FP.Core.unitsDen
    rw [show ((n.log2 : Int) - P - 0).toNat = 0 by omega]
  have en : ∀ m : Nat, FP.Core.nearest m 1 = m := fun m => by
    unfold FP.Core.nearest
    rw [Nat.mod_one, if_pos (by omega), Nat.div_one]
  have lo : 2 ^ P ≤ n * 2 ^ (P - n.log2) := by
    have := Nat.mul_le_mul_right (2 ^ (P - n.log2)) a
    rwa [← Nat.pow_add, show n.log2 + (P - n.log2) = P by omega] at this
  have hi : n * 2 ^ (P - n.log2) < 2 ^ (P + 1) := by
    have := Nat.mul_lt_mul_of_pos_right b (show 0 < 2 ^ (P - n.log2) from Nat.pow_pos (by decide))
    rwa [← Nat.pow_add, show n.log2 + 1 + (P - n.log2) = P + 1 by omega] at this
  refine ⟨n * 2 ^ (P - n.log2), ?_, lo, hi⟩
  unfold FP.Core.roundRatio
  rw [if_neg (by omega), eq]
  unfold FP.Core.roundAt
  rw [eu, ed, en]
  unfold FP.Core.settle
  rw [hp, if_pos hi]
  unfold FP.Core.bound
  rw [if_pos hm]
theorem zi2d_Z {x : Int32} (h : 0 < x.toInt) : zZ64 (FP.i2d x) := by
  have hx : x.toInt < 2147483648 := Int32.toInt_lt x
  have h0 : 0 < x.toInt.natAbs := by omega
  have hl : x.toInt.natAbs.log2 < 31 := (Nat.log2_lt (by omega)).mpr (by omega)
  obtain ⟨c, e, c0, c1⟩ := zround1 (f := FP.Core.b64) (s := decide (x.toInt < 0)) (n := x.toInt.natAbs) (P := 52) rfl h0 (by omega) (by show (-1074 : Int) ≤ _; omega) (by show _ ≤ (971 : Int); omega)
  have c0' : 4503599627370496 ≤ c := c0
  have c1' : c < 9007199254740992 := c1
  have en : FP.Core.encode FP.Core.b64 (.fin (decide (x.toInt < 0)) c ((x.toInt.natAbs.log2 : Int) - 52)) = if c < 4503599627370496 then ((decide (x.toInt < 0)).toNat * 2048 + 0) * 4503599627370496 + c else ((decide (x.toInt < 0)).toNat * 2048 + (((x.toInt.natAbs.log2 : Int) - 52 - (-1074)).toNat + 1)) * 4503599627370496 + (c - 4503599627370496) := rfl
  have ev : (FP.i2d x).toNat = FP.Core.encode FP.Core.b64 (.fin (decide (x.toInt < 0)) c ((x.toInt.natAbs.log2 : Int) - 52)) := by
    show (UInt64.ofNat (FP.Core.encode FP.Core.b64 (FP.Core.roundRatio FP.Core.b64 (decide (x.toInt < 0)) x.toInt.natAbs 1 0))).toNat = _
    have e' : FP.Core.roundRatio FP.Core.b64 (decide (x.toInt < 0)) x.toInt.natAbs 1 0 = .fin (decide (x.toInt < 0)) c ((x.toInt.natAbs.log2 : Int) - 52) := e
    rw [e', zu64, Nat.mod_eq_of_lt]
    exact (zen64 (D := .fin _ c _) ⟨c1', by show _ ≤ (971 : Int); omega⟩).2
  rw [if_neg (by omega), show (decide (x.toInt < 0)).toNat = 0 by rw [decide_eq_false (by omega)]; rfl] at en
  unfold zZ64
  rw [ev, en]
  generalize hm : (0 * 2048 + (((x.toInt.natAbs.log2 : Int) - 52 - (-1074)).toNat + 1)) * 4503599627370496 + (c - 4503599627370496) = m
  have e1 : FP.Core.decode FP.Core.b64 m = if m / 4503599627370496 % 2048 = 2047 then (if m % 4503599627370496 = 0 then .inf (FP.Core.fieldS FP.Core.b64 m) else .nan) else if m / 4503599627370496 % 2048 = 0 then .fin (FP.Core.fieldS FP.Core.b64 m) (m % 4503599627370496) FP.Core.b64.qmin else .fin (FP.Core.fieldS FP.Core.b64 m) (4503599627370496 + m % 4503599627370496) (FP.Core.b64.qmin + (((m / 4503599627370496 % 2048 : Nat) : Int) - 1)) := rfl
  rw [e1, if_neg (by omega), if_neg (by omega)]
  exact ⟨_, _, _, rfl, by omega⟩
theorem zi2f_Z {x : Int32} (h : 0 < x.toInt) (h2 : x.toInt < 16777216) : zZ32 (FP.i2f x) := by
  have h0 : 0 < x.toInt.natAbs := by omega
  have hl : x.toInt.natAbs.log2 < 24 := (Nat.log2_lt (by omega)).mpr (by omega)
  obtain ⟨c, e, c0, c1⟩ := zround1 (f := FP.Core.b32) (s := decide (x.toInt < 0)) (n := x.toInt.natAbs) (P := 23) rfl h0 (by omega) (by show (-149 : Int) ≤ _; omega) (by show _ ≤ (104 : Int); omega)
  have c0' : 8388608 ≤ c := c0
  have c1' : c < 16777216 := c1
  have en : FP.Core.encode FP.Core.b32 (.fin (decide (x.toInt < 0)) c ((x.toInt.natAbs.log2 : Int) - 23)) = if c < 8388608 then ((decide (x.toInt < 0)).toNat * 256 + 0) * 8388608 + c else ((decide (x.toInt < 0)).toNat * 256 + (((x.toInt.natAbs.log2 : Int) - 23 - (-149)).toNat + 1)) * 8388608 + (c - 8388608) := rfl
  have ev : (FP.i2f x).toNat = FP.Core.encode FP.Core.b32 (.fin (decide (x.toInt < 0)) c ((x.toInt.natAbs.log2 : Int) - 23)) := by
    show (UInt32.ofNat (FP.Core.encode FP.Core.b32 (FP.Core.roundRatio FP.Core.b32 (decide (x.toInt < 0)) x.toInt.natAbs 1 0))).toNat = _
    have e' : FP.Core.roundRatio FP.Core.b32 (decide (x.toInt < 0)) x.toInt.natAbs 1 0 = .fin (decide (x.toInt < 0)) c ((x.toInt.natAbs.log2 : Int) - 23) := e
    rw [e', zu32, Nat.mod_eq_of_lt]
    exact (zen32 (D := .fin _ c _) ⟨c1', by show _ ≤ (104 : Int); omega⟩).2
  rw [if_neg (by omega), show (decide (x.toInt < 0)).toNat = 0 by rw [decide_eq_false (by omega)]; rfl] at en
  unfold zZ32
  rw [ev, en]
  generalize hm : (0 * 256 + (((x.toInt.natAbs.log2 : Int) - 23 - (-149)).toNat + 1)) * 8388608 + (c - 8388608) = m
  have e1 : FP.Core.decode FP.Core.b32 m = if m / 8388608 % 256 = 255 then (if m % 8388608 = 0 then .inf (FP.Core.fieldS FP.Core.b32 m) else .nan) else if m / 8388608 % 256 = 0 then .fin (FP.Core.fieldS FP.Core.b32 m) (m % 8388608) FP.Core.b32.qmin else .fin (FP.Core.fieldS FP.Core.b32 m) (8388608 + m % 8388608) (FP.Core.b32.qmin + (((m / 8388608 % 256 : Nat) : Int) - 1)) := rfl
  rw [e1, if_neg (by omega), if_neg (by omega)]
  exact ⟨_, _, _, rfl, by omega⟩
/-! the rules -/
variable {G : zG} {M : zMeth} {d pc : Nat} {ls : List (Nat × zV)} {st : List zV} {σ : zMem} {Q : zRes → zMem → Prop}
abbrev zDb (u : UInt64) : zV := zX (.double u)
abbrev zFl (u : UInt32) : zV := zX (.float u)
theorem zF_dconst0 (pc' : Nat) (hd : decode M.2.1 pc = .ok (.dconst 0, 1)) (hp : pc + 1 = pc') (k : zF G M d pc' ls (zDb FP.dconst0 :: st) σ Q) : zF G M d pc ls st σ Q := by
  subst hp
  refine zF_step rfl rfl rfl ?_ k
  intro ρ p e R s m args below meth c hC H locs cells slots lsA Qm hS hR1 hR2 kk
  exact lv_dconst0 hC.1 hC.2.1 hd (kk H locs lsA hS)
theorem zF_fconst0 (pc' : Nat) (hd : decode M.2.1 pc = .ok (.fconst 0, 1)) (hp : pc + 1 = pc') (k : zF G M d pc' ls (zFl FP.fconst0 :: st) σ Q) : zF G M d pc ls st σ Q := by
  subst hp
  refine zF_step rfl rfl rfl ?_ k
  intro ρ p e R s m args below meth c hC H locs cells slots lsA Qm hS hR1 hR2 kk
  exact lv_fconst0 hC.1 hC.2.1 hd (kk H locs lsA hS)
theorem zF_i2d (pc' : Nat) {a : Int} (hd : decode M.2.1 pc = .ok (.i2d, 1)) (hp : pc + 1 = pc') (k : zF G M d pc' ls (zDb (FP.i2d (Int32.ofInt a)) :: st) σ Q) : zF G M d pc ls (zI a :: st) σ Q := by
  subst hp
  refine zF_step rfl rfl rfl ?_ k
  intro ρ p e R s m args below meth c hC H locs cells slots lsA Qm hS hR1 hR2 kk
  exact lv_i2d hC.1 hC.2.1 hd (kk H locs lsA hS)
theorem zF_i2f (pc' : Nat) {a : Int} (hd : decode M.2.1 pc = .ok (.i2f, 1)) (hp : pc + 1 = pc') (k : zF G M d pc' ls (zFl (FP.i2f (Int32.ofInt a)) :: st) σ Q) : zF G M d pc ls (zI a :: st) σ Q := by
  subst hp
  refine zF_step rfl rfl rfl ?_ k
  intro ρ p e R s m args below meth c hC H locs cells slots lsA Qm hS hR1 hR2 kk
  exact lv_i2f hC.1 hC.2.1 hd (kk H locs lsA hS)
theorem zF_ddiv (pc' : Nat) {a b : UInt64} (hd : decode M.2.1 pc = .ok (.ddiv, 1)) (hp : pc + 1 = pc') (ha : zD64 a) (hb : zZ64 b) (k : zF G M d pc' ls (zDb (FP.ddiv a b) :: st) σ Q) : zF G M d pc ls (zDb b :: zDb a :: st) σ Q := by
  subst hp
  refine zF_step rfl rfl rfl ?_ k
  intro ρ p e R s m args below meth c hC H locs cells slots lsA Qm hS hR1 hR2 kk
  exact lv_ddiv hC.1 hC.2.1 hd (zddiv_n ha hb) (kk H locs lsA hS)
theorem zF_fdiv (pc' : Nat) {a b : UInt32} (hd : decode M.2.1 pc = .ok (.fdiv, 1)) (hp : pc + 1 = pc') (ha : zD32 a) (hb : zZ32 b) (k : zF G M d pc' ls (zFl (FP.fdiv a b) :: st) σ Q) : zF G M d pc ls (zFl b :: zFl a :: st) σ Q := by
  subst hp
  refine zF_step rfl rfl rfl ?_ k
  intro ρ p e R s m args below meth c hC H locs cells slots lsA Qm hS hR1 hR2 kk
  exact lv_fdiv hC.1 hC.2.1 hd (zfdiv_n ha hb) (kk H locs lsA hS)
theorem zF_f2d (pc' : Nat) {a : UInt32} (hd : decode M.2.1 pc = .ok (.f2d, 1)) (hp : pc + 1 = pc') (ha : zD32 a) (k : zF G M d pc' ls (zDb (FP.f2d a) :: st) σ Q) : zF G M d pc ls (zFl a :: st) σ Q := by
  subst hp
  refine zF_step rfl rfl rfl ?_ k
  intro ρ p e R s m args below meth c hC H locs cells slots lsA Qm hS hR1 hR2 kk
  exact lv_f2d hC.1 hC.2.1 hd (zf2d_n ha) (kk H locs lsA hS)
/-- a double compared with itself -/
theorem zF_dcmp (pc' : Nat) {a : UInt64} {op : CmpOp} (hd : decode M.2.1 pc = .ok (.dcmp op, 1)) (hp : pc + 1 = pc') (ha : zD64 a) (k : zF G M d pc' ls (zI 0 :: st) σ Q) : zF G M d pc ls (zDb a :: zDb a :: st) σ Q := by
  subst hp
  refine zF_step rfl rfl rfl ?_ k
  intro ρ p e R s m args below meth c hC H locs cells slots lsA Qm hS hR1 hR2 kk
  refine lv_dcmp hC.1 hC.2.1 hd ?_
  rw [zdcmp ha]
  exact kk H locs lsA hS
theorem zF_dload (pc' : Nat) {i : Nat} {u : UInt64} (hd : decode M.2.1 pc = .ok (.dload i, 2)) (hp : pc + 2 = pc') (hl : ls.lookup i = some (zDb u)) (k : zF G M d pc' ls (zDb u :: st) σ Q) : zF G M d pc ls st σ Q := by
  subst hp
  refine zF_step rfl rfl rfl ?_ k
  intro ρ p e R s m args below meth c hC H locs cells slots lsA Qm hS hR1 hR2 kk
  exact lv_dload hC.1 hC.2.1 hd (zloc hS.2.2 hl) (kk H locs lsA hS)
theorem zF_dstore (pc' : Nat) {i : Nat} {u : UInt64} {ls' : List (Nat × zV)} (hd : decode M.2.1 pc = .ok (.dstore i, 2)) (hp : pc + 2 = pc') (hn : i + 1 < M.2.2.1) (hl : zst2 i (zDb u) ls = ls') (k : zF G M d pc' ls' st σ Q) : zF G M d pc ls (zDb u :: st) σ Q := by
  subst hl
  subst hp
  refine zF_step rfl rfl rfl ?_ k
  intro ρ p e R s m args below meth c hC H locs cells slots lsA Qm hS hR1 hR2 kk
  exact lv_dstore hC.1 hC.2.1 hd hS.2.2 hn (zst2_eq ρ i (zDb u) ls) fun l1 h1 => kk H locs l1 ⟨hS.1, hS.2.1, h1⟩
theorem zF_dreturn {u : UInt64} (hd : decode M.2.1 pc = .ok (.dreturn, 1)) (hr : M.2.2.2 = some .double) (hQ : Q (.inl (some (zDb u))) σ) : zF G M d pc ls [zDb u] σ Q := by
  refine ⟨_, _, hQ, zUp.rf σ, ?_⟩
  intro ρ p e R s m args below meth c hC H locs cells slots lsA hS h1 h2
  refine W.widen (by omega : cells ≤ R.cells) (by omega : slots ≤ R.slots) (vx_ret ?_)
  exact W.dret hC.1 hC.2.1 (hC.2.2.2.2.2.1.trans hr) (fun t ht _ => ⟨⟨_, rfl, ρ, zAg.rf _ _ _, rfl, by rw [ht]; exact hS.1⟩, hS.2.1.F ht⟩) hS.2.1.2.2 hd hC.2.2.2.2.2.2.1
theorem zF_freturn {u : UInt32} (hd : decode M.2.1 pc = .ok (.freturn, 1)) (hr : M.2.2.2 = some .float) (hQ : Q (.inl (some (zFl u))) σ) : zF G M d pc ls [zFl u] σ Q := by
  refine ⟨_, _, hQ, zUp.rf σ, ?_⟩
  intro ρ p e R s m args below meth c hC H locs cells slots lsA hS h1 h2
  refine W.widen (by omega : cells ≤ R.cells) (by omega : slots ≤ R.slots) (vx_ret ?_)
  exact W.fret hC.1 hC.2.1 (hC.2.2.2.2.2.1.trans hr) (fun t ht _ => ⟨⟨_, rfl, ρ, zAg.rf _ _ _, rfl, by rw [ht]; exact hS.1⟩, hS.2.1.F ht⟩) hS.2.1.2.2 hd hC.2.2.2.2.2.2.1
end ZFP
section ZFQ
variable {G : zG} {d : Nat} {σ : zMem} {B : Nat → Nat} {N : Int → Int}
def oMean (N : Int → Int) : UInt64 := if N 3 = 0 then FP.dconst0 else FP.ddiv (FP.i2d (Int32.ofInt (N 208))) (FP.i2d (Int32.ofInt (N 3)))
def oFill (N : Int → Int) : UInt32 := if N 1 = 0 then FP.fconst0 else FP.fdiv (FP.i2f (Int32.ofInt (cVisN N (nS N)))) (FP.i2f (Int32.ofInt (cRoomN N (nS N))))
/-- every screen has seats and shows -/
def mCp (N : Int → Int) : Prop := ∀ s, 0 ≤ s → s < N 1 → 1 ≤ mCap N s
theorem mCp_cE {N' : Int → Int} (h : mCp N) (hV : mV N) (e : cE N N') : mCp N' := fun s s0 s1 => by
  have hn := hV.n
  have e1 : N' 1 = N 1 := e.1.2.1
  rw [e1] at s1
  obtain ⟨a, b, c⟩ := e.2.2.1 s s0 (by omega)
  unfold mCap
  rw [b, c]; exact h s s0 s1
theorem fill_0 (h : N 1 = 0) : cRoomN N (nS N) = 0 := by
  unfold nS
  rw [h]; rfl
theorem fill_b (hV : mV N) (hc : mCp N) : (N 1 = 0 ∧ cRoomN N (nS N) = 0) ∨ (0 < cRoomN N (nS N) ∧ cRoomN N (nS N) ≤ 210000) := by
  have hs := nS_eq hV
  by_cases h : N 1 = 0
  · exact Or.inl ⟨h, fill_0 h⟩
  · have a := zsum_ge (f := fun s => mCap N s * 7) (n := nS N) (a := 7) fun i hi => by have := hc i (by omega) (by omega); omega
    have b := zsum_le (f := fun s => mCap N s * 7) (n := nS N) (a := 21000) fun i hi => by have := mCap_b hV (s := i) (by omega) (by omega); omega
    refine Or.inr ⟨?_, ?_⟩
    · show 0 < zsum (fun s => mCap N s * 7) (nS N); omega
    · show zsum (fun s => mCap N s * 7) (nS N) ≤ 210000; omega
theorem fill_zr (hV : mV N) (hc : mCp N) : zrg (cRoomN N (nS N)) := by
  rcases fill_b hV hc with q | q
  · rw [q.2]; decide
  · constructor <;> omega
theorem oMean_D (hV : mV N) : zD64 (oMean N) := by
  have hn := hV.n
  unfold oMean
  by_cases h : N 3 = 0
  · rw [if_pos h]; exact zdec64 (n := 0) (by decide)
  · rw [if_neg h]; exact zddiv_D (zi2d_D _) (zi2d_Z (by rw [zti (hV.b 3)]; omega))
theorem oFill_D (hV : mV N) (hc : mCp N) : zD32 (oFill N) := by
  have fb := fill_b hV hc
  unfold oFill
  by_cases h : N 1 = 0
  · rw [if_pos h]; exact zdec32 (n := 0) (by decide)
  · rw [if_neg h]
    have zr : zrg (cRoomN N (nS N)) := by constructor <;> omega
    exact zfdiv_D (zi2f_D _) (zi2f_Z (by rw [zti zr]; omega) (by rw [zti zr]; omega))
theorem zt_X11_meanTakings (hO : cO σ B) (hR : cR N σ B) (hV : mV N) : zE G mX11_meanTakings (d + 10) [zR (B 0)] σ (fun ro σ1 => ro = .inl (some (zDb (oMean N))) ∧ σ1 = σ) := by
  refine zE_of rfl (by simp [zcat]) (Nat.le_of_ble_eq_true rfl) ?_
  show zF G mX11_meanTakings (d + 10) 0 [(0, zR (B 0))] [] σ _
  have hB := hO.1
  have hb := hV.b
  have hn := hV.n
  refine zF_aload_n 1 dX11_meanTakings_0 rfl rfl ?_
  refine zF_getR 4 dX11_meanTakings_1 rfl gX11_34 hO.2.1 hO.2.2.1 hO.2.2.2.2.2.2.1 ?_
  refine zF_getI 7 dX11_meanTakings_4 rfl gX11_161 (by decide) (by decide) hB.st.1 hB.st.2.1 hR.s.1.1 ?_
  refine zF_if_ne 12 10 dX11_meanTakings_7 rfl rfl (by first | decide | assumption | exact hb _ | exact mSh_rg hb _ _ | exact zb_rg _ | (constructor <;> omega)) (fun c1 => ?_) (fun c1 => ?_)
  · refine zF_aload_n 13 dX11_meanTakings_12 rfl rfl ?_
    refine zF_getR 16 dX11_meanTakings_13 rfl gX11_34 hO.2.1 hO.2.2.1 hO.2.2.2.2.2.2.1 ?_
    refine zF_getR 19 dX11_meanTakings_16 rfl gX11_311 hB.st.1 hB.st.2.1 (cB_214 hB).1 ?_
    refine zF_iconst 20 dX11_meanTakings_19 rfl ?_
    refine zF_iaload 21 dX11_meanTakings_20 rfl (cB_214 hB).2.2 (cB_214 hB).2.1 (by omega) (by omega) (hR.s.2.2.2.2.1 0 (by decide) (by decide)) ?_
    refine zF_i2d 22 dX11_meanTakings_21 rfl ?_
    refine zF_aload_n 23 dX11_meanTakings_22 rfl rfl ?_
    refine zF_getR 26 dX11_meanTakings_23 rfl gX11_34 hO.2.1 hO.2.2.1 hO.2.2.2.2.2.2.1 ?_
    refine zF_getI 29 dX11_meanTakings_26 rfl gX11_161 (by decide) (by decide) hB.st.1 hB.st.2.1 hR.s.1.1 ?_
    refine zF_i2d 30 dX11_meanTakings_29 rfl ?_
    refine zF_ddiv 31 dX11_meanTakings_30 rfl (zi2d_D _) (zi2d_Z (by rw [zti (hV.b 3)]; omega)) ?_
    exact zF_dreturn dX11_meanTakings_31 rfl (⟨congrArg (fun z => Sum.inl (some (zDb z))) (if_neg (by omega)).symm, rfl⟩)
  · refine zF_dconst0 11 dX11_meanTakings_10 rfl ?_
    exact zF_dreturn dX11_meanTakings_11 rfl (⟨congrArg (fun z => Sum.inl (some (zDb z))) (if_pos (by omega)).symm, rfl⟩)
theorem zt_X11_filled (hO : cO σ B) (hR : cR N σ B) (hV : mV N) (hW : mW N) (hc : mCp N) : zE G mX11_filled (d + 10) [zR (B 0)] σ (fun ro σ1 => ro = .inl (some (zFl (oFill N))) ∧ σ1 = σ) := by
  refine zE_of rfl (by simp [zcat]) (Nat.le_of_ble_eq_true rfl) ?_
  show zF G mX11_filled (d + 10) 0 [(0, zR (B 0))] [] σ _
  have hB := hO.1
  have hb := hV.b
  have hn := hV.n
  have fb := fill_b hV hc
  have zr := fill_zr hV hc
  refine zF_aload_n 1 dX11_filled_0 rfl rfl ?_
  refine zF_getR 4 dX11_filled_1 rfl gX11_43 hO.2.1 hO.2.2.1 hO.2.2.2.2.2.2.2.1 ?_
  refine zF_callVi 7 (d2 := (d + 9)) (as := []) dX11_filled_4 rfl kX11_319 iX10_allRoom (ci := 10) rfl eX10_allRoom (Nat.le_refl _) hB.wk.1 hB.wk.2.1 rfl rfl (Nat.le_of_ble_eq_true rfl) (zt_X10_allRoom hB hR hV) ?_
  refine zF_istore_n 8 (ls' := [(1, zI (cRoomN N (nS N))), (0, zR (B 0))]) dX11_filled_7 rfl (by decide) rfl ?_
  refine zF_iload_n 9 dX11_filled_8 rfl rfl ?_
  refine zF_if_ne 14 12 dX11_filled_9 rfl rfl (by first | decide | assumption | (constructor <;> omega)) (fun c1 => ?_) (fun c1 => ?_)
  · refine zF_aload_n 15 dX11_filled_14 rfl rfl ?_
    refine zF_getR 18 dX11_filled_15 rfl gX11_43 hO.2.1 hO.2.2.1 hO.2.2.2.2.2.2.2.1 ?_
    refine zF_callVi 21 (d2 := (d + 9)) (as := []) dX11_filled_18 rfl kX11_322 iX10_allVisitors (ci := 10) rfl eX10_allVisitors (Nat.le_refl _) hB.wk.1 hB.wk.2.1 rfl rfl (Nat.le_of_ble_eq_true rfl) (zt_X10_allVisitors hB hR hV) ?_
    refine zF_i2f 22 dX11_filled_21 rfl ?_
    refine zF_iload_n 23 dX11_filled_22 rfl rfl ?_
    refine zF_i2f 24 dX11_filled_23 rfl ?_
    refine zF_fdiv 25 dX11_filled_24 rfl (zi2f_D _) (zi2f_Z (by rw [zti zr]; omega) (by rw [zti zr]; omega)) ?_
    exact zF_freturn dX11_filled_25 rfl (⟨congrArg (fun z => Sum.inl (some (zFl z))) (if_neg (fun q => absurd (fill_0 q) (by assumption))).symm, rfl⟩)
  · refine zF_fconst0 13 dX11_filled_12 rfl ?_
    exact zF_freturn dX11_filled_13 rfl (⟨congrArg (fun z => Sum.inl (some (zFl z))) (if_pos (by omega)).symm, rfl⟩)
end ZFQ
