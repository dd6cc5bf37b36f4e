/-! the text that the law says: bytes packed and unpacked -/
section ZT1
theorem or_nat {m n : Nat} (hm : m < 2147483648) (hn : n < 2147483648) : (Int32.ofInt (m : Int) ||| Int32.ofInt (n : Int)).toInt = ((m ||| n : Nat) : Int) := by
  have h3 : m ||| n < 2 ^ 31 := Nat.or_lt_two_pow hm hn
  have em : (Int32.ofInt (m : Int)).toBitVec = BitVec.ofNat 32 m := BitVec.ofInt_natCast 32 m
  have en : (Int32.ofInt (n : Int)).toBitVec = BitVec.ofNat 32 n := BitVec.ofInt_natCast 32 n
  have eb : (Int32.ofInt (m : Int) ||| Int32.ofInt (n : Int)).toBitVec = BitVec.ofNat 32 m ||| BitVec.ofNat 32 n := by
    rw [← em, ← en]
    rfl
  have e1 : (BitVec.ofNat 32 m ||| BitVec.ofNat 32 n).toNat = m ||| n := by
    rw [BitVec.toNat_or, BitVec.toNat_ofNat, BitVec.toNat_ofNat, Nat.mod_eq_of_lt (by omega), Nat.mod_eq_of_lt (by omega)]
  show (Int32.ofInt (m : Int) ||| Int32.ofInt (n : Int)).toBitVec.toInt = _
  rw [eb, BitVec.toInt_eq_toNat_of_lt (by rw [e1]; omega), e1]
theorem zsh_24 {x : Int} (h : zrg x) : zsh x 24 = x / 16777216 := by
  have e : (Int32.ofInt x >>> (Int32.ofInt 24 &&& 31)).toBitVec = (Int32.ofInt x).toBitVec.sshiftRight 24 := rfl
  show ((Int32.ofInt x >>> (Int32.ofInt 24 &&& 31)).toBitVec).toInt = _
  rw [e, BitVec.toInt_sshiftRight]
  show (Int32.ofInt x).toInt >>> 24 = _
  rw [zti h, Int.shiftRight_eq_div_pow]
  rfl
theorem zsh_16 {x : Int} (h : zrg x) : zsh x 16 = x / 65536 := by
  have e : (Int32.ofInt x >>> (Int32.ofInt 16 &&& 31)).toBitVec = (Int32.ofInt x).toBitVec.sshiftRight 16 := rfl
  show ((Int32.ofInt x >>> (Int32.ofInt 16 &&& 31)).toBitVec).toInt = _
  rw [e, BitVec.toInt_sshiftRight]
  show (Int32.ofInt x).toInt >>> 16 = _
  rw [zti h, Int.shiftRight_eq_div_pow]
  rfl
theorem zsh_8 {x : Int} (h : zrg x) : zsh x 8 = x / 256 := by
  have e : (Int32.ofInt x >>> (Int32.ofInt 8 &&& 31)).toBitVec = (Int32.ofInt x).toBitVec.sshiftRight 8 := rfl
  show ((Int32.ofInt x >>> (Int32.ofInt 8 &&& 31)).toBitVec).toInt = _
  rw [e, BitVec.toInt_sshiftRight]
  show (Int32.ofInt x).toInt >>> 8 = _
  rw [zti h, Int.shiftRight_eq_div_pow]
  rfl
theorem zsh_0 {x : Int} (h : zrg x) : zsh x 0 = x := zshr0 h
theorem shl_b : ∀ b : Fin 128, ∀ r : Fin 4, (Int32.ofInt ((b : Nat) : Int) <<< (Int32.ofInt (24 - 8 * ((r : Nat) : Int)) &&& 31)).toInt = (((b : Nat) <<< (24 - 8 * (r : Nat)) : Nat) : Int) := by decide +kernel
/-- four bytes in an int -/
def pkB (f : Nat → Nat) : Nat := f 0 * 16777216 + f 1 * 65536 + f 2 * 256 + f 3
theorem pkB_lt {f : Nat → Nat} (h : ∀ i, i < 4 → f i < 128) : pkB f < 2147483648 := by
  have := h 0 (by omega)
  have := h 1 (by omega)
  have := h 2 (by omega)
  have := h 3 (by omega)
  unfold pkB
  omega
theorem pkB_or {f : Nat → Nat} {r b : Nat} (h : ∀ i, i < 4 → f i < 128) (hr : r < 4) (hz : ∀ i, r ≤ i → i < 4 → f i = 0) (hb : b < 128) : pkB f ||| (b <<< (24 - 8 * r)) = pkB (fun i => if i = r then b else f i) := by
  have h0 := h 0 (by omega)
  have h1 := h 1 (by omega)
  have h2 := h 2 (by omega)
  have h3 := h 3 (by omega)
  have c : r = 0 ∨ r = 1 ∨ r = 2 ∨ r = 3 := by omega
  rcases c with c | c | c | c <;> subst c
  · have z0 := hz 0 (by omega) (by omega)
    have z1 := hz 1 (by omega) (by omega)
    have z2 := hz 2 (by omega) (by omega)
    have z3 := hz 3 (by omega) (by omega)
    have e : pkB f = 0 := by unfold pkB; omega
    rw [e, Nat.zero_or, Nat.shiftLeft_eq]
    have q : pkB (fun i => if i = 0 then b else f i) = b * 16777216 + f 1 * 65536 + f 2 * 256 + f 3 := rfl
    rw [q]
    show b * 16777216 = _
    omega
  · have z1 := hz 1 (by omega) (by omega)
    have z2 := hz 2 (by omega) (by omega)
    have z3 := hz 3 (by omega) (by omega)
    have e : pkB f = f 0 <<< 24 := by rw [Nat.shiftLeft_eq]; unfold pkB; omega
    rw [e, ← Nat.shiftLeft_add_eq_or_of_lt (by rw [Nat.shiftLeft_eq]; show b * 65536 < 16777216; omega), Nat.shiftLeft_eq, Nat.shiftLeft_eq]
    have q : pkB (fun i => if i = 1 then b else f i) = f 0 * 16777216 + b * 65536 + f 2 * 256 + f 3 := rfl
    rw [q]
    show f 0 * 16777216 + b * 65536 = _
    omega
  · have z2 := hz 2 (by omega) (by omega)
    have z3 := hz 3 (by omega) (by omega)
    have e : pkB f = (f 0 * 256 + f 1) <<< 16 := by rw [Nat.shiftLeft_eq]; unfold pkB; omega
    rw [e, ← Nat.shiftLeft_add_eq_or_of_lt (by rw [Nat.shiftLeft_eq]; show b * 256 < 65536; omega), Nat.shiftLeft_eq, Nat.shiftLeft_eq]
    have q : pkB (fun i => if i = 2 then b else f i) = f 0 * 16777216 + f 1 * 65536 + b * 256 + f 3 := rfl
    rw [q]
    show (f 0 * 256 + f 1) * 65536 + b * 256 = _
    omega
  · have z3 := hz 3 (by omega) (by omega)
    have e : pkB f = (f 0 * 65536 + f 1 * 256 + f 2) <<< 8 := by rw [Nat.shiftLeft_eq]; unfold pkB; omega
    rw [e, ← Nat.shiftLeft_add_eq_or_of_lt (by rw [Nat.shiftLeft_eq]; show b * 1 < 256; omega), Nat.shiftLeft_eq, Nat.shiftLeft_eq]
    have q : pkB (fun i => if i = 3 then b else f i) = f 0 * 16777216 + f 1 * 65536 + f 2 * 256 + b := rfl
    rw [q]
    show (f 0 * 65536 + f 1 * 256 + f 2) * 256 + b * 1 = _
    omega
theorem pkB_by {f : Nat → Nat} (h : ∀ i, i < 4 → f i < 128) {r : Nat} (hr : r < 4) : zby (zsh ((pkB f : Nat) : Int) (24 - 8 * (r : Int))) = ((f r : Nat) : Int) := by
  have h0 := h 0 (by omega)
  have h1 := h 1 (by omega)
  have h2 := h 2 (by omega)
  have h3 := h 3 (by omega)
  have hl := pkB_lt h
  have hg : zrg ((pkB f : Nat) : Int) := ⟨by omega, by omega⟩
  have c : r = 0 ∨ r = 1 ∨ r = 2 ∨ r = 3 := by omega
  rcases c with c | c | c | c <;> subst c
  · rw [show (24 : Int) - 8 * ((0 : Nat) : Int) = 24 by omega, zsh_24 hg]
    unfold zby pkB
    omega
  · rw [show (24 : Int) - 8 * ((1 : Nat) : Int) = 16 by omega, zsh_16 hg]
    unfold zby pkB
    omega
  · rw [show (24 : Int) - 8 * ((2 : Nat) : Int) = 8 by omega, zsh_8 hg]
    unfold zby pkB
    omega
  · rw [show (24 : Int) - 8 * ((3 : Nat) : Int) = 0 by omega, zsh_0 hg]
    unfold zby pkB
    omega
end ZT1
