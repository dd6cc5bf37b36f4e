/-! the light logic's rows, one an instruction -/
section ZR
theorem zofadd (a b : Int) : Int32.ofInt (a + b) = Int32.ofInt a + Int32.ofInt b := by
  apply Int32.toInt_inj.mp
  rw [Int32.toInt_add, Int32.toInt_ofInt, Int32.toInt_ofInt, Int32.toInt_ofInt]
  exact (Int.add_bmod a b _)
theorem zofsub (a b : Int) : Int32.ofInt (a - b) = Int32.ofInt a - Int32.ofInt b := by
  apply Int32.toInt_inj.mp
  rw [Int32.toInt_sub, Int32.toInt_ofInt, Int32.toInt_ofInt, Int32.toInt_ofInt]
  exact (Int.sub_bmod a b _)
theorem zofmul (a b : Int) : Int32.ofInt (a * b) = Int32.ofInt a * Int32.ofInt b := by
  apply Int32.toInt_inj.mp
  rw [Int32.toInt_mul, Int32.toInt_ofInt, Int32.toInt_ofInt, Int32.toInt_ofInt]
  exact (Int.mul_bmod a b _)
theorem zofneg (a : Int) : Int32.ofInt (-a) = -Int32.ofInt a := by
  exact Int32.ofInt_neg a
theorem zofaddL (a b : Int) : Int64.ofInt (a + b) = Int64.ofInt a + Int64.ofInt b := by
  apply Int64.toInt_inj.mp
  rw [Int64.toInt_add, Int64.toInt_ofInt, Int64.toInt_ofInt, Int64.toInt_ofInt]
  exact (Int.add_bmod a b _)
theorem zofsubL (a b : Int) : Int64.ofInt (a - b) = Int64.ofInt a - Int64.ofInt b := by
  apply Int64.toInt_inj.mp
  rw [Int64.toInt_sub, Int64.toInt_ofInt, Int64.toInt_ofInt, Int64.toInt_ofInt]
  exact (Int.sub_bmod a b _)
theorem zofmulL (a b : Int) : Int64.ofInt (a * b) = Int64.ofInt a * Int64.ofInt b := by
  apply Int64.toInt_inj.mp
  rw [Int64.toInt_mul, Int64.toInt_ofInt, Int64.toInt_ofInt, Int64.toInt_ofInt]
  exact (Int.mul_bmod a b _)
abbrev zrg (z : Int) : Prop := -2147483648 ≤ z ∧ z < 2147483648
abbrev zrgL (z : Int) : Prop := -9223372036854775808 ≤ z ∧ z < 9223372036854775808
theorem zti {z : Int} (h : zrg z) : (Int32.ofInt z).toInt = z := Int32.toInt_ofInt_of_le h.1 h.2
theorem ztl {z : Int} (h : zrgL z) : (Int64.ofInt z).toInt = z := Int64.toInt_ofInt_of_le h.1 h.2
theorem zcle {a b : Int} (ha : zrg a) (hb : zrg b) : Int32.ofInt a ≤ Int32.ofInt b ↔ a ≤ b := by rw [Int32.le_iff_toInt_le, zti ha, zti hb]
theorem zclt {a b : Int} (ha : zrg a) (hb : zrg b) : Int32.ofInt a < Int32.ofInt b ↔ a < b := by rw [Int32.lt_iff_toInt_lt, zti ha, zti hb]
theorem zceq {a b : Int} (ha : zrg a) (hb : zrg b) : Int32.ofInt a = Int32.ofInt b ↔ a = b := by rw [← Int32.toInt_inj, zti ha, zti hb]
theorem z0 : (0 : Int32) = Int32.ofInt 0 := by decide
theorem zrg0 : zrg 0 := by decide
theorem zcl0 (z : Int) (h : 0 ≤ z) (h2 : z < 2147483648) : (Int32.ofInt z).toNatClampNeg = z.toNat := by
  show (Int32.ofInt z).toInt.toNat = z.toNat
  rw [zti ⟨by omega, h2⟩]
theorem zin {z : Int} {n : Nat} (h : 0 ≤ z) (h2 : z < n) (hn : n < 2147483648) : vp_in (Int32.ofInt z) n := vp_in_iff.mpr (by
  rw [zti ⟨by omega, by omega⟩]; exact ⟨h, h2⟩)
theorem zlook {ls : List (Nat × zV)} {i : Nat} {v : zV} (h : ls.lookup i = some v) : (i, v) ∈ ls := by
  induction ls with
  | nil => cases h
  | cons q qs ih =>
    obtain ⟨j, w⟩ := q
    rw [List.lookup_cons] at h
    by_cases e : i = j
    · subst e
      simp at h
      subst h
      exact List.mem_cons_self
    · rw [beq_eq_false_iff_ne.mpr e] at h
      exact List.mem_cons_of_mem _ (ih h)
theorem zloc {lsA : Array Slot} {nL : Nat} {ρ : Nat → Nat} {ls : List (Nat × zV)} (h : lv_has lsA nL (zLs ρ ls)) {i : Nat} {v : zV} (hl : ls.lookup i = some v) : lsA[i]? = some (.val (ztr ρ v)) :=
  h.2.2 (i, ztr ρ v) (List.mem_map.mpr ⟨(i, v), zlook hl, rfl⟩)
def zst1 (i : Nat) (v : zV) (ls : List (Nat × zV)) : List (Nat × zV) := (i, v) :: ls.filter (fun q => !(q.1 == i) && !(q.1 + 1 == i && zcat q.2 == 2))
def zst2 (i : Nat) (v : zV) (ls : List (Nat × zV)) : List (Nat × zV) := (i, v) :: ls.filter (fun q => !(q.1 == i) && (!(q.1 == i + 1) && !(q.1 + 1 == i && zcat q.2 == 2)))
theorem zst1_eq (ρ : Nat → Nat) (i : Nat) (v : zV) (ls : List (Nat × zV)) : (i, ztr ρ v) :: (zLs ρ ls).filter (fun q => !(q.1 == i) && !(q.1 + 1 == i && q.2.category == 2)) = zLs ρ (zst1 i v ls) := by
  show _ = (i, ztr ρ v) :: _
  congr 1
  unfold zLs
  rw [List.filter_map]
  congr 1
  refine List.filter_congr fun q _ => ?_
  show (!(q.1 == i) && !(q.1 + 1 == i && (ztr ρ q.2).category == 2)) = _
  rw [ztr_cat]
theorem zst2_eq (ρ : Nat → Nat) (i : Nat) (v : zV) (ls : List (Nat × zV)) : (i, ztr ρ v) :: (zLs ρ ls).filter (fun q => !(q.1 == i) && (!(q.1 == i + 1) && !(q.1 + 1 == i && q.2.category == 2))) = zLs ρ (zst2 i v ls) := by
  show _ = (i, ztr ρ v) :: _
  congr 1
  unfold zLs
  rw [List.filter_map]
  congr 1
  refine List.filter_congr fun q _ => ?_
  show (!(q.1 == i) && (!(q.1 == i + 1) && !(q.1 + 1 == i && (ztr ρ q.2).category == 2))) = _
  rw [ztr_cat]
variable {G : zG} {M : zMeth} {d pc : Nat} {ls : List (Nat × zV)} {st : List zV} {σ : zMem} {Q : zRes → zMem → Prop}
theorem zF_iconst (pc' : Nat) {n : Int} (hd : decode M.2.1 pc = .ok (.iconst n, 1)) (hp : pc + 1 = pc') (k : zF G M d pc' ls (zI n :: st) σ Q) : zF G M d pc ls (st) σ Q := by
  subst hp
  refine zF_step rfl rfl rfl ?_ k
  intro ρ p e R s m args below meth c hC H locs cells slots lsA Qm hS hR1 hR2 kk
  have q := kk H locs lsA hS
  simp only [List.map_cons, ztr] at q ⊢
  exact lv_iconst hC.1 hC.2.1 hd rfl q
theorem zbip (n : Int) (h : -128 ≤ n ∧ n < 128) : (Int8.ofInt n).toInt32 = Int32.ofInt n := by
  apply Int32.toInt_inj.mp
  rw [Int8.toInt_toInt32, Int8.toInt_ofInt_of_le (by omega) (by omega), zti ⟨by omega, by omega⟩]
theorem zsip (n : Int) (h : -32768 ≤ n ∧ n < 32768) : (Int16.ofInt n).toInt32 = Int32.ofInt n := by
  apply Int32.toInt_inj.mp
  rw [Int16.toInt_toInt32, Int16.toInt_ofInt_of_le (by omega) (by omega), zti ⟨by omega, by omega⟩]
theorem zF_bipush (pc' : Nat) {n : Int} (hd : decode M.2.1 pc = .ok (.bipush n, 2)) (hp : pc + 2 = pc') (hn : -128 ≤ n ∧ n < 128) (k : zF G M d pc' ls (zI n :: st) σ Q) : zF G M d pc ls (st) σ Q := by
  subst hp
  refine zF_step rfl rfl rfl ?_ k
  intro ρ p e R s m args below meth c hC H locs cells slots lsA Qm hS hR1 hR2 kk
  have q := kk H locs lsA hS
  simp only [List.map_cons, ztr] at q ⊢
  exact lv_bipush hC.1 hC.2.1 hd (zbip n hn) q
theorem zF_sipush (pc' : Nat) {n : Int} (hd : decode M.2.1 pc = .ok (.sipush n, 3)) (hp : pc + 3 = pc') (hn : -32768 ≤ n ∧ n < 32768) (k : zF G M d pc' ls (zI n :: st) σ Q) : zF G M d pc ls (st) σ Q := by
  subst hp
  refine zF_step rfl rfl rfl ?_ k
  intro ρ p e R s m args below meth c hC H locs cells slots lsA Qm hS hR1 hR2 kk
  have q := kk H locs lsA hS
  simp only [List.map_cons, ztr] at q ⊢
  exact lv_sipush hC.1 hC.2.1 hd (zsip n hn) q
theorem zlc (n : Fin 2) : Int64.ofNat (n : Nat) = Int64.ofInt ((n : Nat) : Int) := (Int64.ofInt_eq_ofNat).symm
theorem zF_lconst (pc' : Nat) {n : Fin 2} (hd : decode M.2.1 pc = .ok (.lconst n, 1)) (hp : pc + 1 = pc') (k : zF G M d pc' ls (zL ((n : Nat) : Int) :: st) σ Q) : zF G M d pc ls (st) σ Q := by
  subst hp
  refine zF_step rfl rfl rfl ?_ k
  intro ρ p e R s m args below meth c hC H locs cells slots lsA Qm hS hR1 hR2 kk
  have q := kk H locs lsA hS
  simp only [List.map_cons, ztr] at q ⊢
  exact lv_lconst hC.1 hC.2.1 hd (zlc n) q
theorem zF_iload_n (pc' : Nat) {kf : Fin 4} {z : Int} (hd : decode M.2.1 pc = .ok (.iload_n kf, 1)) (hp : pc + 1 = pc') (hl : ls.lookup (kf : Nat) = some (zI z)) (k : zF G M d pc' ls (zI z :: st) σ Q) : zF G M d pc ls (st) σ Q := by
  subst hp
  refine zF_step rfl rfl rfl ?_ k
  intro ρ p e R s m args below meth c hC H locs cells slots lsA Qm hS hR1 hR2 kk
  have q := kk H locs lsA hS
  simp only [List.map_cons, ztr] at q ⊢
  exact lv_iload_n hC.1 hC.2.1 hd rfl (zloc hS.2.2 hl) q
theorem zF_iload (pc' : Nat) {i : Nat} {z : Int} (hd : decode M.2.1 pc = .ok (.iload i, 2)) (hp : pc + 2 = pc') (hl : ls.lookup i = some (zI z)) (k : zF G M d pc' ls (zI z :: st) σ Q) : zF G M d pc ls (st) σ Q := by
  subst hp
  refine zF_step rfl rfl rfl ?_ k
  intro ρ p e R s m args below meth c hC H locs cells slots lsA Qm hS hR1 hR2 kk
  have q := kk H locs lsA hS
  simp only [List.map_cons, ztr] at q ⊢
  exact lv_iload hC.1 hC.2.1 hd (zloc hS.2.2 hl) q
theorem zF_lload_n (pc' : Nat) {kf : Fin 4} {z : Int} (hd : decode M.2.1 pc = .ok (.lload_n kf, 1)) (hp : pc + 1 = pc') (hl : ls.lookup (kf : Nat) = some (zL z)) (k : zF G M d pc' ls (zL z :: st) σ Q) : zF G M d pc ls (st) σ Q := by
  subst hp
  refine zF_step rfl rfl rfl ?_ k
  intro ρ p e R s m args below meth c hC H locs cells slots lsA Qm hS hR1 hR2 kk
  have q := kk H locs lsA hS
  simp only [List.map_cons, ztr] at q ⊢
  exact lv_lload_n hC.1 hC.2.1 hd rfl (zloc hS.2.2 hl) q
theorem zF_lload (pc' : Nat) {i : Nat} {z : Int} (hd : decode M.2.1 pc = .ok (.lload i, 2)) (hp : pc + 2 = pc') (hl : ls.lookup i = some (zL z)) (k : zF G M d pc' ls (zL z :: st) σ Q) : zF G M d pc ls (st) σ Q := by
  subst hp
  refine zF_step rfl rfl rfl ?_ k
  intro ρ p e R s m args below meth c hC H locs cells slots lsA Qm hS hR1 hR2 kk
  have q := kk H locs lsA hS
  simp only [List.map_cons, ztr] at q ⊢
  exact lv_lload hC.1 hC.2.1 hd (zloc hS.2.2 hl) q
theorem zF_aload_n (pc' : Nat) {kf : Fin 4} {h : Nat} (hd : decode M.2.1 pc = .ok (.aload_n kf, 1)) (hp : pc + 1 = pc') (hl : ls.lookup (kf : Nat) = some (zR h)) (k : zF G M d pc' ls (zR h :: st) σ Q) : zF G M d pc ls (st) σ Q := by
  subst hp
  refine zF_step rfl rfl rfl ?_ k
  intro ρ p e R s m args below meth c hC H locs cells slots lsA Qm hS hR1 hR2 kk
  have q := kk H locs lsA hS
  simp only [List.map_cons, ztr, Option.map, va_rf] at q ⊢
  exact lv_aload_n hC.1 hC.2.1 hd rfl (zloc hS.2.2 hl) q
theorem zF_aload (pc' : Nat) {i : Nat} {h : Nat} (hd : decode M.2.1 pc = .ok (.aload i, 2)) (hp : pc + 2 = pc') (hl : ls.lookup i = some (zR h)) (k : zF G M d pc' ls (zR h :: st) σ Q) : zF G M d pc ls (st) σ Q := by
  subst hp
  refine zF_step rfl rfl rfl ?_ k
  intro ρ p e R s m args below meth c hC H locs cells slots lsA Qm hS hR1 hR2 kk
  have q := kk H locs lsA hS
  simp only [List.map_cons, ztr, Option.map, va_rf] at q ⊢
  exact lv_aload hC.1 hC.2.1 hd (zloc hS.2.2 hl) q
theorem zF_istore_n (pc' : Nat) {kf : Fin 4} {z : Int} {ls' : List (Nat × zV)} (hd : decode M.2.1 pc = .ok (.istore_n kf, 1)) (hp : pc + 1 = pc') (hn : (kf : Nat) < M.2.2.1) (hl : zst1 (kf : Nat) (zI z) ls = ls') (k : zF G M d pc' ls' st σ Q) : zF G M d pc ls (zI z :: st) σ Q := by
  subst hl
  subst hp
  refine zF_step rfl rfl rfl ?_ k
  intro ρ p e R s m args below meth c hC H locs cells slots lsA Qm hS hR1 hR2 kk
  simp only [List.map_cons, ztr, Option.map, va_rf] at kk ⊢
  exact lv_istore_n hC.1 hC.2.1 hd rfl hS.2.2 hn (zst1_eq ρ (kf : Nat) (zI z) ls) fun l1 h1 => kk H locs l1 ⟨hS.1, hS.2.1, h1⟩
theorem zF_istore (pc' : Nat) {i : Nat} {z : Int} {ls' : List (Nat × zV)} (hd : decode M.2.1 pc = .ok (.istore i, 2)) (hp : pc + 2 = pc') (hn : i < M.2.2.1) (hl : zst1 i (zI z) ls = ls') (k : zF G M d pc' ls' st σ Q) : zF G M d pc ls (zI z :: st) σ Q := by
  subst hl
  subst hp
  refine zF_step rfl rfl rfl ?_ k
  intro ρ p e R s m args below meth c hC H locs cells slots lsA Qm hS hR1 hR2 kk
  simp only [List.map_cons, ztr, Option.map, va_rf] at kk ⊢
  exact lv_istore hC.1 hC.2.1 hd hS.2.2 hn (zst1_eq ρ i (zI z) ls) fun l1 h1 => kk H locs l1 ⟨hS.1, hS.2.1, h1⟩
theorem zF_lstore_n (pc' : Nat) {kf : Fin 4} {z : Int} {ls' : List (Nat × zV)} (hd : decode M.2.1 pc = .ok (.lstore_n kf, 1)) (hp : pc + 1 = pc') (hn : (kf : Nat) + 1 < M.2.2.1) (hl : zst2 (kf : Nat) (zL z) ls = ls') (k : zF G M d pc' ls' st σ Q) : zF G M d pc ls (zL z :: st) σ Q := by
  subst hl
  subst hp
  refine zF_step rfl rfl rfl ?_ k
  intro ρ p e R s m args below meth c hC H locs cells slots lsA Qm hS hR1 hR2 kk
  simp only [List.map_cons, ztr, Option.map, va_rf] at kk ⊢
  exact lv_lstore_n hC.1 hC.2.1 hd rfl hS.2.2 hn (zst2_eq ρ (kf : Nat) (zL z) ls) fun l1 h1 => kk H locs l1 ⟨hS.1, hS.2.1, h1⟩
theorem zF_lstore (pc' : Nat) {i : Nat} {z : Int} {ls' : List (Nat × zV)} (hd : decode M.2.1 pc = .ok (.lstore i, 2)) (hp : pc + 2 = pc') (hn : i + 1 < M.2.2.1) (hl : zst2 i (zL z) ls = ls') (k : zF G M d pc' ls' st σ Q) : zF G M d pc ls (zL z :: st) σ Q := by
  subst hl
  subst hp
  refine zF_step rfl rfl rfl ?_ k
  intro ρ p e R s m args below meth c hC H locs cells slots lsA Qm hS hR1 hR2 kk
  simp only [List.map_cons, ztr, Option.map, va_rf] at kk ⊢
  exact lv_lstore hC.1 hC.2.1 hd hS.2.2 hn (zst2_eq ρ i (zL z) ls) fun l1 h1 => kk H locs l1 ⟨hS.1, hS.2.1, h1⟩
theorem zF_astore_n (pc' : Nat) {kf : Fin 4} {h : Nat} {ls' : List (Nat × zV)} (hd : decode M.2.1 pc = .ok (.astore_n kf, 1)) (hp : pc + 1 = pc') (hn : (kf : Nat) < M.2.2.1) (hl : zst1 (kf : Nat) (zR h) ls = ls') (k : zF G M d pc' ls' st σ Q) : zF G M d pc ls (zR h :: st) σ Q := by
  subst hl
  subst hp
  refine zF_step rfl rfl rfl ?_ k
  intro ρ p e R s m args below meth c hC H locs cells slots lsA Qm hS hR1 hR2 kk
  simp only [List.map_cons, ztr, Option.map, va_rf] at kk ⊢
  exact lv_astore_n hC.1 hC.2.1 hd rfl hS.2.2 hn (zst1_eq ρ (kf : Nat) (zR h) ls) fun l1 h1 => kk H locs l1 ⟨hS.1, hS.2.1, h1⟩
theorem zF_astore (pc' : Nat) {i : Nat} {h : Nat} {ls' : List (Nat × zV)} (hd : decode M.2.1 pc = .ok (.astore i, 2)) (hp : pc + 2 = pc') (hn : i < M.2.2.1) (hl : zst1 i (zR h) ls = ls') (k : zF G M d pc' ls' st σ Q) : zF G M d pc ls (zR h :: st) σ Q := by
  subst hl
  subst hp
  refine zF_step rfl rfl rfl ?_ k
  intro ρ p e R s m args below meth c hC H locs cells slots lsA Qm hS hR1 hR2 kk
  simp only [List.map_cons, ztr, Option.map, va_rf] at kk ⊢
  exact lv_astore hC.1 hC.2.1 hd hS.2.2 hn (zst1_eq ρ i (zR h) ls) fun l1 h1 => kk H locs l1 ⟨hS.1, hS.2.1, h1⟩
theorem zF_iinc (pc' : Nat) {i : Nat} {n z z' : Int} {ls' : List (Nat × zV)} (hd : decode M.2.1 pc = .ok (.iinc i n, 3)) (hp : pc + 3 = pc') (hl0 : ls.lookup i = some (zI z)) (hz : z + n = z') (hn : i < M.2.2.1) (hl : zst1 i (zI z') ls = ls') (k : zF G M d pc' ls' st σ Q) : zF G M d pc ls st σ Q := by
  subst hl
  subst hz
  subst hp
  refine zF_step rfl rfl rfl ?_ k
  intro ρ p e R s m args below meth c hC H locs cells slots lsA Qm hS hR1 hR2 kk
  obtain ⟨j, hj⟩ := List.getElem?_of_mem (List.mem_map.mpr ⟨(i, zI z), zlook hl0, rfl⟩ : (i, ztr ρ (zI z)) ∈ zLs ρ ls)
  exact lv_iinc hC.1 hC.2.1 hd hS.2.2 hj (zofadd z n).symm hn (zst1_eq ρ i (zI (z + n)) ls) fun l1 h1 => kk H locs l1 ⟨hS.1, hS.2.1, h1⟩
theorem zF_iadd (pc' : Nat) {a b : Int} (hd : decode M.2.1 pc = .ok (.iadd, 1)) (hp : pc + 1 = pc') (k : zF G M d pc' ls (zI (a + b) :: st) σ Q) : zF G M d pc ls (zI b :: zI a :: st) σ Q := by
  subst hp
  refine zF_step rfl rfl rfl ?_ k
  intro ρ p e R s m args below meth c hC H locs cells slots lsA Qm hS hR1 hR2 kk
  have q := kk H locs lsA hS
  simp only [List.map_cons, ztr, zofadd] at q ⊢
  exact lv_iadd hC.1 hC.2.1 hd q
theorem zF_isub (pc' : Nat) {a b : Int} (hd : decode M.2.1 pc = .ok (.isub, 1)) (hp : pc + 1 = pc') (k : zF G M d pc' ls (zI (a - b) :: st) σ Q) : zF G M d pc ls (zI b :: zI a :: st) σ Q := by
  subst hp
  refine zF_step rfl rfl rfl ?_ k
  intro ρ p e R s m args below meth c hC H locs cells slots lsA Qm hS hR1 hR2 kk
  have q := kk H locs lsA hS
  simp only [List.map_cons, ztr, zofsub] at q ⊢
  exact lv_isub hC.1 hC.2.1 hd q
theorem zF_imul (pc' : Nat) {a b : Int} (hd : decode M.2.1 pc = .ok (.imul, 1)) (hp : pc + 1 = pc') (k : zF G M d pc' ls (zI (a * b) :: st) σ Q) : zF G M d pc ls (zI b :: zI a :: st) σ Q := by
  subst hp
  refine zF_step rfl rfl rfl ?_ k
  intro ρ p e R s m args below meth c hC H locs cells slots lsA Qm hS hR1 hR2 kk
  have q := kk H locs lsA hS
  simp only [List.map_cons, ztr, zofmul] at q ⊢
  exact lv_imul hC.1 hC.2.1 hd q
theorem zF_ladd (pc' : Nat) {a b : Int} (hd : decode M.2.1 pc = .ok (.ladd, 1)) (hp : pc + 1 = pc') (k : zF G M d pc' ls (zL (a + b) :: st) σ Q) : zF G M d pc ls (zL b :: zL a :: st) σ Q := by
  subst hp
  refine zF_step rfl rfl rfl ?_ k
  intro ρ p e R s m args below meth c hC H locs cells slots lsA Qm hS hR1 hR2 kk
  have q := kk H locs lsA hS
  simp only [List.map_cons, ztr, zofaddL] at q ⊢
  exact lv_ladd hC.1 hC.2.1 hd q
theorem zF_lsub (pc' : Nat) {a b : Int} (hd : decode M.2.1 pc = .ok (.lsub, 1)) (hp : pc + 1 = pc') (k : zF G M d pc' ls (zL (a - b) :: st) σ Q) : zF G M d pc ls (zL b :: zL a :: st) σ Q := by
  subst hp
  refine zF_step rfl rfl rfl ?_ k
  intro ρ p e R s m args below meth c hC H locs cells slots lsA Qm hS hR1 hR2 kk
  have q := kk H locs lsA hS
  simp only [List.map_cons, ztr, zofsubL] at q ⊢
  exact lv_lsub hC.1 hC.2.1 hd q
theorem zF_lmul (pc' : Nat) {a b : Int} (hd : decode M.2.1 pc = .ok (.lmul, 1)) (hp : pc + 1 = pc') (k : zF G M d pc' ls (zL (a * b) :: st) σ Q) : zF G M d pc ls (zL b :: zL a :: st) σ Q := by
  subst hp
  refine zF_step rfl rfl rfl ?_ k
  intro ρ p e R s m args below meth c hC H locs cells slots lsA Qm hS hR1 hR2 kk
  have q := kk H locs lsA hS
  simp only [List.map_cons, ztr, zofmulL] at q ⊢
  exact lv_lmul hC.1 hC.2.1 hd q
theorem zF_ineg (pc' : Nat) {a : Int} (hd : decode M.2.1 pc = .ok (.ineg, 1)) (hp : pc + 1 = pc') (k : zF G M d pc' ls (zI (-a) :: st) σ Q) : zF G M d pc ls (zI a :: st) σ Q := by
  subst hp
  refine zF_step rfl rfl rfl ?_ k
  intro ρ p e R s m args below meth c hC H locs cells slots lsA Qm hS hR1 hR2 kk
  have q := kk H locs lsA hS
  simp only [List.map_cons, ztr, zofneg] at q ⊢
  exact lv_ineg hC.1 hC.2.1 hd q
theorem zdv {a b : Int} (ha : 0 ≤ a) (ha2 : a < 2147483648) (hb : 0 < b) (hb2 : b < 2147483648) : Int32.ofInt a / Int32.ofInt b = Int32.ofInt (a / b) := by
  apply Int32.toInt_inj.mp
  have h1 : a / b ≤ a := Int.ediv_le_self _ ha
  have h2 : 0 ≤ a / b := Int.ediv_nonneg ha (by omega)
  rw [Int32.toInt_div_of_ne_right _ _ (by intro e; have e2 := congrArg Int32.toInt e; rw [zti ⟨by omega, hb2⟩] at e2; have e3 : (-1 : Int32).toInt = -1 := by decide
                                          omega), zti ⟨by omega, ha2⟩, zti ⟨by omega, hb2⟩, zti ⟨by omega, by omega⟩, Int.tdiv_eq_ediv_of_nonneg ha]
theorem zne0 {b : Int} (h : 0 < b) (hb2 : b < 2147483648) : ¬ Int32.ofInt b = 0 := by
  rw [z0, zceq ⟨by omega, hb2⟩ zrg0]; omega
theorem zF_idiv (pc' : Nat) {a b : Int} (hd : decode M.2.1 pc = .ok (.idiv, 1)) (hp : pc + 1 = pc') (ha : 0 ≤ a) (ha2 : a < 2147483648) (hb : 0 < b) (hb2 : b < 2147483648) (k : zF G M d pc' ls (zI (a / b) :: st) σ Q) : zF G M d pc ls (zI b :: zI a :: st) σ Q := by
  subst hp
  refine zF_step rfl rfl rfl ?_ k
  intro ρ p e R s m args below meth c hC H locs cells slots lsA Qm hS hR1 hR2 kk
  have q := kk H locs lsA hS
  simp only [List.map_cons, ztr, ← zdv ha ha2 hb hb2] at q ⊢
  exact lv_idiv hC.1 hC.2.1 hd (zne0 hb hb2) q
theorem zrm2 {a b : Int} (ha : 0 ≤ a) (ha2 : a < 2147483648) (hb : 0 < b) (hb2 : b < 2147483648) : Int32.ofInt a - Int32.ofInt a / Int32.ofInt b * Int32.ofInt b = Int32.ofInt (a % b) := by
  rw [zdv ha ha2 hb hb2, ← zofmul, ← zofsub]
  congr 1
  have := Int.mul_ediv_add_emod a b
  rw [Int.mul_comm] at this
  omega
theorem zF_irem (pc' : Nat) {a b : Int} (hd : decode M.2.1 pc = .ok (.irem, 1)) (hp : pc + 1 = pc') (ha : 0 ≤ a) (ha2 : a < 2147483648) (hb : 0 < b) (hb2 : b < 2147483648) (k : zF G M d pc' ls (zI (a % b) :: st) σ Q) : zF G M d pc ls (zI b :: zI a :: st) σ Q := by
  subst hp
  refine zF_step rfl rfl rfl ?_ k
  intro ρ p e R s m args below meth c hC H locs cells slots lsA Qm hS hR1 hR2 kk
  have q := kk H locs lsA hS
  simp only [List.map_cons, ztr, ← zrm2 ha ha2 hb hb2] at q ⊢
  exact lv_irem hC.1 hC.2.1 hd (zne0 hb hb2) q
theorem zF_iand (pc' : Nat) {a b : Int} (hd : decode M.2.1 pc = .ok (.iand, 1)) (hp : pc + 1 = pc') (k : zF G M d pc' ls (zI (Int32.ofInt a &&& Int32.ofInt b).toInt :: st) σ Q) : zF G M d pc ls (zI b :: zI a :: st) σ Q := by
  subst hp
  refine zF_step rfl rfl rfl ?_ k
  intro ρ p e R s m args below meth c hC H locs cells slots lsA Qm hS hR1 hR2 kk
  have q := kk H locs lsA hS
  simp only [List.map_cons, ztr, Int32.ofInt_toInt] at q ⊢
  exact lv_iand hC.1 hC.2.1 hd q
theorem zF_ior (pc' : Nat) {a b : Int} (hd : decode M.2.1 pc = .ok (.ior, 1)) (hp : pc + 1 = pc') (k : zF G M d pc' ls (zI (Int32.ofInt a ||| Int32.ofInt b).toInt :: st) σ Q) : zF G M d pc ls (zI b :: zI a :: st) σ Q := by
  subst hp
  refine zF_step rfl rfl rfl ?_ k
  intro ρ p e R s m args below meth c hC H locs cells slots lsA Qm hS hR1 hR2 kk
  have q := kk H locs lsA hS
  simp only [List.map_cons, ztr, Int32.ofInt_toInt] at q ⊢
  exact lv_ior hC.1 hC.2.1 hd q
theorem zF_ixor (pc' : Nat) {a b : Int} (hd : decode M.2.1 pc = .ok (.ixor, 1)) (hp : pc + 1 = pc') (k : zF G M d pc' ls (zI (Int32.ofInt a ^^^ Int32.ofInt b).toInt :: st) σ Q) : zF G M d pc ls (zI b :: zI a :: st) σ Q := by
  subst hp
  refine zF_step rfl rfl rfl ?_ k
  intro ρ p e R s m args below meth c hC H locs cells slots lsA Qm hS hR1 hR2 kk
  have q := kk H locs lsA hS
  simp only [List.map_cons, ztr, Int32.ofInt_toInt] at q ⊢
  exact lv_ixor hC.1 hC.2.1 hd q
theorem zF_ishl (pc' : Nat) {a b : Int} (hd : decode M.2.1 pc = .ok (.ishl, 1)) (hp : pc + 1 = pc') (k : zF G M d pc' ls (zI (Int32.ofInt a <<< (Int32.ofInt b &&& 31)).toInt :: st) σ Q) : zF G M d pc ls (zI b :: zI a :: st) σ Q := by
  subst hp
  refine zF_step rfl rfl rfl ?_ k
  intro ρ p e R s m args below meth c hC H locs cells slots lsA Qm hS hR1 hR2 kk
  have q := kk H locs lsA hS
  simp only [List.map_cons, ztr, Int32.ofInt_toInt] at q ⊢
  exact lv_ishl hC.1 hC.2.1 hd q
theorem zF_ishr (pc' : Nat) {a b : Int} (hd : decode M.2.1 pc = .ok (.ishr, 1)) (hp : pc + 1 = pc') (k : zF G M d pc' ls (zI (Int32.ofInt a >>> (Int32.ofInt b &&& 31)).toInt :: st) σ Q) : zF G M d pc ls (zI b :: zI a :: st) σ Q := by
  subst hp
  refine zF_step rfl rfl rfl ?_ k
  intro ρ p e R s m args below meth c hC H locs cells slots lsA Qm hS hR1 hR2 kk
  have q := kk H locs lsA hS
  simp only [List.map_cons, ztr, Int32.ofInt_toInt] at q ⊢
  exact lv_ishr hC.1 hC.2.1 hd q
theorem zF_land (pc' : Nat) {a b : Int} (hd : decode M.2.1 pc = .ok (.land, 1)) (hp : pc + 1 = pc') (k : zF G M d pc' ls (zL (Int64.ofInt a &&& Int64.ofInt b).toInt :: st) σ Q) : zF G M d pc ls (zL b :: zL a :: st) σ Q := by
  subst hp
  refine zF_step rfl rfl rfl ?_ k
  intro ρ p e R s m args below meth c hC H locs cells slots lsA Qm hS hR1 hR2 kk
  have q := kk H locs lsA hS
  simp only [List.map_cons, ztr, Int64.ofInt_toInt] at q ⊢
  exact lv_land hC.1 hC.2.1 hd q
theorem zF_lor (pc' : Nat) {a b : Int} (hd : decode M.2.1 pc = .ok (.lor, 1)) (hp : pc + 1 = pc') (k : zF G M d pc' ls (zL (Int64.ofInt a ||| Int64.ofInt b).toInt :: st) σ Q) : zF G M d pc ls (zL b :: zL a :: st) σ Q := by
  subst hp
  refine zF_step rfl rfl rfl ?_ k
  intro ρ p e R s m args below meth c hC H locs cells slots lsA Qm hS hR1 hR2 kk
  have q := kk H locs lsA hS
  simp only [List.map_cons, ztr, Int64.ofInt_toInt] at q ⊢
  exact lv_lor hC.1 hC.2.1 hd q
theorem zF_i2l (pc' : Nat) {a : Int} (hd : decode M.2.1 pc = .ok (.i2l, 1)) (hp : pc + 1 = pc') (ha : zrg a) (k : zF G M d pc' ls (zL a :: st) σ Q) : zF G M d pc ls (zI a :: st) σ Q := by
  subst hp
  refine zF_step rfl rfl rfl ?_ k
  intro ρ p e R s m args below meth c hC H locs cells slots lsA Qm hS hR1 hR2 kk
  have q := kk H locs lsA hS
  simp only [List.map_cons, ztr] at q ⊢
  exact lv_i2l hC.1 hC.2.1 hd (Int32.toInt64_ofInt ha.1 (by have h1 := ha.2; show a ≤ 2147483647; omega)) q
theorem zl2 {a : Int} (ha : zrg a) : (Int64.ofInt a).toInt32 = Int32.ofInt a := by
  apply Int32.toInt_inj.mp
  rw [Int64.toInt_toInt32, ztl ⟨by omega, by omega⟩, Int32.toInt_ofInt]
theorem zF_l2i (pc' : Nat) {a : Int} (hd : decode M.2.1 pc = .ok (.l2i, 1)) (hp : pc + 1 = pc') (ha : zrg a) (k : zF G M d pc' ls (zI a :: st) σ Q) : zF G M d pc ls (zL a :: st) σ Q := by
  subst hp
  refine zF_step rfl rfl rfl ?_ k
  intro ρ p e R s m args below meth c hC H locs cells slots lsA Qm hS hR1 hR2 kk
  have q := kk H locs lsA hS
  simp only [List.map_cons, ztr] at q ⊢
  exact lv_l2i hC.1 hC.2.1 hd (zl2 ha) q
theorem zF_i2b (pc' : Nat) {a : Int} (hd : decode M.2.1 pc = .ok (.i2b, 1)) (hp : pc + 1 = pc') (k : zF G M d pc' ls (zI (Int32.ofInt a).toInt8.toInt32.toInt :: st) σ Q) : zF G M d pc ls (zI a :: st) σ Q := by
  subst hp
  refine zF_step rfl rfl rfl ?_ k
  intro ρ p e R s m args below meth c hC H locs cells slots lsA Qm hS hR1 hR2 kk
  have q := kk H locs lsA hS
  simp only [List.map_cons, ztr, Int32.ofInt_toInt] at q ⊢
  exact lv_i2b hC.1 hC.2.1 hd rfl q
def zlcm (a b : Int) : Int := if b < a then 1 else if a = b then 0 else -1
theorem zlcm_eq {a b : Int} (ha : zrgL a) (hb : zrgL b) : lg_cmp (Int64.ofInt a) (Int64.ofInt b) = Int32.ofInt (zlcm a b) := by
  have e1 : Int64.ofInt b < Int64.ofInt a ↔ b < a := by rw [Int64.lt_iff_toInt_lt, ztl ha, ztl hb]
  have e2 : Int64.ofInt a = Int64.ofInt b ↔ a = b := by rw [← Int64.toInt_inj, ztl ha, ztl hb]
  simp only [lg_cmp, zlcm]
  by_cases h1 : b < a
  · rw [if_pos (e1.mpr h1), if_pos h1]; rfl
  · rw [if_neg (mt e1.mp h1), if_neg h1]
    by_cases h2 : a = b
    · rw [if_pos (e2.mpr h2), if_pos h2]; rfl
    · rw [if_neg (mt e2.mp h2), if_neg h2]; rfl
theorem zF_lcmp (pc' : Nat) {a b : Int} (hd : decode M.2.1 pc = .ok (.lcmp, 1)) (hp : pc + 1 = pc') (ha : zrgL a) (hb : zrgL b) (k : zF G M d pc' ls (zI (zlcm a b) :: st) σ Q) : zF G M d pc ls (zL b :: zL a :: st) σ Q := by
  subst hp
  refine zF_step rfl rfl rfl ?_ k
  intro ρ p e R s m args below meth c hC H locs cells slots lsA Qm hS hR1 hR2 kk
  have q := kk H locs lsA hS
  simp only [List.map_cons, ztr, ← zlcm_eq ha hb] at q ⊢
  exact W.lcmp hC.1 hC.2.1 hd q
theorem zF_dup (pc' : Nat) {v : zV} (hd : decode M.2.1 pc = .ok (.dup, 1)) (hp : pc + 1 = pc') (hv : zcat v = 1) (k : zF G M d pc' ls (v :: v :: st) σ Q) : zF G M d pc ls (v :: st) σ Q := by
  subst hp
  refine zF_step rfl rfl rfl ?_ k
  intro ρ p e R s m args below meth c hC H locs cells slots lsA Qm hS hR1 hR2 kk
  have q := kk H locs lsA hS
  simp only [List.map_cons, ztr] at q ⊢
  exact lv_dup hC.1 hC.2.1 hd ((ztr_cat ρ v).trans hv) q
theorem zF_pop (pc' : Nat) {v : zV} (hd : decode M.2.1 pc = .ok (.pop, 1)) (hp : pc + 1 = pc') (hv : zcat v = 1) (k : zF G M d pc' ls (st) σ Q) : zF G M d pc ls (v :: st) σ Q := by
  subst hp
  refine zF_step rfl rfl rfl ?_ k
  intro ρ p e R s m args below meth c hC H locs cells slots lsA Qm hS hR1 hR2 kk
  have q := kk H locs lsA hS
  simp only [List.map_cons, ztr] at q ⊢
  exact lv_pop hC.1 hC.2.1 hd ((ztr_cat ρ v).trans hv) q
theorem zF_dup2 (pc' : Nat) {v w : zV} (hd : decode M.2.1 pc = .ok (.dup2, 1)) (hp : pc + 1 = pc') (hv : zcat v = 1) (hw : zcat w = 1) (k : zF G M d pc' ls (v :: w :: v :: w :: st) σ Q) : zF G M d pc ls (v :: w :: st) σ Q := by
  subst hp
  refine zF_step rfl rfl rfl ?_ k
  intro ρ p e R s m args below meth c hC H locs cells slots lsA Qm hS hR1 hR2 kk
  have q := kk H locs lsA hS
  simp only [List.map_cons, ztr] at q ⊢
  exact lv_dup2_11 hC.1 hC.2.1 hd ((ztr_cat ρ v).trans hv) ((ztr_cat ρ w).trans hw) q
theorem zF_ldc (pc' : Nat) {i : Nat} {z : Int} (hd : decode M.2.1 pc = .ok (.ldc i, 2)) (hp : pc + 2 = pc') (hc : Cond.constant M.1.cls i (Int32.ofInt z) ∈ lw_all) (k : zF G M d pc' ls (zI z :: st) σ Q) : zF G M d pc ls (st) σ Q := by
  subst hp
  refine zF_step rfl rfl rfl ?_ k
  intro ρ p e R s m args below meth c hC H locs cells slots lsA Qm hS hR1 hR2 kk
  have q := kk H locs lsA hS
  simp only [List.map_cons, ztr] at q ⊢
  exact lv_ldc hC.1 hC.2.1 hC.2.2.2.1 (hC.2.2.2.2.1 _ hc) hd q
theorem zF_ldcw (pc' : Nat) {i : Nat} {z : Int} (hd : decode M.2.1 pc = .ok (.ldc_w i, 3)) (hp : pc + 3 = pc') (hc : Cond.constant M.1.cls i (Int32.ofInt z) ∈ lw_all) (k : zF G M d pc' ls (zI z :: st) σ Q) : zF G M d pc ls (st) σ Q := by
  subst hp
  refine zF_step rfl rfl rfl ?_ k
  intro ρ p e R s m args below meth c hC H locs cells slots lsA Qm hS hR1 hR2 kk
  have q := kk H locs lsA hS
  simp only [List.map_cons, ztr] at q ⊢
  exact lv_ldcw hC.1 hC.2.1 hC.2.2.2.1 (hC.2.2.2.2.1 _ hc) hd q
theorem zF_ldc2 (pc' : Nat) {i : Nat} {z : Int} (hd : decode M.2.1 pc = .ok (.ldc2_w i, 3)) (hp : pc + 3 = pc') (hc : Cond.constantLong M.1.cls i (Int64.ofInt z) ∈ lw_all) (k : zF G M d pc' ls (zL z :: st) σ Q) : zF G M d pc ls (st) σ Q := by
  subst hp
  refine zF_step rfl rfl rfl ?_ k
  intro ρ p e R s m args below meth c hC H locs cells slots lsA Qm hS hR1 hR2 kk
  have q := kk H locs lsA hS
  simp only [List.map_cons, ztr] at q ⊢
  exact lv_ldc2 hC.1 hC.2.1 hC.2.2.2.1 (hC.2.2.2.2.1 _ hc) hd q
theorem zF_goto (pc' : Nat) {off : Int} (hd : decode M.2.1 pc = .ok (.goto off, 3)) (ht : (pc : Int) + off = (pc' : Int)) (k : zF G M d pc' ls st σ Q) : zF G M d pc ls st σ Q := by
  refine zF_step rfl rfl rfl ?_ k
  intro ρ p e R s m args below meth c hC H locs cells slots lsA Qm hS hR1 hR2 kk
  exact lv_goto hC.1 hC.2.1 hd ht (kk H locs lsA hS)
theorem zF_icmp_eq (pc1 pc2 : Nat) {a b : Int} {off : Int} (hd : decode M.2.1 pc = .ok (.if_icmp .eq off, 3)) (ht : (pc : Int) + off = (pc1 : Int)) (hp : pc + 3 = pc2) (ha : zrg a) (hb : zrg b) (k1 : a = b → zF G M d pc1 ls st σ Q) (k2 : ¬ (a = b) → zF G M d pc2 ls st σ Q) : zF G M d pc ls (zI b :: zI a :: st) σ Q := by
  subst hp
  have key := zceq ha hb
  by_cases hcnd : a = b
  · refine zF_step rfl rfl rfl ?_ (k1 hcnd)
    intro ρ p e R s m args below meth c hC H locs cells slots lsA Qm hS hR1 hR2 kk
    simp only [List.map_cons, ztr]
    exact lv_icmp_eq hC.1 hC.2.1 hd ht (fun _ => kk H locs lsA hS) (fun x => absurd (key.mpr hcnd) x)
  · refine zF_step rfl rfl rfl ?_ (k2 hcnd)
    intro ρ p e R s m args below meth c hC H locs cells slots lsA Qm hS hR1 hR2 kk
    simp only [List.map_cons, ztr]
    exact lv_icmp_eq hC.1 hC.2.1 hd ht (fun x => absurd (key.mp x) hcnd) (fun _ => kk H locs lsA hS)
theorem zF_icmp_ne (pc1 pc2 : Nat) {a b : Int} {off : Int} (hd : decode M.2.1 pc = .ok (.if_icmp .ne off, 3)) (ht : (pc : Int) + off = (pc1 : Int)) (hp : pc + 3 = pc2) (ha : zrg a) (hb : zrg b) (k1 : ¬ a = b → zF G M d pc1 ls st σ Q) (k2 : ¬ (¬ a = b) → zF G M d pc2 ls st σ Q) : zF G M d pc ls (zI b :: zI a :: st) σ Q := by
  subst hp
  have key := zceq ha hb
  by_cases hcnd : ¬ a = b
  · refine zF_step rfl rfl rfl ?_ (k1 hcnd)
    intro ρ p e R s m args below meth c hC H locs cells slots lsA Qm hS hR1 hR2 kk
    simp only [List.map_cons, ztr]
    exact lv_icmp_ne hC.1 hC.2.1 hd ht (fun _ => kk H locs lsA hS) (fun x => absurd (key.mp x) hcnd)
  · refine zF_step rfl rfl rfl ?_ (k2 hcnd)
    intro ρ p e R s m args below meth c hC H locs cells slots lsA Qm hS hR1 hR2 kk
    simp only [List.map_cons, ztr]
    exact lv_icmp_ne hC.1 hC.2.1 hd ht (fun x => absurd (key.mpr (Decidable.not_not.mp hcnd)) x) (fun _ => kk H locs lsA hS)
theorem zF_icmp_lt (pc1 pc2 : Nat) {a b : Int} {off : Int} (hd : decode M.2.1 pc = .ok (.if_icmp .lt off, 3)) (ht : (pc : Int) + off = (pc1 : Int)) (hp : pc + 3 = pc2) (ha : zrg a) (hb : zrg b) (k1 : a < b → zF G M d pc1 ls st σ Q) (k2 : ¬ (a < b) → zF G M d pc2 ls st σ Q) : zF G M d pc ls (zI b :: zI a :: st) σ Q := by
  subst hp
  have key := zclt ha hb
  by_cases hcnd : a < b
  · refine zF_step rfl rfl rfl ?_ (k1 hcnd)
    intro ρ p e R s m args below meth c hC H locs cells slots lsA Qm hS hR1 hR2 kk
    simp only [List.map_cons, ztr]
    exact lv_icmp_lt hC.1 hC.2.1 hd ht (fun _ => kk H locs lsA hS) (fun x => absurd (key.mpr hcnd) x)
  · refine zF_step rfl rfl rfl ?_ (k2 hcnd)
    intro ρ p e R s m args below meth c hC H locs cells slots lsA Qm hS hR1 hR2 kk
    simp only [List.map_cons, ztr]
    exact lv_icmp_lt hC.1 hC.2.1 hd ht (fun x => absurd (key.mp x) hcnd) (fun _ => kk H locs lsA hS)
theorem zF_icmp_ge (pc1 pc2 : Nat) {a b : Int} {off : Int} (hd : decode M.2.1 pc = .ok (.if_icmp .ge off, 3)) (ht : (pc : Int) + off = (pc1 : Int)) (hp : pc + 3 = pc2) (ha : zrg a) (hb : zrg b) (k1 : b ≤ a → zF G M d pc1 ls st σ Q) (k2 : ¬ (b ≤ a) → zF G M d pc2 ls st σ Q) : zF G M d pc ls (zI b :: zI a :: st) σ Q := by
  subst hp
  have key := zcle hb ha
  by_cases hcnd : b ≤ a
  · refine zF_step rfl rfl rfl ?_ (k1 hcnd)
    intro ρ p e R s m args below meth c hC H locs cells slots lsA Qm hS hR1 hR2 kk
    simp only [List.map_cons, ztr]
    exact lv_icmp_ge hC.1 hC.2.1 hd ht (fun _ => kk H locs lsA hS) (fun x => absurd (key.mpr hcnd) x)
  · refine zF_step rfl rfl rfl ?_ (k2 hcnd)
    intro ρ p e R s m args below meth c hC H locs cells slots lsA Qm hS hR1 hR2 kk
    simp only [List.map_cons, ztr]
    exact lv_icmp_ge hC.1 hC.2.1 hd ht (fun x => absurd (key.mp x) hcnd) (fun _ => kk H locs lsA hS)
theorem zF_icmp_gt (pc1 pc2 : Nat) {a b : Int} {off : Int} (hd : decode M.2.1 pc = .ok (.if_icmp .gt off, 3)) (ht : (pc : Int) + off = (pc1 : Int)) (hp : pc + 3 = pc2) (ha : zrg a) (hb : zrg b) (k1 : b < a → zF G M d pc1 ls st σ Q) (k2 : ¬ (b < a) → zF G M d pc2 ls st σ Q) : zF G M d pc ls (zI b :: zI a :: st) σ Q := by
  subst hp
  have key := zclt hb ha
  by_cases hcnd : b < a
  · refine zF_step rfl rfl rfl ?_ (k1 hcnd)
    intro ρ p e R s m args below meth c hC H locs cells slots lsA Qm hS hR1 hR2 kk
    simp only [List.map_cons, ztr]
    exact lv_icmp_gt hC.1 hC.2.1 hd ht (fun _ => kk H locs lsA hS) (fun x => absurd (key.mpr hcnd) x)
  · refine zF_step rfl rfl rfl ?_ (k2 hcnd)
    intro ρ p e R s m args below meth c hC H locs cells slots lsA Qm hS hR1 hR2 kk
    simp only [List.map_cons, ztr]
    exact lv_icmp_gt hC.1 hC.2.1 hd ht (fun x => absurd (key.mp x) hcnd) (fun _ => kk H locs lsA hS)
theorem zF_icmp_le (pc1 pc2 : Nat) {a b : Int} {off : Int} (hd : decode M.2.1 pc = .ok (.if_icmp .le off, 3)) (ht : (pc : Int) + off = (pc1 : Int)) (hp : pc + 3 = pc2) (ha : zrg a) (hb : zrg b) (k1 : a ≤ b → zF G M d pc1 ls st σ Q) (k2 : ¬ (a ≤ b) → zF G M d pc2 ls st σ Q) : zF G M d pc ls (zI b :: zI a :: st) σ Q := by
  subst hp
  have key := zcle ha hb
  by_cases hcnd : a ≤ b
  · refine zF_step rfl rfl rfl ?_ (k1 hcnd)
    intro ρ p e R s m args below meth c hC H locs cells slots lsA Qm hS hR1 hR2 kk
    simp only [List.map_cons, ztr]
    exact lv_icmp_le hC.1 hC.2.1 hd ht (fun _ => kk H locs lsA hS) (fun x => absurd (key.mpr hcnd) x)
  · refine zF_step rfl rfl rfl ?_ (k2 hcnd)
    intro ρ p e R s m args below meth c hC H locs cells slots lsA Qm hS hR1 hR2 kk
    simp only [List.map_cons, ztr]
    exact lv_icmp_le hC.1 hC.2.1 hd ht (fun x => absurd (key.mp x) hcnd) (fun _ => kk H locs lsA hS)
theorem zF_if_eq (pc1 pc2 : Nat) {a : Int} {off : Int} (hd : decode M.2.1 pc = .ok (.ifCond .eq off, 3)) (ht : (pc : Int) + off = (pc1 : Int)) (hp : pc + 3 = pc2) (ha : zrg a) (k1 : a = 0 → zF G M d pc1 ls st σ Q) (k2 : ¬ (a = 0) → zF G M d pc2 ls st σ Q) : zF G M d pc ls (zI a :: st) σ Q := by
  subst hp
  have key := (by rw [z0]; exact zceq ha zrg0 : Int32.ofInt a = 0 ↔ a = 0)
  by_cases hcnd : a = 0
  · refine zF_step rfl rfl rfl ?_ (k1 hcnd)
    intro ρ p e R s m args below meth c hC H locs cells slots lsA Qm hS hR1 hR2 kk
    simp only [List.map_cons, ztr]
    exact lv_if_eq hC.1 hC.2.1 hd ht (fun _ => kk H locs lsA hS) (fun x => absurd (key.mpr hcnd) x)
  · refine zF_step rfl rfl rfl ?_ (k2 hcnd)
    intro ρ p e R s m args below meth c hC H locs cells slots lsA Qm hS hR1 hR2 kk
    simp only [List.map_cons, ztr]
    exact lv_if_eq hC.1 hC.2.1 hd ht (fun x => absurd (key.mp x) hcnd) (fun _ => kk H locs lsA hS)
theorem zF_if_ne (pc1 pc2 : Nat) {a : Int} {off : Int} (hd : decode M.2.1 pc = .ok (.ifCond .ne off, 3)) (ht : (pc : Int) + off = (pc1 : Int)) (hp : pc + 3 = pc2) (ha : zrg a) (k1 : ¬ a = 0 → zF G M d pc1 ls st σ Q) (k2 : ¬ (¬ a = 0) → zF G M d pc2 ls st σ Q) : zF G M d pc ls (zI a :: st) σ Q := by
  subst hp
  have key := (by rw [z0]; exact zceq ha zrg0 : Int32.ofInt a = 0 ↔ a = 0)
  by_cases hcnd : ¬ a = 0
  · refine zF_step rfl rfl rfl ?_ (k1 hcnd)
    intro ρ p e R s m args below meth c hC H locs cells slots lsA Qm hS hR1 hR2 kk
    simp only [List.map_cons, ztr]
    exact lv_if_ne hC.1 hC.2.1 hd ht (fun _ => kk H locs lsA hS) (fun x => absurd (key.mp x) hcnd)
  · refine zF_step rfl rfl rfl ?_ (k2 hcnd)
    intro ρ p e R s m args below meth c hC H locs cells slots lsA Qm hS hR1 hR2 kk
    simp only [List.map_cons, ztr]
    exact lv_if_ne hC.1 hC.2.1 hd ht (fun x => absurd (key.mpr (Decidable.not_not.mp hcnd)) x) (fun _ => kk H locs lsA hS)
theorem zF_if_lt (pc1 pc2 : Nat) {a : Int} {off : Int} (hd : decode M.2.1 pc = .ok (.ifCond .lt off, 3)) (ht : (pc : Int) + off = (pc1 : Int)) (hp : pc + 3 = pc2) (ha : zrg a) (k1 : a < 0 → zF G M d pc1 ls st σ Q) (k2 : ¬ (a < 0) → zF G M d pc2 ls st σ Q) : zF G M d pc ls (zI a :: st) σ Q := by
  subst hp
  have key := (by rw [z0]; exact zclt ha zrg0 : Int32.ofInt a < 0 ↔ a < 0)
  by_cases hcnd : a < 0
  · refine zF_step rfl rfl rfl ?_ (k1 hcnd)
    intro ρ p e R s m args below meth c hC H locs cells slots lsA Qm hS hR1 hR2 kk
    simp only [List.map_cons, ztr]
    exact lv_if_lt hC.1 hC.2.1 hd ht (fun _ => kk H locs lsA hS) (fun x => absurd (key.mpr hcnd) x)
  · refine zF_step rfl rfl rfl ?_ (k2 hcnd)
    intro ρ p e R s m args below meth c hC H locs cells slots lsA Qm hS hR1 hR2 kk
    simp only [List.map_cons, ztr]
    exact lv_if_lt hC.1 hC.2.1 hd ht (fun x => absurd (key.mp x) hcnd) (fun _ => kk H locs lsA hS)
theorem zF_if_ge (pc1 pc2 : Nat) {a : Int} {off : Int} (hd : decode M.2.1 pc = .ok (.ifCond .ge off, 3)) (ht : (pc : Int) + off = (pc1 : Int)) (hp : pc + 3 = pc2) (ha : zrg a) (k1 : 0 ≤ a → zF G M d pc1 ls st σ Q) (k2 : ¬ (0 ≤ a) → zF G M d pc2 ls st σ Q) : zF G M d pc ls (zI a :: st) σ Q := by
  subst hp
  have key := (by rw [z0]; exact zcle zrg0 ha : 0 ≤ Int32.ofInt a ↔ 0 ≤ a)
  by_cases hcnd : 0 ≤ a
  · refine zF_step rfl rfl rfl ?_ (k1 hcnd)
    intro ρ p e R s m args below meth c hC H locs cells slots lsA Qm hS hR1 hR2 kk
    simp only [List.map_cons, ztr]
    exact lv_if_ge hC.1 hC.2.1 hd ht (fun _ => kk H locs lsA hS) (fun x => absurd (key.mpr hcnd) x)
  · refine zF_step rfl rfl rfl ?_ (k2 hcnd)
    intro ρ p e R s m args below meth c hC H locs cells slots lsA Qm hS hR1 hR2 kk
    simp only [List.map_cons, ztr]
    exact lv_if_ge hC.1 hC.2.1 hd ht (fun x => absurd (key.mp x) hcnd) (fun _ => kk H locs lsA hS)
theorem zF_if_gt (pc1 pc2 : Nat) {a : Int} {off : Int} (hd : decode M.2.1 pc = .ok (.ifCond .gt off, 3)) (ht : (pc : Int) + off = (pc1 : Int)) (hp : pc + 3 = pc2) (ha : zrg a) (k1 : 0 < a → zF G M d pc1 ls st σ Q) (k2 : ¬ (0 < a) → zF G M d pc2 ls st σ Q) : zF G M d pc ls (zI a :: st) σ Q := by
  subst hp
  have key := (by rw [z0]; exact zclt zrg0 ha : 0 < Int32.ofInt a ↔ 0 < a)
  by_cases hcnd : 0 < a
  · refine zF_step rfl rfl rfl ?_ (k1 hcnd)
    intro ρ p e R s m args below meth c hC H locs cells slots lsA Qm hS hR1 hR2 kk
    simp only [List.map_cons, ztr]
    exact lv_if_gt hC.1 hC.2.1 hd ht (fun _ => kk H locs lsA hS) (fun x => absurd (key.mpr hcnd) x)
  · refine zF_step rfl rfl rfl ?_ (k2 hcnd)
    intro ρ p e R s m args below meth c hC H locs cells slots lsA Qm hS hR1 hR2 kk
    simp only [List.map_cons, ztr]
    exact lv_if_gt hC.1 hC.2.1 hd ht (fun x => absurd (key.mp x) hcnd) (fun _ => kk H locs lsA hS)
theorem zF_if_le (pc1 pc2 : Nat) {a : Int} {off : Int} (hd : decode M.2.1 pc = .ok (.ifCond .le off, 3)) (ht : (pc : Int) + off = (pc1 : Int)) (hp : pc + 3 = pc2) (ha : zrg a) (k1 : a ≤ 0 → zF G M d pc1 ls st σ Q) (k2 : ¬ (a ≤ 0) → zF G M d pc2 ls st σ Q) : zF G M d pc ls (zI a :: st) σ Q := by
  subst hp
  have key := (by rw [z0]; exact zcle ha zrg0 : Int32.ofInt a ≤ 0 ↔ a ≤ 0)
  by_cases hcnd : a ≤ 0
  · refine zF_step rfl rfl rfl ?_ (k1 hcnd)
    intro ρ p e R s m args below meth c hC H locs cells slots lsA Qm hS hR1 hR2 kk
    simp only [List.map_cons, ztr]
    exact lv_if_le hC.1 hC.2.1 hd ht (fun _ => kk H locs lsA hS) (fun x => absurd (key.mpr hcnd) x)
  · refine zF_step rfl rfl rfl ?_ (k2 hcnd)
    intro ρ p e R s m args below meth c hC H locs cells slots lsA Qm hS hR1 hR2 kk
    simp only [List.map_cons, ztr]
    exact lv_if_le hC.1 hC.2.1 hd ht (fun x => absurd (key.mp x) hcnd) (fun _ => kk H locs lsA hS)
theorem zF_swOut (pc' : Nat) {a lo hi dflt : Int} {offs : Array Int} {len : Nat} (hd : decode M.2.1 pc = .ok (.tableswitch dflt lo hi offs, len)) (ha : zrg a) (h : a < lo ∨ hi < a) (ht : (pc : Int) + dflt = (pc' : Int)) (k : zF G M d pc' ls st σ Q) : zF G M d pc ls (zI a :: st) σ Q := by
  refine zF_step rfl rfl rfl ?_ k
  intro ρ p e R s m args below meth c hC H locs cells slots lsA Qm hS hR1 hR2 kk
  exact lv_tableOut hC.1 hC.2.1 hd (by rw [zti ha]; exact h) ht (kk H locs lsA hS)
theorem zF_swIn (pc' : Nat) {a lo hi dflt off : Int} {offs : Array Int} {len : Nat} (hd : decode M.2.1 pc = .ok (.tableswitch dflt lo hi offs, len)) (ha : zrg a) (h1 : lo ≤ a) (h2 : a ≤ hi) (ho : offs[(a - lo).toNat]? = some off) (ht : (pc : Int) + off = (pc' : Int)) (k : zF G M d pc' ls st σ Q) : zF G M d pc ls (zI a :: st) σ Q := by
  refine zF_step rfl rfl rfl ?_ k
  intro ρ p e R s m args below meth c hC H locs cells slots lsA Qm hS hR1 hR2 kk
  exact lv_tableIn hC.1 hC.2.1 hd (by rw [zti ha]; omega) (by rw [zti ha]; omega) (by rw [zti ha]; exact ho) ht (kk H locs lsA hS)
end ZR
