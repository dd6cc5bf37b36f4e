/-! the reference: bookings, copies, the record -/
section ZO
variable {G : zG} {d : Nat} {σ : zMem} {hm : Nat} {A : Nat → Nat}
def mBook (N : Int → Int) (s a b c e : Int) : Int → Int := fun j => if j = 14 + 8 * s + 7 then e else if j = 14 + 8 * s + 6 then c else if j = 14 + 8 * s + 5 then b else if j = 14 + 8 * s + 4 then a else N j
theorem zt_X12_book {r : Nat} {s a b c e : Int} (hk : zkd σ r = (1, 312)) (hr : r < zn σ) (h0 : 0 ≤ s) (h1 : s < 10) (he : e = 0 ∨ e = 1) : zE G mX12_book (d + 1) [zR r, zI s, zI a, zI b, zI c, zI e] σ (fun ro σ1 => ro = .inl none ∧ zFr (fun h j => h = r ∧ 14 + 8 * s + 4 ≤ j ∧ j < 14 + 8 * s + 8) σ σ1 ∧ zia σ1 r = mBook (zia σ r) s a b c e) := by
  refine zE_of rfl (by simp [zcat]) (Nat.le_of_ble_eq_true rfl) ?_
  show zF G mX12_book (d + 1) 0 [(0, zR r), (1, zI s), (2, zI a), (3, zI b), (4, zI c), (5, zI e)] [] σ _
  refine zF_aload_n 1 dX12_book_0 rfl rfl ?_
  refine zF_iload_n 2 dX12_book_1 rfl rfl ?_
  refine zF_iconst 3 dX12_book_2 rfl ?_
  refine zF_callSi 6 (d2 := d) (as := [zI s, zI 4]) dX12_book_3 rfl kX12_96 sX12_screenAt (Nat.le_refl _) rfl rfl (Nat.le_of_ble_eq_true rfl) (zt_X12_screenAt) ?_
  refine zF_iload_n 7 dX12_book_6 rfl rfl ?_
  refine zF_iastore 8 dX12_book_7 rfl hk hr (by omega) (by omega) ?_
  refine zF_aload_n 9 dX12_book_8 rfl rfl ?_
  refine zF_iload_n 10 dX12_book_9 rfl rfl ?_
  refine zF_iconst 11 dX12_book_10 rfl ?_
  refine zF_callSi 14 (d2 := d) (as := [zI s, zI 5]) dX12_book_11 rfl kX12_96 sX12_screenAt (Nat.le_refl _) rfl rfl (Nat.le_of_ble_eq_true rfl) (zt_X12_screenAt) ?_
  refine zF_iload_n 15 dX12_book_14 rfl rfl ?_
  refine zF_iastore 16 dX12_book_15 rfl hk hr (by omega) (by omega) ?_
  refine zF_aload_n 17 dX12_book_16 rfl rfl ?_
  refine zF_iload_n 18 dX12_book_17 rfl rfl ?_
  refine zF_bipush 20 dX12_book_18 rfl (by decide) ?_
  refine zF_callSi 23 (d2 := d) (as := [zI s, zI 6]) dX12_book_20 rfl kX12_96 sX12_screenAt (Nat.le_refl _) rfl rfl (Nat.le_of_ble_eq_true rfl) (zt_X12_screenAt) ?_
  refine zF_iload 25 dX12_book_23 rfl rfl ?_
  refine zF_iastore 26 dX12_book_25 rfl hk hr (by omega) (by omega) ?_
  refine zF_aload_n 27 dX12_book_26 rfl rfl ?_
  refine zF_iload_n 28 dX12_book_27 rfl rfl ?_
  refine zF_bipush 30 dX12_book_28 rfl (by decide) ?_
  refine zF_callSi 33 (d2 := d) (as := [zI s, zI 7]) dX12_book_30 rfl kX12_96 sX12_screenAt (Nat.le_refl _) rfl rfl (Nat.le_of_ble_eq_true rfl) (zt_X12_screenAt) ?_
  refine zF_iload 35 dX12_book_33 rfl rfl ?_
  refine zF_if_eq 42 38 dX12_book_35 rfl rfl (by first | decide | assumption | (constructor <;> omega)) (fun c1 => ?_) (fun c1 => ?_)
  · refine zF_iconst 43 dX12_book_42 rfl ?_
    refine zF_iastore 44 dX12_book_43 rfl hk hr (by omega) (by omega) ?_
    exact zF_return dX12_book_44 rfl (⟨rfl, zFr_si ⟨rfl, by omega, by omega⟩ (zFr_si ⟨rfl, by omega, by omega⟩ (zFr_si ⟨rfl, by omega, by omega⟩ (zFr_si ⟨rfl, by omega, by omega⟩ zFr.rf))), by funext j; simp only [zia_si, true_and, mBook]; first | rfl | (rw [show e = 1 by omega]) | (rw [show e = 0 by omega])⟩)
  · refine zF_iconst 39 dX12_book_38 rfl ?_
    refine zF_goto 43 dX12_book_39 rfl ?_
    refine zF_iastore 44 dX12_book_43 rfl hk hr (by omega) (by omega) ?_
    exact zF_return dX12_book_44 rfl (⟨rfl, zFr_si ⟨rfl, by omega, by omega⟩ (zFr_si ⟨rfl, by omega, by omega⟩ (zFr_si ⟨rfl, by omega, by omega⟩ (zFr_si ⟨rfl, by omega, by omega⟩ zFr.rf))), by funext j; simp only [zia_si, true_and, mBook]; first | rfl | (rw [show e = 1 by omega]) | (rw [show e = 0 by omega])⟩)
theorem zcopy_back {σ σ2 : zMem} {f t : Nat} {a b : Int} {x : Nat} (hx : x ≤ 312) (hx2 : x < 312) (fr1 : zFr (fun h j => h = t ∧ 312 * b ≤ j ∧ j < 312 * b + 312) σ σ2) (p1 : ∀ k, 0 ≤ k → k < (x : Int) → zia σ2 t (312 * b + k) = zia σ f (312 * a + k)) (p2 : ∀ k, 0 ≤ k → k < 312 → zia σ2 f (312 * a + k) = zia σ f (312 * a + k) ∨ (f = t ∧ a = b)) (hab : f = t → a ≠ b) :
    x + 1 ≤ 312 ∧ zFr (fun h j => h = t ∧ 312 * b ≤ j ∧ j < 312 * b + 312) σ (zsi σ2 t (312 * b + (x : Int)) (zia σ2 f (312 * a + (x : Int)))) ∧ (∀ k, 0 ≤ k → k < ((x + 1 : Nat) : Int) → zia (zsi σ2 t (312 * b + (x : Int)) (zia σ2 f (312 * a + (x : Int)))) t (312 * b + k) = zia σ f (312 * a + k)) ∧ ∀ k, 0 ≤ k → k < 312 → zia (zsi σ2 t (312 * b + (x : Int)) (zia σ2 f (312 * a + (x : Int)))) f (312 * a + k) = zia σ f (312 * a + k) ∨ (f = t ∧ a = b) := by
  have key : ∀ k, 0 ≤ k → k < 312 → zia σ2 f (312 * a + k) = zia σ f (312 * a + k) := fun k h1 h2 => (p2 k h1 h2).resolve_right fun q => hab q.1 q.2
  refine ⟨by omega, zFr_si ⟨rfl, by omega, by omega⟩ fr1, fun k h1 h2 => ?_, fun k h1 h2 => Or.inl ?_⟩
  · rw [zia_si]
    by_cases e : k = x
    · rw [if_pos ⟨rfl, by omega⟩, e, key x (by omega) (by omega)]
    · rw [if_neg (fun q => e (by have := q.2; omega)), p1 k h1 (by omega)]
  · rw [zia_si, if_neg (fun q => ?_), key k h1 h2]
    have h3 := hab q.1
    have h4 := q.2
    omega
theorem zt_X12_copy {f t n1 n2 : Nat} {a b : Int} (kf : zkd σ f = (1, n1)) (lf : f < zn σ) (kt : zkd σ t = (1, n2)) (lt : t < zn σ) (a0 : 0 ≤ a) (a1 : 312 * a + 312 ≤ n1) (b0 : 0 ≤ b) (b1 : 312 * b + 312 ≤ n2) (hab : f = t → a ≠ b) : zE G mX12_copy d [zR f, zI a, zR t, zI b] σ (fun ro σ1 => ro = .inl none ∧ zFr (fun h j => h = t ∧ 312 * b ≤ j ∧ j < 312 * b + 312) σ σ1 ∧ ∀ k, 0 ≤ k → k < 312 → zia σ1 t (312 * b + k) = zia σ f (312 * a + k)) := by
  refine zE_of rfl (by simp [zcat]) (Nat.le_of_ble_eq_true rfl) ?_
  show zF G mX12_copy d 0 [(0, zR f), (1, zI a), (2, zR t), (3, zI b)] [] σ _
  refine zF_iconst 1 dX12_copy_0 rfl ?_
  refine zF_istore 3 (ls' := [(4, zI 0), (0, zR f), (1, zI a), (2, zR t), (3, zI b)]) dX12_copy_1 rfl (by decide) rfl ?_
  refine zF_locs (ls' := [(4, zI ((0 : Nat) : Int)), (0, zR f), (1, zI a), (2, zR t), (3, zI b)]) ⟨zlI rfl (by first | rfl | omega | (push_cast; omega) | exact congrArg (_ + ·) (zbT (by assumption)) | exact congrArg (_ + ·) (zbF (by assumption)) | exact congrArg (_ + ·) (zbT (by omega)) | exact congrArg (_ + ·) (zbF (by omega)) | exact congrArg (_ + ·) (if_pos (by omega)).symm | exact congrArg (_ + ·) (if_neg (by omega)).symm | exact (if_pos (by omega)).symm | exact (if_neg (by omega)).symm), rfl, rfl, rfl, rfl, trivial⟩ ?_
  refine zF_while (X := Nat) (fun x => 312 - x) (fun x σ2 => x ≤ 312 ∧ zFr (fun h j => h = t ∧ 312 * b ≤ j ∧ j < 312 * b + 312) σ σ2 ∧ (∀ k, 0 ≤ k → k < (x : Int) → zia σ2 t (312 * b + k) = zia σ f (312 * a + k)) ∧ ∀ k, 0 ≤ k → k < 312 → zia σ2 f (312 * a + k) = zia σ f (312 * a + k) ∨ (f = t ∧ a = b)) (fun x => [(4, zI ((x : Nat) : Int)), (0, zR f), (1, zI a), (2, zR t), (3, zI b)]) ?_ 0 σ (⟨by omega, zFr.rf, fun k h1 h2 => absurd h1 (by omega), fun k _ _ => Or.inl rfl⟩)
  intro x σ2 hI3 ih3
  show zF G mX12_copy d 3 [(4, zI ((x : Nat) : Int)), (0, zR f), (1, zI a), (2, zR t), (3, zI b)] [] σ2 _
  obtain ⟨hx, fr1, p1, p2⟩ := hI3
  refine zF_iload 5 dX12_copy_3 rfl rfl ?_
  refine zF_sipush 8 dX12_copy_5 rfl (by decide) ?_
  refine zF_icmp_ge 37 11 dX12_copy_8 rfl rfl (by first | decide | assumption | (constructor <;> omega)) (by first | decide | assumption | (constructor <;> omega)) (fun c1 => ?_) (fun c1 => ?_)
  · exact zF_return dX12_copy_37 rfl (⟨rfl, fr1, fun k h1 h2 => p1 k h1 (by omega)⟩)
  · refine zF_aload_n 12 dX12_copy_11 rfl rfl ?_
    refine zF_sipush 15 dX12_copy_12 rfl (by decide) ?_
    refine zF_iload_n 16 dX12_copy_15 rfl rfl ?_
    refine zF_imul 17 dX12_copy_16 rfl ?_
    refine zF_iload 19 dX12_copy_17 rfl rfl ?_
    refine zF_iadd 20 dX12_copy_19 rfl ?_
    refine zF_aload_n 21 dX12_copy_20 rfl rfl ?_
    refine zF_sipush 24 dX12_copy_21 rfl (by decide) ?_
    refine zF_iload_n 25 dX12_copy_24 rfl rfl ?_
    refine zF_imul 26 dX12_copy_25 rfl ?_
    refine zF_iload 28 dX12_copy_26 rfl rfl ?_
    refine zF_iadd 29 dX12_copy_28 rfl ?_
    refine zF_iaload 30 dX12_copy_29 rfl (fr1.2.1 ▸ kf) (fr1.1 ▸ lf) (by omega) (by omega) rfl ?_
    refine zF_iastore 31 dX12_copy_30 rfl (fr1.2.1 ▸ kt) (fr1.1 ▸ lt) (by omega) (by omega) ?_
    refine zF_iinc 34 (ls' := [(4, zI (((x : Nat) : Int) + 1)), (0, zR f), (1, zI a), (2, zR t), (3, zI b)]) dX12_copy_31 rfl rfl rfl (by decide) rfl ?_
    refine zF_goto 3 dX12_copy_34 rfl ?_
    exact zF_locs (ls' := [(4, zI (((x + 1) : Nat) : Int)), (0, zR f), (1, zI a), (2, zR t), (3, zI b)]) ⟨zlI rfl (by first | rfl | omega | (push_cast; omega) | exact congrArg (_ + ·) (zbT (by assumption)) | exact congrArg (_ + ·) (zbF (by assumption)) | exact congrArg (_ + ·) (zbT (by omega)) | exact congrArg (_ + ·) (zbF (by omega)) | exact congrArg (_ + ·) (if_pos (by omega)).symm | exact congrArg (_ + ·) (if_neg (by omega)).symm | exact (if_pos (by omega)).symm | exact (if_neg (by omega)).symm), rfl, rfl, rfl, rfl, trivial⟩ (ih3 (x + 1) _ (by omega) (zcopy_back hx (by omega) fr1 p1 p2 hab))
def zRec (σ : zMem) (hm : Nat) (A : Nat → Nat) (u : Int) (σ1 : zMem) : Prop :=
  zFr (fun h j => h = A 3 ∨ (h = hm ∧ j = 4)) σ σ1 ∧ zia σ1 hm 4 = min (u + 1) 10 ∧
  (∀ k j, 0 ≤ k → k < min (u + 1) 10 - 1 → 0 ≤ j → j < 312 → zia σ1 (A 3) (312 * k + j) = zia σ (A 3) (312 * (k + (if u = 10 then 1 else 0)) + j)) ∧
  ∀ j, 0 ≤ j → j < 312 → zia σ1 (A 3) (312 * (min (u + 1) 10 - 1) + j) = zia σ (A 0) j
def zShf (σ : zMem) (hm : Nat) (A : Nat → Nat) (x : Nat) (σ1 : zMem) : Prop :=
  1 ≤ x ∧ x ≤ 10 ∧ zFr (fun h _ => h = A 3) σ σ1 ∧ (∀ k j, 0 ≤ k → k < (x : Int) - 1 → 0 ≤ j → j < 312 → zia σ1 (A 3) (312 * k + j) = zia σ (A 3) (312 * (k + 1) + j)) ∧ ∀ k j, (x : Int) - 1 ≤ k → k < 10 → 0 ≤ j → j < 312 → zia σ1 (A 3) (312 * k + j) = zia σ (A 3) (312 * k + j)
theorem zShf_s {x : Nat} {σ2 σ3 : zMem} (hx : x < 10) (h : zShf σ hm A x σ2) (f : zFr (fun h j => h = A 3 ∧ 312 * ((x : Int) - 1) ≤ j ∧ j < 312 * ((x : Int) - 1) + 312) σ2 σ3) (p : ∀ k, 0 ≤ k → k < 312 → zia σ3 (A 3) (312 * ((x : Int) - 1) + k) = zia σ2 (A 3) (312 * (x : Int) + k)) : zShf σ hm A (x + 1) σ3 := by
  obtain ⟨a, b, c, e, g⟩ := h
  refine ⟨by omega, by omega, c.tr (f.wk fun y j q => q.1), fun k j h1 h2 h3 h4 => ?_, fun k j h1 h2 h3 h4 => ?_⟩
  · by_cases q : k = (x : Int) - 1
    · subst q
      rw [p j h3 h4, g x j (by omega) (by omega) h3 h4, show ((x : Int) - 1 + 1) = x by omega]
    · rw [f.2.2.2.2.2 (A 3) _ (fun z => by have := z.2; omega), e k j h1 (by omega) h3 h4]
  · rw [f.2.2.2.2.2 (A 3) _ (fun z => by have := z.2; omega), g k j (by omega) h2 h3 h4]
theorem zRec_0 {u : Int} (u0 : 0 ≤ u) (u1 : u < 10) (h3 : A 3 ≠ hm) {σ1 : zMem} (f : zFr (fun h j => h = A 3 ∧ 312 * u ≤ j ∧ j < 312 * u + 312) σ σ1) (p : ∀ k, 0 ≤ k → k < 312 → zia σ1 (A 3) (312 * u + k) = zia σ (A 0) (312 * 0 + k)) : zRec σ hm A u (zsi σ1 hm ((4 : Nat) : Int) (u + 1)) := by
  refine ⟨zFr_si (Or.inr ⟨rfl, rfl⟩) (f.wk fun y j q => Or.inl q.1), ?_, fun k j h1 h2 h3' h4 => ?_, fun j h1 h2 => ?_⟩
  · rw [zia_si, if_pos ⟨rfl, rfl⟩]; omega
  · rw [zia_si, if_neg (fun q => h3 q.1), f.2.2.2.2.2 (A 3) _ (fun z => by have := z.2; omega), if_neg (by omega), Int.add_zero]
  · rw [zia_si, if_neg (fun q => h3 q.1), show min (u + 1) 10 - 1 = u by omega, p j h1 h2, show (312 : Int) * 0 + j = j by omega]
theorem zRec_1 {u : Int} {x : Nat} (eu : u = 10) (ex : x = 10) (h3 : A 3 ≠ hm) (h03 : A 0 ≠ A 3) {σ1 σ2 : zMem} {v c : Int} (hc : c = 9) (h : zShf σ hm A x σ1) (f : zFr (fun h j => h = A 3 ∧ 312 * c ≤ j ∧ j < 312 * c + 312) (zsi σ1 hm ((4 : Nat) : Int) v) σ2) (p : ∀ k, 0 ≤ k → k < 312 → zia σ2 (A 3) (312 * c + k) = zia (zsi σ1 hm ((4 : Nat) : Int) v) (A 0) (312 * 0 + k)) (h0 : A 0 ≠ hm) : zRec σ hm A u (zsi σ2 hm ((4 : Nat) : Int) (c + 1)) := by
  subst hc
  subst eu
  subst ex
  obtain ⟨a, b, c, e, g⟩ := h
  refine ⟨zFr_si (Or.inr ⟨rfl, rfl⟩) (zFr.tr (zFr_si (Or.inr ⟨rfl, rfl⟩) (c.wk fun y j q => Or.inl q)) (f.wk fun y j q => Or.inl q.1)), ?_, fun k j h1 h2 h3' h4 => ?_, fun j h1 h2 => ?_⟩
  · rw [zia_si, if_pos ⟨rfl, rfl⟩]; rfl
  · rw [zia_si, if_neg (fun q => h3 q.1), f.2.2.2.2.2 (A 3) _ (fun z => by have := z.2; omega), zia_si, if_neg (fun q => h3 q.1), e k j h1 (by omega) h3' h4]
    rfl
  · rw [zia_si, if_neg (fun q => h3 q.1), show (min ((10 : Int) + 1) 10 - 1) = 9 by omega, p j h1 h2, zia_si, if_neg (fun q => h0 q.1), show (312 : Int) * 0 + j = j by omega, c.2.2.2.2.2 (A 0) _ (fun z => h03 z)]
theorem zt_X12_record {u : Int} (hM : zMo σ hm A) (hu : zia σ hm 4 = u) (u0 : 0 ≤ u) (u1 : u ≤ 10) : zE G mX12_record (d + 1) [zR hm] σ (fun ro σ1 => ro = .inl none ∧ zRec σ hm A u σ1) := by
  refine zE_of rfl (by simp [zcat]) (Nat.le_of_ble_eq_true rfl) ?_
  show zF G mX12_record (d + 1) 0 [(0, zR hm)] [] σ _
  have h3 := zMo_hm hM (k := 3) (t := 1) (n := 3120) (by decide) (by decide)
  have h0 := zMo_hm hM (k := 0) (t := 1) (n := 312) (by decide) (by decide)
  have h03 := zMo_ne hM (j := 0) (k := 3) (by decide) (by decide) (by decide)
  refine zF_aload_n 1 dX12_record_0 rfl rfl ?_
  refine zF_getI 4 dX12_record_1 rfl gX12_328 (by decide) (by decide) hM.1 hM.2.1 hu ?_
  refine zF_bipush 6 dX12_record_4 rfl (by decide) ?_
  refine zF_icmp_ne 48 9 dX12_record_6 rfl rfl (by first | decide | assumption | (constructor <;> omega)) (by first | decide | assumption | (constructor <;> omega)) (fun c1 => ?_) (fun c1 => ?_)
  · refine zF_aload_n 49 dX12_record_48 rfl rfl ?_
    refine zF_getR 52 dX12_record_49 rfl gX12_9 hM.1 hM.2.1 (zM_0 hM).1 ?_
    refine zF_iconst 53 dX12_record_52 rfl ?_
    refine zF_aload_n 54 dX12_record_53 rfl rfl ?_
    refine zF_getR 57 dX12_record_54 rfl gX12_19 hM.1 hM.2.1 (zM_3 hM).1 ?_
    refine zF_aload_n 58 dX12_record_57 rfl rfl ?_
    refine zF_getI 61 dX12_record_58 rfl gX12_328 (by decide) (by decide) hM.1 hM.2.1 hu ?_
    refine zF_callS 64 (d2 := d) (as := [zR (A 0), zI 0, zR (A 3), zI u]) dX12_record_61 rfl kX12_331 sX12_copy (Nat.le_refl _) rfl rfl (Nat.le_of_ble_eq_true rfl) (zE.mono (zt_X12_copy (zM_0 hM).2.2 (zM_0 hM).2.1 (zM_3 hM).2.2 (zM_3 hM).2.1 (by omega) (by omega) (by omega) (by omega) (fun q => absurd q h03)) fun ro σa1 hh1 => ?_)
    obtain ⟨er1, fr1, p1⟩ := hh1
    subst er1
    refine ⟨fr1.1, ?_⟩
    show zF G mX12_record (d + 1) 64 [(0, zR hm)] [] σa1 _
    have hMa1 := zMo_f2 fr1 hM
    have hua1 : zia σa1 hm ((4 : Nat) : Int) = u := (fr1.2.2.2.2.2 hm _ (fun z => h3 z.1.symm)).trans hu
    refine zF_aload_n 65 dX12_record_64 rfl rfl ?_
    refine zF_dup 66 dX12_record_65 rfl rfl ?_
    refine zF_getI 69 dX12_record_66 rfl gX12_328 (by decide) (by decide) hMa1.1 hMa1.2.1 hua1 ?_
    refine zF_iconst 70 dX12_record_69 rfl ?_
    refine zF_iadd 71 dX12_record_70 rfl ?_
    refine zF_putI 74 dX12_record_71 rfl pX12_record_328 (Or.inl rfl) hMa1.1 hMa1.2.1 ?_
    exact zF_return dX12_record_74 rfl (⟨rfl, zRec_0 u0 (by omega) h3 fr1 p1⟩)
  · refine zF_iconst 10 dX12_record_9 rfl ?_
    refine zF_istore_n 11 (ls' := [(1, zI 1), (0, zR hm)]) dX12_record_10 rfl (by decide) rfl ?_
    refine zF_locs (ls' := [(1, zI ((1 : Nat) : Int)), (0, zR hm)]) ⟨zlI rfl (by first | rfl | omega | (push_cast; omega) | exact congrArg (_ + ·) (zbT (by assumption)) | exact congrArg (_ + ·) (zbF (by assumption)) | exact congrArg (_ + ·) (zbT (by omega)) | exact congrArg (_ + ·) (zbF (by omega)) | exact congrArg (_ + ·) (if_pos (by omega)).symm | exact congrArg (_ + ·) (if_neg (by omega)).symm | exact (if_pos (by omega)).symm | exact (if_neg (by omega)).symm), rfl, trivial⟩ ?_
    refine zF_while (X := Nat) (fun x => 10 - x) (fun x σ2 => zShf σ hm A x σ2) (fun x => [(1, zI ((x : Nat) : Int)), (0, zR hm)]) ?_ 1 σ (⟨by omega, by omega, zFr.rf, fun k j h1 h2 => absurd h1 (by omega), fun k j _ _ _ _ => rfl⟩)
    intro x σ2 hI11 ih11
    show zF G mX12_record (d + 1) 11 [(1, zI ((x : Nat) : Int)), (0, zR hm)] [] σ2 _
    have hI := hI11
    obtain ⟨g1, g2, g3, g4, g5⟩ := hI11
    have hM2 := zMo_fr hM g3
    have hu2 : zia σ2 hm ((4 : Nat) : Int) = 10 := (g3.2.2.2.2.2 hm _ (fun z => h3 z.symm)).trans (hu.trans (by omega))
    refine zF_iload_n 12 dX12_record_11 rfl rfl ?_
    refine zF_bipush 14 dX12_record_12 rfl (by decide) ?_
    refine zF_icmp_ge 38 17 dX12_record_14 rfl rfl (by first | decide | assumption | (constructor <;> omega)) (by first | decide | assumption | (constructor <;> omega)) (fun c2 => ?_) (fun c2 => ?_)
    · refine zF_aload_n 39 dX12_record_38 rfl rfl ?_
      refine zF_dup 40 dX12_record_39 rfl rfl ?_
      refine zF_getI 43 dX12_record_40 rfl gX12_328 (by decide) (by decide) hM2.1 hM2.2.1 hu2 ?_
      refine zF_iconst 44 dX12_record_43 rfl ?_
      refine zF_isub 45 dX12_record_44 rfl ?_
      refine zF_putI 48 dX12_record_45 rfl pX12_record_328 (Or.inl rfl) hM2.1 hM2.2.1 ?_
      refine zF_aload_n 49 dX12_record_48 rfl rfl ?_
      refine zF_getR 52 dX12_record_49 rfl gX12_9 hM2.1 hM2.2.1 (zM_0 hM2).1 ?_
      refine zF_iconst 53 dX12_record_52 rfl ?_
      refine zF_aload_n 54 dX12_record_53 rfl rfl ?_
      refine zF_getR 57 dX12_record_54 rfl gX12_19 hM2.1 hM2.2.1 (zM_3 hM2).1 ?_
      refine zF_aload_n 58 dX12_record_57 rfl rfl ?_
      refine zF_getI 61 dX12_record_58 rfl gX12_328 (by decide) (by decide) hM2.1 hM2.2.1 (zsi_same _ _ _ _) ?_
      refine zF_callS 64 (d2 := d) (as := [zR (A 0), zI 0, zR (A 3), zI (10 - 1)]) dX12_record_61 rfl kX12_331 sX12_copy (Nat.le_refl _) rfl rfl (Nat.le_of_ble_eq_true rfl) (zE.mono (zt_X12_copy (zM_0 hM2).2.2 (zM_0 hM2).2.1 (zM_3 hM2).2.2 (zM_3 hM2).2.1 (by omega) (by omega) (by omega) (by omega) (fun q => absurd q h03)) fun ro σa2 hh2 => ?_)
      obtain ⟨er2, fr2, p2⟩ := hh2
      subst er2
      refine ⟨fr2.1, ?_⟩
      show zF G mX12_record (d + 1) 64 [(1, zI ((x : Nat) : Int)), (0, zR hm)] [] σa2 _
      have hMa2 := zMo_f2 fr2 hM2
      have hua2 : zia σa2 hm ((4 : Nat) : Int) = (10 - 1) := (fr2.2.2.2.2.2 hm _ (fun z => h3 z.1.symm)).trans (zsi_same _ _ _ _)
      refine zF_aload_n 65 dX12_record_64 rfl rfl ?_
      refine zF_dup 66 dX12_record_65 rfl rfl ?_
      refine zF_getI 69 dX12_record_66 rfl gX12_328 (by decide) (by decide) hMa2.1 hMa2.2.1 hua2 ?_
      refine zF_iconst 70 dX12_record_69 rfl ?_
      refine zF_iadd 71 dX12_record_70 rfl ?_
      refine zF_putI 74 dX12_record_71 rfl pX12_record_328 (Or.inl rfl) hMa2.1 hMa2.2.1 ?_
      exact zF_return dX12_record_74 rfl (⟨rfl, zRec_1 (by omega) (by omega) h3 h03 (by decide) hI fr2 p2 h0⟩)
    · refine zF_aload_n 18 dX12_record_17 rfl rfl ?_
      refine zF_getR 21 dX12_record_18 rfl gX12_19 hM2.1 hM2.2.1 (zM_3 hM2).1 ?_
      refine zF_iload_n 22 dX12_record_21 rfl rfl ?_
      refine zF_aload_n 23 dX12_record_22 rfl rfl ?_
      refine zF_getR 26 dX12_record_23 rfl gX12_19 hM2.1 hM2.2.1 (zM_3 hM2).1 ?_
      refine zF_iload_n 27 dX12_record_26 rfl rfl ?_
      refine zF_iconst 28 dX12_record_27 rfl ?_
      refine zF_isub 29 dX12_record_28 rfl ?_
      refine zF_callS 32 (d2 := d) (as := [zR (A 3), zI ((x : Nat) : Int), zR (A 3), zI (((x : Nat) : Int) - 1)]) dX12_record_29 rfl kX12_331 sX12_copy (Nat.le_refl _) rfl rfl (Nat.le_of_ble_eq_true rfl) (zE.mono (zt_X12_copy (zM_3 hM2).2.2 (zM_3 hM2).2.1 (zM_3 hM2).2.2 (zM_3 hM2).2.1 (by omega) (by omega) (by omega) (by omega) (fun _ => by omega)) fun ro σa3 hh3 => ?_)
      obtain ⟨er3, fr3, p3⟩ := hh3
      subst er3
      refine ⟨fr3.1, ?_⟩
      show zF G mX12_record (d + 1) 32 [(1, zI ((x : Nat) : Int)), (0, zR hm)] [] σa3 _
      have hMa3 := zMo_f2 fr3 hM2
      refine zF_iinc 35 (ls' := [(1, zI (((x : Nat) : Int) + 1)), (0, zR hm)]) dX12_record_32 rfl rfl rfl (by decide) rfl ?_
      refine zF_goto 11 dX12_record_35 rfl ?_
      exact zF_locs (ls' := [(1, zI (((x + 1) : Nat) : Int)), (0, zR hm)]) ⟨zlI rfl (by first | rfl | omega | (push_cast; omega) | exact congrArg (_ + ·) (zbT (by assumption)) | exact congrArg (_ + ·) (zbF (by assumption)) | exact congrArg (_ + ·) (zbT (by omega)) | exact congrArg (_ + ·) (zbF (by omega)) | exact congrArg (_ + ·) (if_pos (by omega)).symm | exact congrArg (_ + ·) (if_neg (by omega)).symm | exact (if_pos (by omega)).symm | exact (if_neg (by omega)).symm), rfl, trivial⟩ (ih11 (x + 1) _ (by omega) (zShf_s (by omega) hI fr3 p3))
end ZO
