/-! the reference: bookings, copies, the record -/
section ZO
variable {G : zG} {d : Nat} {σ : zMem} {hm : Nat} {A : Nat → Nat}
theorem zMo_fr {P : Nat → Int → Prop} {σ1 : zMem} (h : zMo σ hm A) (f : zFr P σ σ1) : zMo σ1 hm A := by
  obtain ⟨a, b, c, e⟩ := h
  obtain ⟨f1, f2, f3, -⟩ := f
  refine ⟨by rw [f2]; exact a, by rw [f1]; exact b, fun k t n hk => ?_, e⟩
  rw [f1, f2, f3]
  exact c k t n hk
theorem zMo_ne (h : zMo σ hm A) {j k : Nat} (hj : j ∈ zmf.map (·.1)) (hk : k ∈ zmf.map (·.1)) (e : j ≠ k) : A j ≠ A k := fun x => e (h.2.2.2 j hj k hk x)
theorem zMo_hm (h : zMo σ hm A) {k t n : Nat} (hk : (k, t, n) ∈ zmf) (ht : t ≠ 0) : A k ≠ hm := fun x => by
  have a := (h.2.2.1 k t n hk).2.2
  rw [x, h.1] at a
  exact ht (congrArg Prod.fst a).symm
def mBook (N : Int → Int) (s a b c e : Int) : Int → Int := fun j => if j = 14 + 8 * s + 7 then e else if j = 14 + 8 * s + 6 then c else if j = 14 + 8 * s + 5 then b else if j = 14 + 8 * s + 4 then a else N j
theorem zt_X12_book {r : Nat} {s a b c e : Int} (hk : zkd σ r = (1, 312)) (hr : r < zn σ) (h0 : 0 ≤ s) (h1 : s < 10) (he : e = 0 ∨ e = 1) : zE G mX12_book (d + 1) [zR r, zI s, zI a, zI b, zI c, zI e] σ (fun ro σ1 => ro = .inl none ∧ zFr (fun h j => h = r ∧ 14 + 8 * s + 4 ≤ j ∧ j < 14 + 8 * s + 8) σ σ1 ∧ zia σ1 r = mBook (zia σ r) s a b c e) := by
  refine zE_of rfl (by simp [zcat]) (Nat.le_of_ble_eq_true rfl) ?_
  show zF G mX12_book (d + 1) 0 [(0, zR r), (1, zI s), (2, zI a), (3, zI b), (4, zI c), (5, zI e)] [] σ _
  refine zF_aload_n 1 dX12_book_0 rfl rfl ?_
  refine zF_iload_n 2 dX12_book_1 rfl rfl ?_
  refine zF_iconst 3 dX12_book_2 rfl ?_
  refine zF_callSi 6 (d2 := d) (as := [zI s, zI 4]) dX12_book_3 rfl kX12_96 sX12_screenAt (Nat.le_refl _) rfl rfl (Nat.le_of_ble_eq_true rfl) (zt_X12_screenAt) ?_
  refine zF_iload_n 7 dX12_book_6 rfl rfl ?_
  refine zF_iastore 8 dX12_book_7 rfl hk hr (by omega) (by omega) ?_
  refine zF_aload_n 9 dX12_book_8 rfl rfl ?_
  refine zF_iload_n 10 dX12_book_9 rfl rfl ?_
  refine zF_iconst 11 dX12_book_10 rfl ?_
  refine zF_callSi 14 (d2 := d) (as := [zI s, zI 5]) dX12_book_11 rfl kX12_96 sX12_screenAt (Nat.le_refl _) rfl rfl (Nat.le_of_ble_eq_true rfl) (zt_X12_screenAt) ?_
  refine zF_iload_n 15 dX12_book_14 rfl rfl ?_
  refine zF_iastore 16 dX12_book_15 rfl hk hr (by omega) (by omega) ?_
  refine zF_aload_n 17 dX12_book_16 rfl rfl ?_
  refine zF_iload_n 18 dX12_book_17 rfl rfl ?_
  refine zF_bipush 20 dX12_book_18 rfl (by decide) ?_
  refine zF_callSi 23 (d2 := d) (as := [zI s, zI 6]) dX12_book_20 rfl kX12_96 sX12_screenAt (Nat.le_refl _) rfl rfl (Nat.le_of_ble_eq_true rfl) (zt_X12_screenAt) ?_
  refine zF_iload 25 dX12_book_23 rfl rfl ?_
  refine zF_iastore 26 dX12_book_25 rfl hk hr (by omega) (by omega) ?_
  refine zF_aload_n 27 dX12_book_26 rfl rfl ?_
  refine zF_iload_n 28 dX12_book_27 rfl rfl ?_
  refine zF_bipush 30 dX12_book_28 rfl (by decide) ?_
  refine zF_callSi 33 (d2 := d) (as := [zI s, zI 7]) dX12_book_30 rfl kX12_96 sX12_screenAt (Nat.le_refl _) rfl rfl (Nat.le_of_ble_eq_true rfl) (zt_X12_screenAt) ?_
  refine zF_iload 35 dX12_book_33 rfl rfl ?_
  refine zF_if_eq 42 38 dX12_book_35 rfl rfl (by first | decide | assumption | (constructor <;> omega)) (fun c1 => ?_) (fun c1 => ?_)
  · refine zF_iconst 43 dX12_book_42 rfl ?_
    refine zF_iastore 44 dX12_book_43 rfl hk hr (by omega) (by omega) ?_
    exact zF_return dX12_book_44 rfl (⟨rfl, zFr_si ⟨rfl, by omega, by omega⟩ (zFr_si ⟨rfl, by omega, by omega⟩ (zFr_si ⟨rfl, by omega, by omega⟩ (zFr_si ⟨rfl, by omega, by omega⟩ zFr.rf))), by funext j; simp only [zia_si, true_and, mBook]; first | rfl | (rw [show e = 1 by omega]) | (rw [show e = 0 by omega])⟩)
  · refine zF_iconst 39 dX12_book_38 rfl ?_
    refine zF_goto 43 dX12_book_39 rfl ?_
    refine zF_iastore 44 dX12_book_43 rfl hk hr (by omega) (by omega) ?_
    exact zF_return dX12_book_44 rfl (⟨rfl, zFr_si ⟨rfl, by omega, by omega⟩ (zFr_si ⟨rfl, by omega, by omega⟩ (zFr_si ⟨rfl, by omega, by omega⟩ (zFr_si ⟨rfl, by omega, by omega⟩ zFr.rf))), by funext j; simp only [zia_si, true_and, mBook]; first | rfl | (rw [show e = 1 by omega]) | (rw [show e = 0 by omega])⟩)
theorem zcopy_back {σ σ2 : zMem} {f t : Nat} {a b : Int} {x : Nat} (hx : x ≤ 312) (hx2 : x < 312) (fr1 : zFr (fun h j => h = t ∧ 312 * b ≤ j ∧ j < 312 * b + 312) σ σ2) (p1 : ∀ k, 0 ≤ k → k < (x : Int) → zia σ2 t (312 * b + k) = zia σ f (312 * a + k)) (p2 : ∀ k, 0 ≤ k → k < 312 → zia σ2 f (312 * a + k) = zia σ f (312 * a + k) ∨ (f = t ∧ a = b)) (hab : f = t → a ≠ b) :
    x + 1 ≤ 312 ∧ zFr (fun h j => h = t ∧ 312 * b ≤ j ∧ j < 312 * b + 312) σ (zsi σ2 t (312 * b + (x : Int)) (zia σ2 f (312 * a + (x : Int)))) ∧ (∀ k, 0 ≤ k → k < ((x + 1 : Nat) : Int) → zia (zsi σ2 t (312 * b + (x : Int)) (zia σ2 f (312 * a + (x : Int)))) t (312 * b + k) = zia σ f (312 * a + k)) ∧ ∀ k, 0 ≤ k → k < 312 → zia (zsi σ2 t (312 * b + (x : Int)) (zia σ2 f (312 * a + (x : Int)))) f (312 * a + k) = zia σ f (312 * a + k) ∨ (f = t ∧ a = b) := by
  have key : ∀ k, 0 ≤ k → k < 312 → zia σ2 f (312 * a + k) = zia σ f (312 * a + k) := fun k h1 h2 => (p2 k h1 h2).resolve_right fun q => hab q.1 q.2
  refine ⟨by omega, zFr_si ⟨rfl, by omega, by omega⟩ fr1, fun k h1 h2 => ?_, fun k h1 h2 => Or.inl ?_⟩
  · rw [zia_si]
    by_cases e : k = x
    · rw [if_pos ⟨rfl, by omega⟩, e, key x (by omega) (by omega)]
    · rw [if_neg (fun q => e (by have := q.2; omega)), p1 k h1 (by omega)]
  · rw [zia_si, if_neg (fun q => ?_), key k h1 h2]
    have h3 := hab q.1
    have h4 := q.2
    omega
theorem zt_X12_copy {f t n1 n2 : Nat} {a b : Int} (kf : zkd σ f = (1, n1)) (lf : f < zn σ) (kt : zkd σ t = (1, n2)) (lt : t < zn σ) (a0 : 0 ≤ a) (a1 : 312 * a + 312 ≤ n1) (b0 : 0 ≤ b) (b1 : 312 * b + 312 ≤ n2) (hab : f = t → a ≠ b) : zE G mX12_copy d [zR f, zI a, zR t, zI b] σ (fun ro σ1 => ro = .inl none ∧ zFr (fun h j => h = t ∧ 312 * b ≤ j ∧ j < 312 * b + 312) σ σ1 ∧ ∀ k, 0 ≤ k → k < 312 → zia σ1 t (312 * b + k) = zia σ f (312 * a + k)) := by
  refine zE_of rfl (by simp [zcat]) (Nat.le_of_ble_eq_true rfl) ?_
  show zF G mX12_copy d 0 [(0, zR f), (1, zI a), (2, zR t), (3, zI b)] [] σ _
  refine zF_iconst 1 dX12_copy_0 rfl ?_
  refine zF_istore 3 (ls' := [(4, zI 0), (0, zR f), (1, zI a), (2, zR t), (3, zI b)]) dX12_copy_1 rfl (by decide) rfl ?_
  refine zF_locs (ls' := [(4, zI ((0 : Nat) : Int)), (0, zR f), (1, zI a), (2, zR t), (3, zI b)]) ⟨zlI rfl (by first | rfl | omega | (push_cast; omega) | exact congrArg (_ + ·) (zbT (by assumption)) | exact congrArg (_ + ·) (zbF (by assumption)) | exact congrArg (_ + ·) (zbT (by omega)) | exact congrArg (_ + ·) (zbF (by omega)) | exact congrArg (_ + ·) (if_pos (by omega)).symm | exact congrArg (_ + ·) (if_neg (by omega)).symm), rfl, rfl, rfl, rfl, trivial⟩ ?_
  refine zF_while (X := Nat) (fun x => 312 - x) (fun x σ2 => x ≤ 312 ∧ zFr (fun h j => h = t ∧ 312 * b ≤ j ∧ j < 312 * b + 312) σ σ2 ∧ (∀ k, 0 ≤ k → k < (x : Int) → zia σ2 t (312 * b + k) = zia σ f (312 * a + k)) ∧ ∀ k, 0 ≤ k → k < 312 → zia σ2 f (312 * a + k) = zia σ f (312 * a + k) ∨ (f = t ∧ a = b)) (fun x => [(4, zI ((x : Nat) : Int)), (0, zR f), (1, zI a), (2, zR t), (3, zI b)]) ?_ 0 σ (⟨by omega, zFr.rf, fun k h1 h2 => absurd h1 (by omega), fun k _ _ => Or.inl rfl⟩)
  intro x σ2 hI3 ih3
  show zF G mX12_copy d 3 [(4, zI ((x : Nat) : Int)), (0, zR f), (1, zI a), (2, zR t), (3, zI b)] [] σ2 _
  obtain ⟨hx, fr1, p1, p2⟩ := hI3
  refine zF_iload 5 dX12_copy_3 rfl rfl ?_
  refine zF_sipush 8 dX12_copy_5 rfl (by decide) ?_
  refine zF_icmp_ge 37 11 dX12_copy_8 rfl rfl (by first | decide | assumption | (constructor <;> omega)) (by first | decide | assumption | (constructor <;> omega)) (fun c1 => ?_) (fun c1 => ?_)
  · exact zF_return dX12_copy_37 rfl (⟨rfl, fr1, fun k h1 h2 => p1 k h1 (by omega)⟩)
  · refine zF_aload_n 12 dX12_copy_11 rfl rfl ?_
    refine zF_sipush 15 dX12_copy_12 rfl (by decide) ?_
    refine zF_iload_n 16 dX12_copy_15 rfl rfl ?_
    refine zF_imul 17 dX12_copy_16 rfl ?_
    refine zF_iload 19 dX12_copy_17 rfl rfl ?_
    refine zF_iadd 20 dX12_copy_19 rfl ?_
    refine zF_aload_n 21 dX12_copy_20 rfl rfl ?_
    refine zF_sipush 24 dX12_copy_21 rfl (by decide) ?_
    refine zF_iload_n 25 dX12_copy_24 rfl rfl ?_
    refine zF_imul 26 dX12_copy_25 rfl ?_
    refine zF_iload 28 dX12_copy_26 rfl rfl ?_
    refine zF_iadd 29 dX12_copy_28 rfl ?_
    refine zF_iaload 30 dX12_copy_29 rfl (fr1.2.1 ▸ kf) (fr1.1 ▸ lf) (by omega) (by omega) rfl ?_
    refine zF_iastore 31 dX12_copy_30 rfl (fr1.2.1 ▸ kt) (fr1.1 ▸ lt) (by omega) (by omega) ?_
    refine zF_iinc 34 (ls' := [(4, zI (((x : Nat) : Int) + 1)), (0, zR f), (1, zI a), (2, zR t), (3, zI b)]) dX12_copy_31 rfl rfl rfl (by decide) rfl ?_
    refine zF_goto 3 dX12_copy_34 rfl ?_
    exact zF_locs (ls' := [(4, zI (((x + 1) : Nat) : Int)), (0, zR f), (1, zI a), (2, zR t), (3, zI b)]) ⟨zlI rfl (by first | rfl | omega | (push_cast; omega) | exact congrArg (_ + ·) (zbT (by assumption)) | exact congrArg (_ + ·) (zbF (by assumption)) | exact congrArg (_ + ·) (zbT (by omega)) | exact congrArg (_ + ·) (zbF (by omega)) | exact congrArg (_ + ·) (if_pos (by omega)).symm | exact congrArg (_ + ·) (if_neg (by omega)).symm), rfl, rfl, rfl, rfl, trivial⟩ (ih3 (x + 1) _ (by omega) (zcopy_back hx (by omega) fr1 p1 p2 hab))
def zRec (σ : zMem) (hm : Nat) (A : Nat → Nat) (u : Int) (σ1 : zMem) : Prop :=
  zFr (fun h j => h = A 3 ∨ (h = hm ∧ j = 4)) σ σ1 ∧ zia σ1 hm 4 = min (u + 1) 10 ∧
  (∀ k j, 0 ≤ k → k < min (u + 1) 10 - 1 → 0 ≤ j → j < 312 → zia σ1 (A 3) (312 * k + j) = zia σ (A 3) (312 * (k + (if u = 10 then 1 else 0)) + j)) ∧
  ∀ j, 0 ≤ j → j < 312 → zia σ1 (A 3) (312 * (min (u + 1) 10 - 1) + j) = zia σ (A 0) j
def zShf (σ : zMem) (hm : Nat) (A : Nat → Nat) (x : Nat) (σ1 : zMem) : Prop :=
  1 ≤ x ∧ x ≤ 10 ∧ zFr (fun h _ => h = A 3) σ σ1 ∧ (∀ k j, 0 ≤ k → k < (x : Int) - 1 → 0 ≤ j → j < 312 → zia σ1 (A 3) (312 * k + j) = zia σ (A 3) (312 * (k + 1) + j)) ∧ ∀ k j, (x : Int) - 1 ≤ k → k < 10 → 0 ≤ j → j < 312 → zia σ1 (A 3) (312 * k + j) = zia σ (A 3) (312 * k + j)
theorem zShf_s {x : Nat} {σ2 σ3 : zMem} (hx : x < 10) (h : zShf σ hm A x σ2) (f : zFr (fun h j => h = A 3 ∧ 312 * ((x : Int) - 1) ≤ j ∧ j < 312 * ((x : Int) - 1) + 312) σ2 σ3) (p : ∀ k, 0 ≤ k → k < 312 → zia σ3 (A 3) (312 * ((x : Int) - 1) + k) = zia σ2 (A 3) (312 * (x : Int) + k)) : zShf σ hm A (x + 1) σ3 := by
  obtain ⟨a, b, c, e, g⟩ := h
  refine ⟨by omega, by omega, c.tr (f.wk fun y j q => q.1), fun k j h1 h2 h3 h4 => ?_, fun k j h1 h2 h3 h4 => ?_⟩
  · by_cases q : k = (x : Int) - 1
    · subst q
      rw [p j h3 h4, g x j (by omega) (by omega) h3 h4, show ((x : Int) - 1 + 1) = x by omega]
    · rw [f.2.2.2.2.2 (A 3) _ (fun z => by have := z.2; omega), e k j h1 (by omega) h3 h4]
  · rw [f.2.2.2.2.2 (A 3) _ (fun z => by have := z.2; omega), g k j (by omega) h2 h3 h4]
end ZO
