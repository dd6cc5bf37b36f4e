/-! the reference made -/
section ZNB
variable {G : zG} {d : Nat} {σ σ0 σ1 τ : zMem} {B : Nat → Nat} {f : Nat → Int → Int}
def zSh (σ τ : zMem) : Prop := zn σ = zn τ ∧ zkd σ = zkd τ ∧ zra σ = zra τ
theorem zSh.rf (σ : zMem) : zSh σ σ := ⟨rfl, rfl, rfl⟩
theorem zSh.fr {P : Nat → Int → Prop} (k : zFr P σ σ1) (s : zSh σ τ) : zSh σ1 τ := ⟨k.1.trans s.1, k.2.1.trans s.2.1, k.2.2.1.trans s.2.2⟩
theorem zSh.nw {t n z : Nat} (s : zSh σ τ) : zSh (znw σ t n z) (znw τ t n z) := by
  refine ⟨?_, ?_, ?_⟩
  · rw [zn_nw, zn_nw, s.1]
  · funext x
    rw [zkd_nw, zkd_nw, s.1, s.2.1]
  · funext x j
    rw [zra_nw, zra_nw, s.1, s.2.2]
theorem zSh.sr {h : Nat} {i : Int} {r : Option Nat} (s : zSh σ τ) : zSh (zsr σ h i r) (zsr τ h i r) := by
  refine ⟨s.1, s.2.1, ?_⟩
  funext x j
  rw [zra_sr, zra_sr, s.2.2]
theorem zSh.si {h : Nat} {i v : Int} (s : zSh σ τ) : zSh (zsi σ h i v) τ := s
theorem zSh.mk {h k t n : Nat} (s : zSh σ τ) : zSh (zmk1 σ h k t n) (zmk1 τ h k t n) := by
  unfold zmk1
  rw [s.1]
  exact zSh.sr s.nw
theorem zSh.kd {h : Nat} {v : Nat × Nat} (s : zSh σ τ) (e : zkd τ h = v) : zkd σ h = v := by rw [s.2.1]; exact e
theorem zSh.lt {h : Nat} (s : zSh σ τ) (e : h < zn τ) : h < zn σ := by rw [s.1]; exact e
theorem zSh.bg (s : zSh σ τ) (e : zn τ < zbg) : zn σ < zbg := by rw [s.1]; exact e
theorem zmk_ia {a b h k t n : Nat} (hn : zn σ = b) (hab : a ≤ b) (e : ∀ x j, zia σ x j = if a ≤ x ∧ x < b then 0 else f x j) : ∀ x j, zia (zmk1 σ h k t n) x j = if a ≤ x ∧ x < b + 1 then 0 else f x j := fun x j => by
  show (if x = zn σ then 0 else zia σ x j) = _
  rw [hn]
  by_cases q : x = b
  · rw [if_pos q, if_pos (by omega)]
  · rw [if_neg q, e]
    by_cases q2 : a ≤ x ∧ x < b
    · rw [if_pos q2, if_pos (by omega)]
    · rw [if_neg q2, if_neg (by omega)]
def zkD : zMem := znw zkC 0 12 32
theorem zmCX12 : zNC RL 103 12 := ⟨_, _, _, _, zCX12, zi7 186 rfl rfl, zi7 187 rfl rfl, zi1 16 rfl rfl, by decide, by decide⟩
theorem zmCX11 : zNC RL 8 11 := ⟨_, _, _, _, zCX11, zi1 30 rfl rfl, zi1 31 rfl rfl, zi1 1 rfl rfl, by decide, by decide⟩
def km1 (σ : zMem) : zMem := zmk1 σ 228 0 1 312
theorem km1_s (hs : zSh σ zkD) : zSh (km1 σ) (km1 zkD) := zSh.mk hs
def km2 (σ : zMem) : zMem := zmk1 (km1 σ) 228 1 1 312
theorem km2_s (hs : zSh σ zkD) : zSh (km2 σ) (km2 zkD) := zSh.mk (km1_s hs)
def km3 (σ : zMem) : zMem := zmk1 (km2 σ) 228 2 1 312
theorem km3_s (hs : zSh σ zkD) : zSh (km3 σ) (km3 zkD) := zSh.mk (km2_s hs)
def km4 (σ : zMem) : zMem := zmk1 (km3 σ) 228 3 1 3120
theorem km4_s (hs : zSh σ zkD) : zSh (km4 σ) (km4 zkD) := zSh.mk (km3_s hs)
def km5 (σ : zMem) : zMem := zmk1 (km4 σ) 228 7 1 70
theorem km5_s (hs : zSh σ zkD) : zSh (km5 σ) (km5 zkD) := zSh.mk (km4_s hs)
def km6 (σ : zMem) : zMem := zmk1 (km5 σ) 228 8 3 10
theorem km6_s (hs : zSh σ zkD) : zSh (km6 σ) (km6 zkD) := zSh.mk (km5_s hs)
def km7 (σ : zMem) : zMem := zmk1 (km6 σ) 228 9 1 4
theorem km7_s (hs : zSh σ zkD) : zSh (km7 σ) (km7 zkD) := zSh.mk (km6_s hs)
def km8 (σ : zMem) : zMem := zmk1 (km7 σ) 228 10 1 4
theorem km8_s (hs : zSh σ zkD) : zSh (km8 σ) (km8 zkD) := zSh.mk (km7_s hs)
def km9 (σ : zMem) : zMem := zmk1 (km8 σ) 228 11 1 4
theorem km9_s (hs : zSh σ zkD) : zSh (km9 σ) (km9 zkD) := zSh.mk (km8_s hs)
def km10 (σ : zMem) : zMem := zmk1 (km9 σ) 228 14 1 4
theorem km10_s (hs : zSh σ zkD) : zSh (km10 σ) (km10 zkD) := zSh.mk (km9_s hs)
def km11 (σ : zMem) : zMem := zmk1 (km10 σ) 228 15 3 10
theorem km11_s (hs : zSh σ zkD) : zSh (km11 σ) (km11 zkD) := zSh.mk (km10_s hs)
def km12 (σ : zMem) : zMem := zmk1 (km11 σ) 228 16 1 40
theorem km12_s (hs : zSh σ zkD) : zSh (km12 σ) (km12 zkD) := zSh.mk (km11_s hs)
def km13 (σ : zMem) : zMem := zmk1 (km12 σ) 228 18 1 700
theorem km13_s (hs : zSh σ zkD) : zSh (km13 σ) (km13 zkD) := zSh.mk (km12_s hs)
def km14 (σ : zMem) : zMem := zsi (km13 σ) 228 ((26 : Nat) : Int) (-1)
theorem km14_s (hs : zSh σ zkD) : zSh (km14 σ) (km14 zkD) := zSh.si (km13_s hs)
def km15 (σ : zMem) : zMem := znw (km14 σ) 6 9 9
theorem km15_s (hs : zSh σ zkD) : zSh (km15 σ) (km15 zkD) := zSh.nw (km14_s hs)
def km16 (σ : zMem) : zMem := zsr (km15 σ) 242 0 (some (zbg + 30))
theorem km16_s (hs : zSh σ zkD) : zSh (km16 σ) (km16 zkD) := zSh.sr (km15_s hs)
def km17 (σ : zMem) : zMem := zsr (km16 σ) 242 1 (some (zbg + 31))
theorem km17_s (hs : zSh σ zkD) : zSh (km17 σ) (km17 zkD) := zSh.sr (km16_s hs)
def km18 (σ : zMem) : zMem := zsr (km17 σ) 242 2 (some (zbg + 32))
theorem km18_s (hs : zSh σ zkD) : zSh (km18 σ) (km18 zkD) := zSh.sr (km17_s hs)
def km19 (σ : zMem) : zMem := zsr (km18 σ) 242 3 (some (zbg + 33))
theorem km19_s (hs : zSh σ zkD) : zSh (km19 σ) (km19 zkD) := zSh.sr (km18_s hs)
def km20 (σ : zMem) : zMem := zsr (km19 σ) 242 4 (some (zbg + 34))
theorem km20_s (hs : zSh σ zkD) : zSh (km20 σ) (km20 zkD) := zSh.sr (km19_s hs)
def km21 (σ : zMem) : zMem := zsr (km20 σ) 242 5 (some (zbg + 35))
theorem km21_s (hs : zSh σ zkD) : zSh (km21 σ) (km21 zkD) := zSh.sr (km20_s hs)
def km22 (σ : zMem) : zMem := zsr (km21 σ) 242 6 (some (zbg + 36))
theorem km22_s (hs : zSh σ zkD) : zSh (km22 σ) (km22 zkD) := zSh.sr (km21_s hs)
def km23 (σ : zMem) : zMem := zsr (km22 σ) 242 7 (some (zbg + 37))
theorem km23_s (hs : zSh σ zkD) : zSh (km23 σ) (km23 zkD) := zSh.sr (km22_s hs)
def km24 (σ : zMem) : zMem := zsr (km23 σ) 242 8 (some (zbg + 38))
theorem km24_s (hs : zSh σ zkD) : zSh (km24 σ) (km24 zkD) := zSh.sr (km23_s hs)
def km25 (σ : zMem) : zMem := zsr (km24 σ) 228 ((28 : Nat) : Int) (some 242)
theorem km25_s (hs : zSh σ zkD) : zSh (km25 σ) (km25 zkD) := zSh.sr (km24_s hs)
def km26 (σ : zMem) : zMem := zmk1 (km25 σ) 228 29 1 200
theorem km26_s (hs : zSh σ zkD) : zSh (km26 σ) (km26 zkD) := zSh.mk (km25_s hs)
def km27 (σ : zMem) : zMem := zmk1 (km26 σ) 228 30 4 200
theorem km27_s (hs : zSh σ zkD) : zSh (km27 σ) (km27 zkD) := zSh.mk (km26_s hs)
theorem zt_X12_init (hO : zOS G) (hAO : zAO G) (hs : zSh σ zkD) : zE G mX12_init (d + 1) [zR 228] σ (fun r σ1 => r = .inl none ∧ zFr (fun h j => h = 229 ∧ 0 ≤ j ∧ j < 312) (km27 σ) σ1 ∧ zia σ1 229 = zcz (zia (km27 σ) 229)) := by
  refine zE_of rfl (by simp [zcat]) (Nat.le_of_ble_eq_true rfl) ?_
  show zF G mX12_init (d + 1) 0 [(0, zR 228)] [] σ _
  refine zF_aload_n 1 dX12_init_0 rfl rfl ?_
  refine zF_obj 4 dX12_init_1 rfl (zi7 191 rfl rfl) (zi1 36 rfl rfl) (zi1 37 rfl rfl) (by omega) (Nat.le_of_ble_eq_true rfl) ?_
  refine zF_aload_n 5 dX12_init_4 rfl rfl ?_
  refine zF_sipush 8 dX12_init_5 rfl (by decide) ?_
  refine zF_newarray 10 dX12_init_8 rfl (Or.inl ⟨rfl, rfl⟩) (zi1 163 rfl rfl) (by decide) (by decide) (hs.bg (by decide +kernel)) (zwl_q (by exact (⟨zwR (hs.lt (show 228 < zn zkD from by decide +kernel)), trivial⟩ : _ ∧ True))) (zwl_m (by exact (⟨zwR (hs.lt (show 228 < zn zkD from by decide +kernel)), trivial⟩ : _ ∧ True))) ?_
  refine zF_putR 13 dX12_init_10 rfl pX12_init_9 (zwf_l (Nat.lt_succ_self _)) (znw_k (hs.lt (show 228 < zn zkD from by decide +kernel)) (hs.kd (show zkd zkD 228 = (0, 12) from by decide +kernel))) (znw_l (σ := σ) (hs.lt (show 228 < zn zkD from by decide +kernel))) ?_
  show zF G mX12_init (d + 1) 13 [(0, zR 228)] [] (km1 σ) _
  refine zF_aload_n 14 dX12_init_13 rfl rfl ?_
  refine zF_sipush 17 dX12_init_14 rfl (by decide) ?_
  refine zF_newarray 19 dX12_init_17 rfl (Or.inl ⟨rfl, rfl⟩) (zi1 163 rfl rfl) (by decide) (by decide) ((km1_s hs).bg (by decide +kernel)) (zwl_q (by exact (⟨zwR ((km1_s hs).lt (show 228 < zn (km1 zkD) from by decide +kernel)), trivial⟩ : _ ∧ True))) (zwl_m (by exact (⟨zwR ((km1_s hs).lt (show 228 < zn (km1 zkD) from by decide +kernel)), trivial⟩ : _ ∧ True))) ?_
  refine zF_putR 22 dX12_init_19 rfl pX12_init_13 (zwf_l (Nat.lt_succ_self _)) (znw_k ((km1_s hs).lt (show 228 < zn (km1 zkD) from by decide +kernel)) ((km1_s hs).kd (show zkd (km1 zkD) 228 = (0, 12) from by decide +kernel))) (znw_l (σ := (km1 σ)) ((km1_s hs).lt (show 228 < zn (km1 zkD) from by decide +kernel))) ?_
  show zF G mX12_init (d + 1) 22 [(0, zR 228)] [] (km2 σ) _
  refine zF_aload_n 23 dX12_init_22 rfl rfl ?_
  refine zF_sipush 26 dX12_init_23 rfl (by decide) ?_
  refine zF_newarray 28 dX12_init_26 rfl (Or.inl ⟨rfl, rfl⟩) (zi1 163 rfl rfl) (by decide) (by decide) ((km2_s hs).bg (by decide +kernel)) (zwl_q (by exact (⟨zwR ((km2_s hs).lt (show 228 < zn (km2 zkD) from by decide +kernel)), trivial⟩ : _ ∧ True))) (zwl_m (by exact (⟨zwR ((km2_s hs).lt (show 228 < zn (km2 zkD) from by decide +kernel)), trivial⟩ : _ ∧ True))) ?_
  refine zF_putR 31 dX12_init_28 rfl pX12_init_16 (zwf_l (Nat.lt_succ_self _)) (znw_k ((km2_s hs).lt (show 228 < zn (km2 zkD) from by decide +kernel)) ((km2_s hs).kd (show zkd (km2 zkD) 228 = (0, 12) from by decide +kernel))) (znw_l (σ := (km2 σ)) ((km2_s hs).lt (show 228 < zn (km2 zkD) from by decide +kernel))) ?_
  show zF G mX12_init (d + 1) 31 [(0, zR 228)] [] (km3 σ) _
  refine zF_aload_n 32 dX12_init_31 rfl rfl ?_
  refine zF_sipush 35 dX12_init_32 rfl (by decide) ?_
  refine zF_newarray 37 dX12_init_35 rfl (Or.inl ⟨rfl, rfl⟩) (zi1 163 rfl rfl) (by decide) (by decide) ((km3_s hs).bg (by decide +kernel)) (zwl_q (by exact (⟨zwR ((km3_s hs).lt (show 228 < zn (km3 zkD) from by decide +kernel)), trivial⟩ : _ ∧ True))) (zwl_m (by exact (⟨zwR ((km3_s hs).lt (show 228 < zn (km3 zkD) from by decide +kernel)), trivial⟩ : _ ∧ True))) ?_
  refine zF_putR 40 dX12_init_37 rfl pX12_init_19 (zwf_l (Nat.lt_succ_self _)) (znw_k ((km3_s hs).lt (show 228 < zn (km3 zkD) from by decide +kernel)) ((km3_s hs).kd (show zkd (km3 zkD) 228 = (0, 12) from by decide +kernel))) (znw_l (σ := (km3 σ)) ((km3_s hs).lt (show 228 < zn (km3 zkD) from by decide +kernel))) ?_
  show zF G mX12_init (d + 1) 40 [(0, zR 228)] [] (km4 σ) _
  refine zF_aload_n 41 dX12_init_40 rfl rfl ?_
  refine zF_bipush 43 dX12_init_41 rfl (by decide) ?_
  refine zF_newarray 45 dX12_init_43 rfl (Or.inl ⟨rfl, rfl⟩) (zi1 163 rfl rfl) (by decide) (by decide) ((km4_s hs).bg (by decide +kernel)) (zwl_q (by exact (⟨zwR ((km4_s hs).lt (show 228 < zn (km4 zkD) from by decide +kernel)), trivial⟩ : _ ∧ True))) (zwl_m (by exact (⟨zwR ((km4_s hs).lt (show 228 < zn (km4 zkD) from by decide +kernel)), trivial⟩ : _ ∧ True))) ?_
  refine zF_putR 48 dX12_init_45 rfl pX12_init_22 (zwf_l (Nat.lt_succ_self _)) (znw_k ((km4_s hs).lt (show 228 < zn (km4 zkD) from by decide +kernel)) ((km4_s hs).kd (show zkd (km4 zkD) 228 = (0, 12) from by decide +kernel))) (znw_l (σ := (km4 σ)) ((km4_s hs).lt (show 228 < zn (km4 zkD) from by decide +kernel))) ?_
  show zF G mX12_init (d + 1) 48 [(0, zR 228)] [] (km5 σ) _
  refine zF_aload_n 49 dX12_init_48 rfl rfl ?_
  refine zF_bipush 51 dX12_init_49 rfl (by decide) ?_
  refine zF_newarray 53 dX12_init_51 rfl (Or.inr (Or.inr (Or.inl ⟨rfl, rfl⟩))) (zi8 63 rfl rfl) (by decide) (by decide) ((km5_s hs).bg (by decide +kernel)) (zwl_q (by exact (⟨zwR ((km5_s hs).lt (show 228 < zn (km5 zkD) from by decide +kernel)), trivial⟩ : _ ∧ True))) (zwl_m (by exact (⟨zwR ((km5_s hs).lt (show 228 < zn (km5 zkD) from by decide +kernel)), trivial⟩ : _ ∧ True))) ?_
  refine zF_putR 56 dX12_init_53 rfl pX12_init_25 (zwf_l (Nat.lt_succ_self _)) (znw_k ((km5_s hs).lt (show 228 < zn (km5 zkD) from by decide +kernel)) ((km5_s hs).kd (show zkd (km5 zkD) 228 = (0, 12) from by decide +kernel))) (znw_l (σ := (km5 σ)) ((km5_s hs).lt (show 228 < zn (km5 zkD) from by decide +kernel))) ?_
  show zF G mX12_init (d + 1) 56 [(0, zR 228)] [] (km6 σ) _
  refine zF_aload_n 57 dX12_init_56 rfl rfl ?_
  refine zF_iconst 58 dX12_init_57 rfl ?_
  refine zF_newarray 60 dX12_init_58 rfl (Or.inl ⟨rfl, rfl⟩) (zi1 163 rfl rfl) (by decide) (by decide) ((km6_s hs).bg (by decide +kernel)) (zwl_q (by exact (⟨zwR ((km6_s hs).lt (show 228 < zn (km6 zkD) from by decide +kernel)), trivial⟩ : _ ∧ True))) (zwl_m (by exact (⟨zwR ((km6_s hs).lt (show 228 < zn (km6 zkD) from by decide +kernel)), trivial⟩ : _ ∧ True))) ?_
  refine zF_putR 63 dX12_init_60 rfl pX12_init_29 (zwf_l (Nat.lt_succ_self _)) (znw_k ((km6_s hs).lt (show 228 < zn (km6 zkD) from by decide +kernel)) ((km6_s hs).kd (show zkd (km6 zkD) 228 = (0, 12) from by decide +kernel))) (znw_l (σ := (km6 σ)) ((km6_s hs).lt (show 228 < zn (km6 zkD) from by decide +kernel))) ?_
  show zF G mX12_init (d + 1) 63 [(0, zR 228)] [] (km7 σ) _
  refine zF_aload_n 64 dX12_init_63 rfl rfl ?_
  refine zF_iconst 65 dX12_init_64 rfl ?_
  refine zF_newarray 67 dX12_init_65 rfl (Or.inl ⟨rfl, rfl⟩) (zi1 163 rfl rfl) (by decide) (by decide) ((km7_s hs).bg (by decide +kernel)) (zwl_q (by exact (⟨zwR ((km7_s hs).lt (show 228 < zn (km7 zkD) from by decide +kernel)), trivial⟩ : _ ∧ True))) (zwl_m (by exact (⟨zwR ((km7_s hs).lt (show 228 < zn (km7 zkD) from by decide +kernel)), trivial⟩ : _ ∧ True))) ?_
  refine zF_putR 70 dX12_init_67 rfl pX12_init_32 (zwf_l (Nat.lt_succ_self _)) (znw_k ((km7_s hs).lt (show 228 < zn (km7 zkD) from by decide +kernel)) ((km7_s hs).kd (show zkd (km7 zkD) 228 = (0, 12) from by decide +kernel))) (znw_l (σ := (km7 σ)) ((km7_s hs).lt (show 228 < zn (km7 zkD) from by decide +kernel))) ?_
  show zF G mX12_init (d + 1) 70 [(0, zR 228)] [] (km8 σ) _
  refine zF_aload_n 71 dX12_init_70 rfl rfl ?_
  refine zF_iconst 72 dX12_init_71 rfl ?_
  refine zF_newarray 74 dX12_init_72 rfl (Or.inl ⟨rfl, rfl⟩) (zi1 163 rfl rfl) (by decide) (by decide) ((km8_s hs).bg (by decide +kernel)) (zwl_q (by exact (⟨zwR ((km8_s hs).lt (show 228 < zn (km8 zkD) from by decide +kernel)), trivial⟩ : _ ∧ True))) (zwl_m (by exact (⟨zwR ((km8_s hs).lt (show 228 < zn (km8 zkD) from by decide +kernel)), trivial⟩ : _ ∧ True))) ?_
  refine zF_putR 77 dX12_init_74 rfl pX12_init_35 (zwf_l (Nat.lt_succ_self _)) (znw_k ((km8_s hs).lt (show 228 < zn (km8 zkD) from by decide +kernel)) ((km8_s hs).kd (show zkd (km8 zkD) 228 = (0, 12) from by decide +kernel))) (znw_l (σ := (km8 σ)) ((km8_s hs).lt (show 228 < zn (km8 zkD) from by decide +kernel))) ?_
  show zF G mX12_init (d + 1) 77 [(0, zR 228)] [] (km9 σ) _
  refine zF_aload_n 78 dX12_init_77 rfl rfl ?_
  refine zF_iconst 79 dX12_init_78 rfl ?_
  refine zF_newarray 81 dX12_init_79 rfl (Or.inl ⟨rfl, rfl⟩) (zi1 163 rfl rfl) (by decide) (by decide) ((km9_s hs).bg (by decide +kernel)) (zwl_q (by exact (⟨zwR ((km9_s hs).lt (show 228 < zn (km9 zkD) from by decide +kernel)), trivial⟩ : _ ∧ True))) (zwl_m (by exact (⟨zwR ((km9_s hs).lt (show 228 < zn (km9 zkD) from by decide +kernel)), trivial⟩ : _ ∧ True))) ?_
  refine zF_putR 84 dX12_init_81 rfl pX12_init_38 (zwf_l (Nat.lt_succ_self _)) (znw_k ((km9_s hs).lt (show 228 < zn (km9 zkD) from by decide +kernel)) ((km9_s hs).kd (show zkd (km9 zkD) 228 = (0, 12) from by decide +kernel))) (znw_l (σ := (km9 σ)) ((km9_s hs).lt (show 228 < zn (km9 zkD) from by decide +kernel))) ?_
  show zF G mX12_init (d + 1) 84 [(0, zR 228)] [] (km10 σ) _
  refine zF_aload_n 85 dX12_init_84 rfl rfl ?_
  refine zF_bipush 87 dX12_init_85 rfl (by decide) ?_
  refine zF_newarray 89 dX12_init_87 rfl (Or.inr (Or.inr (Or.inl ⟨rfl, rfl⟩))) (zi8 63 rfl rfl) (by decide) (by decide) ((km10_s hs).bg (by decide +kernel)) (zwl_q (by exact (⟨zwR ((km10_s hs).lt (show 228 < zn (km10 zkD) from by decide +kernel)), trivial⟩ : _ ∧ True))) (zwl_m (by exact (⟨zwR ((km10_s hs).lt (show 228 < zn (km10 zkD) from by decide +kernel)), trivial⟩ : _ ∧ True))) ?_
  refine zF_putR 92 dX12_init_89 rfl pX12_init_41 (zwf_l (Nat.lt_succ_self _)) (znw_k ((km10_s hs).lt (show 228 < zn (km10 zkD) from by decide +kernel)) ((km10_s hs).kd (show zkd (km10 zkD) 228 = (0, 12) from by decide +kernel))) (znw_l (σ := (km10 σ)) ((km10_s hs).lt (show 228 < zn (km10 zkD) from by decide +kernel))) ?_
  show zF G mX12_init (d + 1) 92 [(0, zR 228)] [] (km11 σ) _
  refine zF_aload_n 93 dX12_init_92 rfl rfl ?_
  refine zF_bipush 95 dX12_init_93 rfl (by decide) ?_
  refine zF_newarray 97 dX12_init_95 rfl (Or.inl ⟨rfl, rfl⟩) (zi1 163 rfl rfl) (by decide) (by decide) ((km11_s hs).bg (by decide +kernel)) (zwl_q (by exact (⟨zwR ((km11_s hs).lt (show 228 < zn (km11 zkD) from by decide +kernel)), trivial⟩ : _ ∧ True))) (zwl_m (by exact (⟨zwR ((km11_s hs).lt (show 228 < zn (km11 zkD) from by decide +kernel)), trivial⟩ : _ ∧ True))) ?_
  refine zF_putR 100 dX12_init_97 rfl pX12_init_44 (zwf_l (Nat.lt_succ_self _)) (znw_k ((km11_s hs).lt (show 228 < zn (km11 zkD) from by decide +kernel)) ((km11_s hs).kd (show zkd (km11 zkD) 228 = (0, 12) from by decide +kernel))) (znw_l (σ := (km11 σ)) ((km11_s hs).lt (show 228 < zn (km11 zkD) from by decide +kernel))) ?_
  show zF G mX12_init (d + 1) 100 [(0, zR 228)] [] (km12 σ) _
  refine zF_aload_n 101 dX12_init_100 rfl rfl ?_
  refine zF_sipush 104 dX12_init_101 rfl (by decide) ?_
  refine zF_newarray 106 dX12_init_104 rfl (Or.inl ⟨rfl, rfl⟩) (zi1 163 rfl rfl) (by decide) (by decide) ((km12_s hs).bg (by decide +kernel)) (zwl_q (by exact (⟨zwR ((km12_s hs).lt (show 228 < zn (km12 zkD) from by decide +kernel)), trivial⟩ : _ ∧ True))) (zwl_m (by exact (⟨zwR ((km12_s hs).lt (show 228 < zn (km12 zkD) from by decide +kernel)), trivial⟩ : _ ∧ True))) ?_
  refine zF_putR 109 dX12_init_106 rfl pX12_init_47 (zwf_l (Nat.lt_succ_self _)) (znw_k ((km12_s hs).lt (show 228 < zn (km12 zkD) from by decide +kernel)) ((km12_s hs).kd (show zkd (km12 zkD) 228 = (0, 12) from by decide +kernel))) (znw_l (σ := (km12 σ)) ((km12_s hs).lt (show 228 < zn (km12 zkD) from by decide +kernel))) ?_
  show zF G mX12_init (d + 1) 109 [(0, zR 228)] [] (km13 σ) _
  refine zF_aload_n 110 dX12_init_109 rfl rfl ?_
  refine zF_iconst 111 dX12_init_110 rfl ?_
  refine zF_putI 114 dX12_init_111 rfl pX12_init_50 (Or.inl rfl) ((km13_s hs).kd (show zkd (km13 zkD) 228 = (0, 12) from by decide +kernel)) ((km13_s hs).lt (show 228 < zn (km13 zkD) from by decide +kernel)) ?_
  show zF G mX12_init (d + 1) 114 [(0, zR 228)] [] (km14 σ) _
  refine zF_aload_n 115 dX12_init_114 rfl rfl ?_
  refine zF_bipush 117 dX12_init_115 rfl (by decide) ?_
  refine zF_anewT 120 dX12_init_117 rfl (zi7 192 rfl rfl) hAO (by decide) (by decide) ((km14_s hs).bg (by decide +kernel)) (zwl_q (by exact (⟨zwR ((km14_s hs).lt (show 228 < zn (km14 zkD) from by decide +kernel)), trivial⟩ : _ ∧ True))) (zwl_m (by exact (⟨zwR ((km14_s hs).lt (show 228 < zn (km14 zkD) from by decide +kernel)), trivial⟩ : _ ∧ True))) ?_
  rw [show zn (km14 σ) = 242 from (km14_s hs).1.trans (by decide +kernel)]
  show zF G mX12_init (d + 1) 120 [(0, zR 228)] [zR 242, zR 228] (km15 σ) _
  refine zF_dup 121 dX12_init_120 rfl rfl ?_
  refine zF_iconst 122 dX12_init_121 rfl ?_
  refine zF_ldcS 124 (i := 30) dX12_init_122 rfl rfl ?_
  refine zF_aastT 125 (n := 9) dX12_init_124 rfl ((km15_s hs).kd (show zkd (km15 zkD) 242 = (6, 9) from by decide +kernel)) ((km15_s hs).lt (show 242 < zn (km15 zkD) from by decide +kernel)) (hO.1 30 (by decide)).1 (by decide) (by decide) ?_
  show zF G mX12_init (d + 1) 125 [(0, zR 228)] [zR 242, zR 228] (km16 σ) _
  refine zF_dup 126 dX12_init_125 rfl rfl ?_
  refine zF_iconst 127 dX12_init_126 rfl ?_
  refine zF_ldcS 129 (i := 31) dX12_init_127 rfl rfl ?_
  refine zF_aastT 130 (n := 9) dX12_init_129 rfl ((km16_s hs).kd (show zkd (km16 zkD) 242 = (6, 9) from by decide +kernel)) ((km16_s hs).lt (show 242 < zn (km16 zkD) from by decide +kernel)) (hO.1 31 (by decide)).1 (by decide) (by decide) ?_
  show zF G mX12_init (d + 1) 130 [(0, zR 228)] [zR 242, zR 228] (km17 σ) _
  refine zF_dup 131 dX12_init_130 rfl rfl ?_
  refine zF_iconst 132 dX12_init_131 rfl ?_
  refine zF_ldcS 134 (i := 32) dX12_init_132 rfl rfl ?_
  refine zF_aastT 135 (n := 9) dX12_init_134 rfl ((km17_s hs).kd (show zkd (km17 zkD) 242 = (6, 9) from by decide +kernel)) ((km17_s hs).lt (show 242 < zn (km17 zkD) from by decide +kernel)) (hO.1 32 (by decide)).1 (by decide) (by decide) ?_
  show zF G mX12_init (d + 1) 135 [(0, zR 228)] [zR 242, zR 228] (km18 σ) _
  refine zF_dup 136 dX12_init_135 rfl rfl ?_
  refine zF_iconst 137 dX12_init_136 rfl ?_
  refine zF_ldcS 139 (i := 33) dX12_init_137 rfl rfl ?_
  refine zF_aastT 140 (n := 9) dX12_init_139 rfl ((km18_s hs).kd (show zkd (km18 zkD) 242 = (6, 9) from by decide +kernel)) ((km18_s hs).lt (show 242 < zn (km18 zkD) from by decide +kernel)) (hO.1 33 (by decide)).1 (by decide) (by decide) ?_
  show zF G mX12_init (d + 1) 140 [(0, zR 228)] [zR 242, zR 228] (km19 σ) _
  refine zF_dup 141 dX12_init_140 rfl rfl ?_
  refine zF_iconst 142 dX12_init_141 rfl ?_
  refine zF_ldcS 144 (i := 34) dX12_init_142 rfl rfl ?_
  refine zF_aastT 145 (n := 9) dX12_init_144 rfl ((km19_s hs).kd (show zkd (km19 zkD) 242 = (6, 9) from by decide +kernel)) ((km19_s hs).lt (show 242 < zn (km19 zkD) from by decide +kernel)) (hO.1 34 (by decide)).1 (by decide) (by decide) ?_
  show zF G mX12_init (d + 1) 145 [(0, zR 228)] [zR 242, zR 228] (km20 σ) _
  refine zF_dup 146 dX12_init_145 rfl rfl ?_
  refine zF_iconst 147 dX12_init_146 rfl ?_
  refine zF_ldcS 149 (i := 35) dX12_init_147 rfl rfl ?_
  refine zF_aastT 150 (n := 9) dX12_init_149 rfl ((km20_s hs).kd (show zkd (km20 zkD) 242 = (6, 9) from by decide +kernel)) ((km20_s hs).lt (show 242 < zn (km20 zkD) from by decide +kernel)) (hO.1 35 (by decide)).1 (by decide) (by decide) ?_
  show zF G mX12_init (d + 1) 150 [(0, zR 228)] [zR 242, zR 228] (km21 σ) _
  refine zF_dup 151 dX12_init_150 rfl rfl ?_
  refine zF_bipush 153 dX12_init_151 rfl (by decide) ?_
  refine zF_ldcS 155 (i := 36) dX12_init_153 rfl rfl ?_
  refine zF_aastT 156 (n := 9) dX12_init_155 rfl ((km21_s hs).kd (show zkd (km21 zkD) 242 = (6, 9) from by decide +kernel)) ((km21_s hs).lt (show 242 < zn (km21 zkD) from by decide +kernel)) (hO.1 36 (by decide)).1 (by decide) (by decide) ?_
  show zF G mX12_init (d + 1) 156 [(0, zR 228)] [zR 242, zR 228] (km22 σ) _
  refine zF_dup 157 dX12_init_156 rfl rfl ?_
  refine zF_bipush 159 dX12_init_157 rfl (by decide) ?_
  refine zF_ldcS 161 (i := 37) dX12_init_159 rfl rfl ?_
  refine zF_aastT 162 (n := 9) dX12_init_161 rfl ((km22_s hs).kd (show zkd (km22 zkD) 242 = (6, 9) from by decide +kernel)) ((km22_s hs).lt (show 242 < zn (km22 zkD) from by decide +kernel)) (hO.1 37 (by decide)).1 (by decide) (by decide) ?_
  show zF G mX12_init (d + 1) 162 [(0, zR 228)] [zR 242, zR 228] (km23 σ) _
  refine zF_dup 163 dX12_init_162 rfl rfl ?_
  refine zF_bipush 165 dX12_init_163 rfl (by decide) ?_
  refine zF_ldcS 167 (i := 38) dX12_init_165 rfl rfl ?_
  refine zF_aastT 168 (n := 9) dX12_init_167 rfl ((km23_s hs).kd (show zkd (km23 zkD) 242 = (6, 9) from by decide +kernel)) ((km23_s hs).lt (show 242 < zn (km23 zkD) from by decide +kernel)) (hO.1 38 (by decide)).1 (by decide) (by decide) ?_
  show zF G mX12_init (d + 1) 168 [(0, zR 228)] [zR 242, zR 228] (km24 σ) _
  refine zF_putR 171 dX12_init_168 rfl pX12_init_74 (zwf_l ((km24_s hs).lt (show 242 < zn (km24 zkD) from by decide +kernel))) ((km24_s hs).kd (show zkd (km24 zkD) 228 = (0, 12) from by decide +kernel)) ((km24_s hs).lt (show 228 < zn (km24 zkD) from by decide +kernel)) ?_
  show zF G mX12_init (d + 1) 171 [(0, zR 228)] [] (km25 σ) _
  refine zF_aload_n 172 dX12_init_171 rfl rfl ?_
  refine zF_sipush 175 dX12_init_172 rfl (by decide) ?_
  refine zF_newarray 177 dX12_init_175 rfl (Or.inl ⟨rfl, rfl⟩) (zi1 163 rfl rfl) (by decide) (by decide) ((km25_s hs).bg (by decide +kernel)) (zwl_q (by exact (⟨zwR ((km25_s hs).lt (show 228 < zn (km25 zkD) from by decide +kernel)), trivial⟩ : _ ∧ True))) (zwl_m (by exact (⟨zwR ((km25_s hs).lt (show 228 < zn (km25 zkD) from by decide +kernel)), trivial⟩ : _ ∧ True))) ?_
  refine zF_putR 180 dX12_init_177 rfl pX12_init_78 (zwf_l (Nat.lt_succ_self _)) (znw_k ((km25_s hs).lt (show 228 < zn (km25 zkD) from by decide +kernel)) ((km25_s hs).kd (show zkd (km25 zkD) 228 = (0, 12) from by decide +kernel))) (znw_l (σ := (km25 σ)) ((km25_s hs).lt (show 228 < zn (km25 zkD) from by decide +kernel))) ?_
  show zF G mX12_init (d + 1) 180 [(0, zR 228)] [] (km26 σ) _
  refine zF_aload_n 181 dX12_init_180 rfl rfl ?_
  refine zF_sipush 184 dX12_init_181 rfl (by decide) ?_
  refine zF_newarray 186 dX12_init_184 rfl (Or.inr (Or.inr (Or.inr ⟨rfl, rfl⟩))) (zi8 64 rfl rfl) (by decide) (by decide) ((km26_s hs).bg (by decide +kernel)) (zwl_q (by exact (⟨zwR ((km26_s hs).lt (show 228 < zn (km26 zkD) from by decide +kernel)), trivial⟩ : _ ∧ True))) (zwl_m (by exact (⟨zwR ((km26_s hs).lt (show 228 < zn (km26 zkD) from by decide +kernel)), trivial⟩ : _ ∧ True))) ?_
  refine zF_putR 189 dX12_init_186 rfl pX12_init_81 (zwf_l (Nat.lt_succ_self _)) (znw_k ((km26_s hs).lt (show 228 < zn (km26 zkD) from by decide +kernel)) ((km26_s hs).kd (show zkd (km26 zkD) 228 = (0, 12) from by decide +kernel))) (znw_l (σ := (km26 σ)) ((km26_s hs).lt (show 228 < zn (km26 zkD) from by decide +kernel))) ?_
  show zF G mX12_init (d + 1) 189 [(0, zR 228)] [] (km27 σ) _
  refine zF_aload_n 190 dX12_init_189 rfl rfl ?_
  refine zF_getR 193 dX12_init_190 rfl gX12_9 (ci := 12) ((km27_s hs).kd (show zkd (km27 zkD) 228 = (0, 12) from by decide +kernel)) ((km27_s hs).lt (show 228 < zn (km27 zkD) from by decide +kernel)) (show zra (km27 σ) 228 ((0 : Nat) : Int) = some 229 from by rw [(km27_s hs).2.2]; decide +kernel) ?_
  show zF G mX12_init (d + 1) 193 [(0, zR 228)] [zR 229] (km27 σ) _
  refine zF_callS 196 (d2 := d) (as := [zR 229]) dX12_init_193 rfl kX12_85 sX12_clear (Nat.le_refl _) rfl rfl (Nat.le_of_ble_eq_true rfl) (zE.mono (zt_X12_clear (σ := (km27 σ)) ((km27_s hs).kd (show zkd (km27 zkD) 229 = (1, 312) from by decide +kernel)) ((km27_s hs).lt (show 229 < zn (km27 zkD) from by decide +kernel))) fun ro σa hh => ?_)
  obtain ⟨er, fr, pz⟩ := hh
  subst er
  refine ⟨fr.1, ?_⟩
  exact zF_return dX12_init_196 rfl ⟨rfl, fr, pz⟩
def aL : List (Nat × Nat) := [(0, 229), (1, 230), (2, 231), (3, 232), (7, 233), (8, 234), (9, 235), (10, 236), (11, 237), (14, 238), (15, 239), (16, 240), (18, 241), (28, 242), (29, 243), (30, 244)]
def A0 (k : Nat) : Nat := (aL.lookup k).getD (2000001 + 2 * k)
theorem aL_in : ∀ a ∈ aL, ∀ b ∈ aL, a.2 = b.2 → a.1 = b.1 := by decide +kernel
theorem aL_lt : ∀ a ∈ aL, 229 ≤ a.2 ∧ a.2 < 245 := by decide +kernel
theorem A0_or (k : Nat) : (k, A0 k) ∈ aL ∨ A0 k = 2000001 + 2 * k := by
  unfold A0
  cases q : aL.lookup k with
  | none => exact Or.inr rfl
  | some h => exact Or.inl (lk_mem q)
theorem A0_inj (i j : Nat) (e : A0 i = A0 j) : i = j := by
  rcases A0_or i with a | a <;> rcases A0_or j with b | b
  · exact aL_in _ a _ b e
  · have := aL_lt _ a; simp only at this; omega
  · have := aL_lt _ b; simp only at this; omega
  · omega
theorem A0_lt (k : Nat) : (229 ≤ A0 k ∧ A0 k < 245) ∨ A0 k = 2000001 + 2 * k := (A0_or k).imp (fun a => aL_lt _ a) id
theorem A0_B0 (i j : Nat) : A0 i ≠ B0 j := fun e => by
  rcases A0_lt i with a | a <;> rcases B0_lt j with b | b <;> omega
def zkM : zMem := km27 zkD
theorem zkM_n : zn zkM = 245 := by decide +kernel
theorem kMo_d (h : ∀ q ∈ zmf, zra zkM 228 ((q.1 : Nat) : Int) = some (A0 q.1) ∧ A0 q.1 < zn zkM ∧ zkd zkM (A0 q.1) = (q.2.1, q.2.2)) : ∀ k t n, (k, t, n) ∈ zmf → zra zkM 228 ((k : Nat) : Int) = some (A0 k) ∧ A0 k < zn zkM ∧ zkd zkM (A0 k) = (t, n) := fun k t n q => h (k, t, n) q
theorem kMo0 : zMo zkM 228 A0 := ⟨(by decide +kernel), (by decide +kernel), kMo_d (by decide +kernel), fun j _ k _ e => A0_inj j k e⟩
theorem kNm0 : mNm zkM A0 := by
  have q : ∀ i ∈ List.range 9, zra zkM (A0 28) (i : Int) = some (zbg + (30 + i)) := by decide +kernel
  exact fun i hi => q i (List.mem_range.mpr hi)
end ZNB
