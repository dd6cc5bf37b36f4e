/-! the reference made -/
section ZNB
variable {G : zG} {d : Nat} {σ σ0 σ1 τ : zMem} {B : Nat → Nat} {f : Nat → Int → Int}
def zSh (σ τ : zMem) : Prop := zn σ = zn τ ∧ zkd σ = zkd τ ∧ zra σ = zra τ
theorem zSh.rf (σ : zMem) : zSh σ σ := ⟨rfl, rfl, rfl⟩
theorem zSh.nw {t n z : Nat} (s : zSh σ τ) : zSh (znw σ t n z) (znw τ t n z) := by
  refine ⟨?_, ?_, ?_⟩
  · rw [zn_nw, zn_nw, s.1]
  · funext x
    rw [zkd_nw, zkd_nw, s.1, s.2.1]
  · funext x j
    rw [zra_nw, zra_nw, s.1, s.2.2]
theorem zSh.sr {h : Nat} {i : Int} {r : Option Nat} (s : zSh σ τ) : zSh (zsr σ h i r) (zsr τ h i r) := by
  refine ⟨s.1, s.2.1, ?_⟩
  funext x j
  rw [zra_sr, zra_sr, s.2.2]
theorem zSh.mk {h k t n : Nat} (s : zSh σ τ) : zSh (zmk1 σ h k t n) (zmk1 τ h k t n) := by
  unfold zmk1
  rw [s.1]
  exact zSh.sr s.nw
theorem zSh.kd {h : Nat} {v : Nat × Nat} (s : zSh σ τ) (e : zkd τ h = v) : zkd σ h = v := by rw [s.2.1]; exact e
theorem zSh.lt {h : Nat} (s : zSh σ τ) (e : h < zn τ) : h < zn σ := by rw [s.1]; exact e
end ZNB
