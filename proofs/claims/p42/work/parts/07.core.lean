/-! the light logic: a method's world as numbers -/
section ZC
abbrev zMeth : Type := MethodName × ByteArray × Nat × Option FieldType
def lw_sb : List Cond := []
def lw_all : List Cond := (lw_sb ++ lw_tbl).filter goodWord
theorem lw_all_of {w : Cond} (n : Nat) (h : lw_tbl[n]? = some w) (hg : goodWord w = true) : w ∈ lw_all :=
  List.mem_filter.mpr ⟨List.mem_append.mpr (Or.inr (List.mem_of_getElem? h)), hg⟩
theorem lw_all_sb {w : Cond} (n : Nat) (h : lw_sb[n]? = some w) (hg : goodWord w = true) : w ∈ lw_all :=
  List.mem_filter.mpr ⟨List.mem_append.mpr (Or.inl (List.mem_of_getElem? h)), hg⟩
theorem lw_all_in : GoodIn lw_all lw_all := fun w hw => ⟨hw, good_of_word (List.mem_filter.mp hw).2⟩
abbrev zV : Type := Int ⊕ (Int ⊕ (Option Nat ⊕ Value))
abbrev zI (z : Int) : zV := Sum.inl z
abbrev zL (z : Int) : zV := Sum.inr (Sum.inl z)
abbrev zO (r : Option Nat) : zV := Sum.inr (Sum.inr (Sum.inl r))
abbrev zR (h : Nat) : zV := zO (some h)
abbrev zX (v : Value) : zV := Sum.inr (Sum.inr (Sum.inr v))
def ztr (ρ : Nat → Nat) (v : zV) : Value := match v with
  | .inl z => .int (Int32.ofInt z)
  | .inr (.inl z) => .long (Int64.ofInt z)
  | .inr (.inr (.inl r)) => va_rf (r.map ρ)
  | .inr (.inr (.inr v)) => v
def zcat (v : zV) : Nat := match v with
  | .inl _ => 1
  | .inr (.inl _) => 2
  | .inr (.inr (.inl _)) => 1
  | .inr (.inr (.inr v)) => v.category
theorem ztr_cat (ρ : Nat → Nat) (v : zV) : (ztr ρ v).category = zcat v := by
  rcases v with z | z | r | v
  · rfl
  · rfl
  · cases r <;> rfl
  · rfl
abbrev zMem : Type := Nat × (Nat → Nat × Nat) × (Nat → Int → Int) × (Nat → Int → Option Nat) × Nat × Nat
def zn (σ : zMem) : Nat := σ.1
def zkd (σ : zMem) (h : Nat) : Nat × Nat := σ.2.1 h
def zia (σ : zMem) (h : Nat) (j : Int) : Int := σ.2.2.1 h j
def zra (σ : zMem) (h : Nat) (j : Int) : Option Nat := σ.2.2.2.1 h j
def zcs (σ : zMem) : Nat := σ.2.2.2.2.1
def zss (σ : zMem) : Nat := σ.2.2.2.2.2
def zsi (σ : zMem) (h : Nat) (j : Int) (v : Int) : zMem := (σ.1, σ.2.1, fun h' j' => if h' = h ∧ j' = j then v else σ.2.2.1 h' j', σ.2.2.2)
def zsr (σ : zMem) (h : Nat) (j : Int) (r : Option Nat) : zMem := (σ.1, σ.2.1, σ.2.2.1, fun h' j' => if h' = h ∧ j' = j then r else σ.2.2.2.1 h' j', σ.2.2.2.2)
def znw (σ : zMem) (k c sz : Nat) : zMem := (σ.1 + 1, fun h => if h = σ.1 then (k, c) else σ.2.1 h, fun h j => if h = σ.1 then 0 else σ.2.2.1 h j, fun h j => if h = σ.1 then none else σ.2.2.2.1 h j, σ.2.2.2.2.1 + 1, σ.2.2.2.2.2 + sz)
def zus (σ : zMem) (k n : Nat) : zMem := (σ.1, σ.2.1, σ.2.2.1, σ.2.2.2.1, σ.2.2.2.2.1 + k, σ.2.2.2.2.2 + n)
theorem zn_si (σ : zMem) (h : Nat) (j v : Int) : zn (zsi σ h j v) = zn σ := rfl
theorem zkd_si (σ : zMem) (h : Nat) (j v : Int) : zkd (zsi σ h j v) = zkd σ := rfl
theorem zra_si (σ : zMem) (h : Nat) (j v : Int) : zra (zsi σ h j v) = zra σ := rfl
theorem zcs_si (σ : zMem) (h : Nat) (j v : Int) : zcs (zsi σ h j v) = zcs σ := rfl
theorem zss_si (σ : zMem) (h : Nat) (j v : Int) : zss (zsi σ h j v) = zss σ := rfl
theorem zia_si (σ : zMem) (h : Nat) (j v : Int) (h' : Nat) (j' : Int) : zia (zsi σ h j v) h' j' = if h' = h ∧ j' = j then v else zia σ h' j' := rfl
theorem zn_sr (σ : zMem) (h : Nat) (j : Int) (v : Option Nat) : zn (zsr σ h j v) = zn σ := rfl
theorem zkd_sr (σ : zMem) (h : Nat) (j : Int) (v : Option Nat) : zkd (zsr σ h j v) = zkd σ := rfl
theorem zia_sr (σ : zMem) (h : Nat) (j : Int) (v : Option Nat) : zia (zsr σ h j v) = zia σ := rfl
theorem zcs_sr (σ : zMem) (h : Nat) (j : Int) (v : Option Nat) : zcs (zsr σ h j v) = zcs σ := rfl
theorem zss_sr (σ : zMem) (h : Nat) (j : Int) (v : Option Nat) : zss (zsr σ h j v) = zss σ := rfl
theorem zra_sr (σ : zMem) (h : Nat) (j : Int) (v : Option Nat) (h' : Nat) (j' : Int) : zra (zsr σ h j v) h' j' = if h' = h ∧ j' = j then v else zra σ h' j' := rfl
theorem zn_nw (σ : zMem) (k c sz : Nat) : zn (znw σ k c sz) = zn σ + 1 := rfl
theorem zkd_nw (σ : zMem) (k c sz h : Nat) : zkd (znw σ k c sz) h = if h = zn σ then (k, c) else zkd σ h := rfl
theorem zia_nw (σ : zMem) (k c sz h : Nat) (j : Int) : zia (znw σ k c sz) h j = if h = zn σ then 0 else zia σ h j := rfl
theorem zra_nw (σ : zMem) (k c sz h : Nat) (j : Int) : zra (znw σ k c sz) h j = if h = zn σ then none else zra σ h j := rfl
theorem zcs_nw (σ : zMem) (k c sz : Nat) : zcs (znw σ k c sz) = zcs σ + 1 := rfl
theorem zss_nw (σ : zMem) (k c sz : Nat) : zss (znw σ k c sz) = zss σ + sz := rfl
theorem zn_us (σ : zMem) (k n : Nat) : zn (zus σ k n) = zn σ := rfl
theorem zkd_us (σ : zMem) (k n : Nat) : zkd (zus σ k n) = zkd σ := rfl
theorem zia_us (σ : zMem) (k n : Nat) : zia (zus σ k n) = zia σ := rfl
theorem zra_us (σ : zMem) (k n : Nat) : zra (zus σ k n) = zra σ := rfl
theorem zcs_us (σ : zMem) (k n : Nat) : zcs (zus σ k n) = zcs σ + k := rfl
theorem zss_us (σ : zMem) (k n : Nat) : zss (zus σ k n) = zss σ + n := rfl
/-- launch, class numbers and slots, array classes, the law's start, the old things -/
abbrev zG : Type := Launch × va_G × (Nat → ClassId) × State × (Nat → Nat)
abbrev zcl : List vw_C := [(RX1, TX1, 13), (RX1, TX1, 13), (RX2, TX2, 3), (RX3, TX3, 4), (RX4, TX4, 5), (RX5, TX5, 14), (RX1, TX1, 13), (RX7, TX7, 4), (RX8, TX8, 16), (RX9, TX9, 8), (RX10, TX10, 4), (RX11, TX11, 13), (RX12, TX12, 13), (RJ4, TJ4, 4)]
abbrev ztys (G : zG) : List (ClassId × FieldType) := [(G.2.2.1 1, .int), (G.2.2.1 2, .byte), (G.2.2.1 3, .boolean), (G.2.2.1 4, .long), (G.2.2.1 5, .object RX8), (G.2.2.1 6, .array .int), (G.2.2.1 7, .object RX8)]
def zfcs : List (List Nat) := [[0, 2, 2, 0, 2, 2, 2, 0, 2, 2, 2, 2, 2], [0, 2, 2, 0, 2, 2, 2, 0, 2, 2, 2, 2, 2], [2, 2, 2], [2, 2, 2, 2], [2, 0, 0, 2, 3], [2, 2, 2, 0, 0, 2, 2, 2, 2, 2, 2, 2, 2, 2], [0, 2, 2, 0, 2, 2, 2, 0, 2, 2, 2, 2, 2], [2, 2, 2, 2], [0, 0, 0, 2, 2, 2, 2, 2, 2, 2, 2, 2, 2, 2, 2, 2], [2, 0, 0, 0, 0, 0, 0, 0], [2, 2, 2, 2], [2, 0, 0, 2, 2, 2, 2, 2, 2, 2, 2, 2, 2], [0, 0, 0, 0, 0, 0, 2, 2, 2, 2, 2, 2, 2], [2, 4, 3, 0]]
def zfc (ci k : Nat) : Nat := (((zfcs[ci]?).getD [])[k]?).getD 0
def zfld (ρ : Nat → Nat) (σ : zMem) (h : Nat) (c k : Nat) : Value := match c with
  | 1 => .long (Int64.ofInt (zia σ h k))
  | 2 => va_rf ((zra σ h k).map ρ)
  | _ => .int (Int32.ofInt (zia σ h k))
def zobj (ρ : Nat → Nat) (σ : zMem) (h ci : Nat) : List Value := (List.range ((zfcs[ci]?).getD []).length).map fun k => zfld ρ σ h (zfc ci k) k
def zcell (G : zG) (ρ : Nat → Nat) (σ : zMem) (h : Nat) : va_E := match zkd σ h with
  | (0, ci) => .inr (ci, zobj ρ σ h ci)
  | (4, n) => .inl (G.2.2.1 4, n, .inr (.inl fun j => Int64.ofInt (zia σ h j)))
  | (5, n) => .inl (G.2.2.1 5, n, .inr (.inr (.inr (.inr fun j => (zra σ h j).map ρ))))
  | (6, n) => .inl (G.2.2.1 6, n, .inr (.inr (.inr (.inr fun j => (zra σ h j).map ρ))))
  | (7, n) => .inl (G.2.2.1 7, n, .inr (.inr (.inr (.inr fun j => (zra σ h j).map ρ))))
  | (t, n) => .inl (G.2.2.1 t, n, .inl fun j => Int32.ofInt (zia σ h j))
def zws (G : zG) (ρ : Nat → Nat) (σ : zMem) : va_W := (List.range (zn σ)).map fun h => (ρ h, zcell G ρ σ h)
def zA (G : zG) : Nat → Prop := fun q => G.2.2.2.1.heap.size ≤ q
def zbg : Nat := 1000000
def zwf (n : Nat) (r : Option Nat) : Prop := ∀ x, r = some x → x < n ∨ zbg ≤ x
def zOK (σ : zMem) : Prop := zn σ ≤ zbg ∧ (∀ h j, zwf (zn σ) (zra σ h j)) ∧ ∀ h, (zkd σ h).2 < 2147483648
def zWd (G : zG) (ρ : Nat → Nat) (σ : zMem) (H : Heap) : Prop := va_P G.2.1 zcl (zws G ρ σ) H ∧ va_D (zA G) (zws G ρ σ) ∧ zOK σ ∧ ∀ i, ρ (zbg + i) = G.2.2.2.2 i
def zOld (G : zG) (H : Heap) : Prop := G.2.2.2.1.heap.size ≤ H.size ∧ ∀ q, q < G.2.2.2.1.heap.size → H[q]? = G.2.2.2.1.heap[q]?
def zAg (n n' : Nat) (ρ ρ' : Nat → Nat) : Prop := ∀ k, k < n ∨ n' ≤ k → ρ' k = ρ k
abbrev zRes : Type := Option zV ⊕ String
def zQc (G : zG) (ρ : Nat → Nat) (n : Nat) (r : zRes) (σ' : zMem) : Array Value → State → Outcome → State → Prop := fun _ st o t =>
  (∃ v, r = .inl v ∧ ∃ ρ', zAg n (zn σ') ρ ρ' ∧ o = .returned (v.map (ztr ρ')) ∧ zWd G ρ' σ' t.heap) ∧ va_F (zA G) st t
def zXc (G : zG) (ρ : Nat → Nat) (n : Nat) (r : zRes) (σ' : zMem) : String → State → State → Prop := fun E st t =>
  (r = .inr E ∧ ∃ ρ', zAg n (zn σ') ρ ρ' ∧ zWd G ρ' σ' t.heap) ∧ va_F (zA G) st t
/-- the words of nest mates: they outlive a warming, but are none of the good ones -/
def znest (w : Cond) : Bool := match w with
  | .methodLinkNest .. => true
  | .fieldLinkNest .. => true
  | .declares _ => true
  | .castable .. => true
  | _ => false
def lw_nest : List Cond := lw_tbl.filter znest
def zstr : List (String × Nat × String) := [("CinemaChain", 149, "length"), ("CinemaChain$ChainText", 46, "house"), ("CinemaChain$ChainText", 55, "screen"), ("CinemaChain$ChainText", 60, "film"), ("CinemaChain$ChainText", 65, "prints"), ("CinemaChain$ChainText", 150, "depot"), ("CinemaChain$ChainText", 73, "fee"), ("CinemaChain", 178, "what"), ("CinemaChain", 397, "house"), ("CinemaChain", 399, "screen"), ("CinemaChain", 401, "film"), ("CinemaChain", 149, "length"), ("CinemaChain", 293, "place"), ("CinemaChain", 403, "day"), ("CinemaChain", 314, "back"), ("CinemaChain", 329, "no split week"), ("CinemaChain", 342, "same place"), ("CinemaChain", 357, "percentage"), ("CinemaChain", 359, "rent"), ("CinemaChain", 360, "fee"), ("CinemaChain", 149, "length"), ("CinemaChain", 149, "length"), ("CinemaChain", 149, "length"), ("CinemaChain", 149, "length"), ("CinemaChain", 149, "length"), ("CinemaChain", 149, "length"), ("CinemaChain", 149, "length"), ("CinemaChain", 149, "length"), ("CinemaChain", 149, "length"), ("CinemaChain", 149, "length"), ("CinemaChainLaw", 78, "house "), ("CinemaChainLaw", 84, " "), ("CinemaChainLaw", 86, "screen"), ("CinemaChainLaw", 87, "film"), ("CinemaChainLaw", 88, "prints "), ("CinemaChainLaw", 90, " depot"), ("CinemaChainLaw", 92, "fee "), ("CinemaChainLaw", 233, "house 2 50;screen 0 10 1 5;film 8 50 0 25;prints 0 0 1;"), ("CinemaChain", 149, "length"), ("CinemaChain", 149, "length"), ("CinemaChain", 149, "length"), ("CinemaChain", 149, "length"), ("CinemaChain", 149, "length"), ("CinemaChain", 149, "length"), ("CinemaChain", 149, "length"), ("CinemaChain", 149, "length"), ("CinemaChain", 149, "length"), ("CinemaChain", 149, "length"), ("CinemaChain", 149, "length"), ("CinemaChain", 149, "length"), ("CinemaChain", 149, "length"), ("CinemaChain", 149, "length"), ("CinemaChain", 149, "length"), ("CinemaChain", 149, "length"), ("CinemaChain", 149, "length"), ("CinemaChain", 149, "length"), ("CinemaChain", 149, "length"), ("CinemaChain", 149, "length"), ("CinemaChain", 149, "length")]
def zNs (G : zG) (U : State) : Prop := (∀ w ∈ lw_nest, va_Nw w U) ∧ ∀ i q, zstr[i]? = some q → vk_R q.1 q.2.1 q.2.2 (G.2.2.2.2 i) U
theorem zNs_warm {G : zG} {s U : State} (hW : s.WarmedH U.vm) (h : zNs G s) : zNs G U := ⟨fun w hw => by
  have h1 := h.1 w hw
  have h2 := (List.mem_filter.mp hw).2
  cases w <;> first | (cases h2; done) | exact va_Nw.warmM hW h1 | exact va_Nw.warmF hW h1 | exact va_Nw.warmD hW h1 | exact va_Nw.warmC hW h1, fun i q hq => vk_R.warm hW (h.2 i q hq)⟩
theorem zNs_same {G : zG} {u U : State} (hv : U.vm = u.vm) (h : zNs G u) : zNs G U := ⟨fun w hw => by
  have h1 := h.1 w hw
  have h2 := (List.mem_filter.mp hw).2
  cases w <;> first | (cases h2; done) | exact va_Nw.same rfl hv.symm h1, fun i q hq => vk_R.same hv (h.2 i q hq)⟩
def zCx (G : zG) (M : zMeth) (d : Nat) (p : Program) (R : Room) (s : State) (m : MethodId) (args : Array Value) (meth : Method) (c : Code) : Prop :=
  p.tables.exec = Jvm.exec ∧ c.code = M.2.1 ∧ c.maxLocals = M.2.2.1 ∧ s.vm.findClass M.1.cls = some m.cls ∧ (∀ w ∈ lw_all, w.before args s = true) ∧ meth.sig.returnType = M.2.2.2 ∧ meth.locks = false ∧ meth.name = M.1.name ∧ ((M.1.cls ≠ RL → ∀ x ∈ c.exceptionTable.toList, False) ∧ ∀ bytes mx ret hh, Cond.codeWith M.1 bytes mx ret hh ∈ lw_all → c.exceptionTable.toList = tableOf hh) ∧ R.frames = d ∧ R.locals = 37 * d ∧ zOld G s.heap ∧ G.2.2.2.1.vm.Alike s.vm ∧ va_K G.2.1 zcl (ztys G) s ∧ zNs G s
def zLs (ρ : Nat → Nat) (ls : List (Nat × zV)) : List (Nat × Value) := ls.map fun q => (q.1, ztr ρ q.2)
def zSt (G : zG) (M : zMeth) (ρ : Nat → Nat) (σ : zMem) (ls : List (Nat × zV)) (s : State) (H : Heap) (locs : List Loc) (lsA : Array Slot) : Prop :=
  zWd G ρ σ H ∧ va_S (zA G) s.heap H locs ∧ lv_has lsA M.2.2.1 (zLs ρ ls)
def zSF (G : zG) (M : zMeth) (d pc : Nat) (ls : List (Nat × zV)) (st : List zV) (σ : zMem) (r : zRes) (σ' : zMem) : Prop :=
  ∀ (ρ : Nat → Nat) (p : Program) (e : Env) (R : Room) (s : State) (m : MethodId) (args : Array Value) (below : List Frame) (meth : Method) (c : Code), zCx G M d p R s m args meth c →
    ∀ (H : Heap) (locs : List Loc) (cells slots : Nat) (lsA : Array Slot), zSt G M ρ σ ls s H locs lsA → cells + (zcs σ' - zcs σ) ≤ R.cells → slots + (zss σ' - zss σ) ≤ R.slots →
      W p G.1 e R s m args below meth c H locs cells slots (vx_MQ below (zQc G ρ (zn σ) r σ') (zXc G ρ (zn σ) r σ') args s R.cells R.slots (zA G)) (F0 m pc lsA (st.map (ztr ρ)))
def zUp (σ σ' : zMem) : Prop := zn σ ≤ zn σ' ∧ zcs σ ≤ zcs σ' ∧ zss σ ≤ zss σ'
def zF (G : zG) (M : zMeth) (d pc : Nat) (ls : List (Nat × zV)) (st : List zV) (σ : zMem) (Q : zRes → zMem → Prop) : Prop :=
  ∃ r σ', Q r σ' ∧ zUp σ σ' ∧ zSF G M d pc ls st σ r σ'
def zPc (G : zG) (ρ : Nat → Nat) (as : List zV) (σ : zMem) : Array Value → State → Prop := fun v U =>
  v = (as.map (ztr ρ)).toArray ∧ zWd G ρ σ U.heap ∧ zOld G U.heap ∧ G.2.2.2.1.vm.Alike U.vm ∧ va_K G.2.1 zcl (ztys G) U ∧ zNs G U
theorem zPc_blind {G : zG} {ρ : Nat → Nat} {as : List zV} {σ : zMem} : FrameBlind (zPc G ρ as σ) := fun _ U _ _ h => ⟨h.1, h.2.1, h.2.2.1, h.2.2.2.1, h.2.2.2.2.1, zNs_same (u := U) rfl h.2.2.2.2.2⟩
def zw (M : zMeth) : List Cond := .code M.1 M.2.1 M.2.2.1 M.2.2.2 :: lw_all
def zrm (d : Nat) (σ σ' : zMem) : Room := { frames := d, cells := zcs σ' - zcs σ, slots := zss σ' - zss σ, locals := 37 * d }
def zSM (G : zG) (M : zMeth) (d : Nat) (as : List zV) (σ : zMem) (r : zRes) (σ' : zMem) : Prop :=
  ∀ ρ, vx_Met G.1 M.1 (zw M) (zrm d σ σ') (zPc G ρ as σ) (zQc G ρ (zn σ) r σ') (zXc G ρ (zn σ) r σ') (zcs σ' - zcs σ) (zss σ' - zss σ) (zA G)
def zE (G : zG) (M : zMeth) (d : Nat) (as : List zV) (σ : zMem) (Q : zRes → zMem → Prop) : Prop :=
  ∃ r σ', Q r σ' ∧ zUp σ σ' ∧ zSM G M d as σ r σ'
theorem zUp.rf (σ : zMem) : zUp σ σ := ⟨Nat.le_refl _, Nat.le_refl _, Nat.le_refl _⟩
theorem zUp.tr {a b c : zMem} (h : zUp a b) (k : zUp b c) : zUp a c := ⟨Nat.le_trans h.1 k.1, Nat.le_trans h.2.1 k.2.1, Nat.le_trans h.2.2 k.2.2⟩
theorem zF.mono {G : zG} {M : zMeth} {d pc : Nat} {ls : List (Nat × zV)} {st : List zV} {σ : zMem} {Q Q' : zRes → zMem → Prop} (h : zF G M d pc ls st σ Q) (hq : ∀ r σ', Q r σ' → Q' r σ') : zF G M d pc ls st σ Q' := by
  obtain ⟨r, σ', a, b⟩ := h
  exact ⟨r, σ', hq _ _ a, b⟩
theorem zE.mono {G : zG} {M : zMeth} {d : Nat} {as : List zV} {σ : zMem} {Q Q' : zRes → zMem → Prop} (h : zE G M d as σ Q) (hq : ∀ r σ', Q r σ' → Q' r σ') : zE G M d as σ Q' := by
  obtain ⟨r, σ', a, b⟩ := h
  exact ⟨r, σ', hq _ _ a, b⟩
theorem zAg.rf (n n' : Nat) (ρ : Nat → Nat) : zAg n n' ρ ρ := fun _ _ => rfl
theorem zAg.eq {n n' : Nat} {ρ ρ' : Nat → Nat} (h : zAg n n' ρ ρ') (hn : n' ≤ n) : ρ' = ρ := funext fun k => h k (by omega)
def zargs : Nat → List zV → List (Nat × zV)
  | _, [] => []
  | i, v :: vs => (i, v) :: zargs (if zcat v = 2 then i + 2 else i + 1) vs
theorem zargs_eq (ρ : Nat → Nat) (as : List zV) : ∀ i, zLs ρ (zargs i as) = lv_args i (as.map (ztr ρ)) := by
  induction as with
  | nil => intro i; rfl
  | cons v vs ih =>
    intro i
    show (i, ztr ρ v) :: zLs ρ (zargs _ vs) = (i, ztr ρ v) :: lv_args _ (vs.map (ztr ρ))
    rw [ih, ztr_cat]
def zlen (as : List zV) : Nat := (as.map zcat).sum
theorem zlen_eq (ρ : Nat → Nat) (as : List zV) (h : ∀ v ∈ as, zcat v = 1 ∨ zcat v = 2) : (lg_sl (as.map (ztr ρ))).length = zlen as := by
  induction as with
  | nil => rfl
  | cons v vs ih =>
    have h1 := ih fun x hx => h x (List.mem_cons_of_mem _ hx)
    have h2 := h v List.mem_cons_self
    simp only [lg_sl, zlen, List.map_cons, List.flatMap_cons, List.length_append, List.sum_cons] at h1 ⊢
    rw [h1, ztr_cat]
    rcases h2 with e | e <;> rw [e] <;> simp
/-- a body's walk is a contract -/
theorem zE_of {G : zG} {M : zMeth} {d : Nat} {as : List zV} {σ : zMem} {Q : zRes → zMem → Prop} (hy : plainName M.1.cls = true) (hc : ∀ v ∈ as, zcat v = 1 ∨ zcat v = 2) (hn : zlen as ≤ M.2.2.1)
    (k : zF G M d 0 (zargs 0 as) [] σ Q) : zE G M d as σ Q := by
  obtain ⟨r, σ', hq, hu, hF⟩ := k
  refine ⟨r, σ', hq, hu, fun ρ => vx_ofW (cc := M.2.1) (maxL := M.2.2.1) (ret := M.2.2.2) (ws' := lw_all) hy rfl ?_⟩
  intro p e s m args below meth c s₁ B hml hno hP
  obtain ⟨hv, hW, ho, hal, hK, hNs⟩ := hP
  have hts := atoms_spec (ws := zw M) B.pre
  have hown : s.vm.findClass M.1.cls = some m.cls := findClass_of_methodNamed B.named
  have hC : zCx G M d p (zrm d σ σ') s m args meth c := ⟨B.exec, B.bytes, hml, hown, fun w hw => hts w (List.mem_cons_of_mem _ hw), B.returns, B.notSynchronized, (name_of_methodNamed B.named B.method).1, ⟨fun _ => hno, fun bytes mx ret hh hw => vx_table (x := M.1) B (hts _ (List.mem_cons_of_mem _ hw))⟩, rfl, rfl, ho, hal, hK, hNs⟩
  subst hv
  rw [lg_entry_eq]
  have hl := lv_entry (as.map (ztr ρ)) (n := M.2.2.1) (by rw [zlen_eq ρ as hc]; exact hn)
  rw [← zargs_eq] at hl
  have hS : va_S (zA G) s.heap s.heap [] := va_S.rf
  exact hF ρ p e (zrm d σ σ') s m _ below meth c hC s.heap [] 0 0 _ ⟨hW, hS, hl⟩ (by show 0 + _ ≤ zcs σ' - zcs σ; omega) (by show 0 + _ ≤ zss σ' - zss σ; omega)
def zwH (M : zMeth) (hh : List (Nat × Nat × Nat × Nat)) : List Cond := .codeWith M.1 M.2.1 M.2.2.1 M.2.2.2 hh :: lw_all
def zSMH (G : zG) (M : zMeth) (hh : List (Nat × Nat × Nat × Nat)) (d : Nat) (as : List zV) (σ : zMem) (r : zRes) (σ' : zMem) : Prop :=
  ∀ ρ, vx_Met G.1 M.1 (zwH M hh) (zrm d σ σ') (zPc G ρ as σ) (zQc G ρ (zn σ) r σ') (zXc G ρ (zn σ) r σ') (zcs σ' - zcs σ) (zss σ' - zss σ) (zA G)
def zEH (G : zG) (M : zMeth) (hh : List (Nat × Nat × Nat × Nat)) (d : Nat) (as : List zV) (σ : zMem) (Q : zRes → zMem → Prop) : Prop :=
  ∃ r σ', Q r σ' ∧ zUp σ σ' ∧ zSMH G M hh d as σ r σ'
theorem zEH.mono {G : zG} {M : zMeth} {hh : List (Nat × Nat × Nat × Nat)} {d : Nat} {as : List zV} {σ : zMem} {Q Q' : zRes → zMem → Prop} (h : zEH G M hh d as σ Q) (hq : ∀ r σ', Q r σ' → Q' r σ') : zEH G M hh d as σ Q' := by
  obtain ⟨r, σ', a, b⟩ := h
  exact ⟨r, σ', hq _ _ a, b⟩
/-- the same for a body with handlers -/
theorem zE_ofH {G : zG} {M : zMeth} {hh : List (Nat × Nat × Nat × Nat)} {d : Nat} {as : List zV} {σ : zMem} {Q : zRes → zMem → Prop} (hy : plainName M.1.cls = true) (hRL : M.1.cls = RL) (hc : ∀ v ∈ as, zcat v = 1 ∨ zcat v = 2) (hn : zlen as ≤ M.2.2.1)
    (k : zF G M d 0 (zargs 0 as) [] σ Q) : zEH G M hh d as σ Q := by
  obtain ⟨r, σ', hq, hu, hF⟩ := k
  refine ⟨r, σ', hq, hu, fun ρ => vx_ofWH (cc := M.2.1) (maxL := M.2.2.1) (ret := M.2.2.2) (ws' := lw_all) (hh := hh) hy rfl ?_⟩
  intro p e s m args below meth c s₁ B hml hP
  obtain ⟨hv, hW, ho, hal, hK, hNs⟩ := hP
  have hts := atoms_spec (ws := zwH M hh) B.pre
  have hown : s.vm.findClass M.1.cls = some m.cls := findClass_of_methodNamed B.named
  have hC : zCx G M d p (zrm d σ σ') s m args meth c := ⟨B.exec, B.bytes, hml, hown, fun w hw => hts w (List.mem_cons_of_mem _ hw), B.returns, B.notSynchronized, (name_of_methodNamed B.named B.method).1, ⟨fun h => absurd hRL h, fun bytes mx ret hh hw => vx_table (x := M.1) B (hts _ (List.mem_cons_of_mem _ hw))⟩, rfl, rfl, ho, hal, hK, hNs⟩
  subst hv
  rw [lg_entry_eq]
  have hl := lv_entry (as.map (ztr ρ)) (n := M.2.2.1) (by rw [zlen_eq ρ as hc]; exact hn)
  rw [← zargs_eq] at hl
  have hS : va_S (zA G) s.heap s.heap [] := va_S.rf
  exact hF ρ p e (zrm d σ σ') s m _ below meth c hC s.heap [] 0 0 _ ⟨hW, hS, hl⟩ (by show 0 + _ ≤ zcs σ' - zcs σ; omega) (by show 0 + _ ≤ zss σ' - zss σ; omega)
/-- a step that makes nothing -/
theorem zF_step {G : zG} {M : zMeth} {d pc pc' : Nat} {ls ls' : List (Nat × zV)} {st st' : List zV} {σ σ1 : zMem} {Q : zRes → zMem → Prop} (e1 : zn σ1 = zn σ) (e2 : zcs σ1 = zcs σ) (e3 : zss σ1 = zss σ)
    (h : ∀ (ρ : Nat → Nat) (p : Program) (e : Env) (R : Room) (s : State) (m : MethodId) (args : Array Value) (below : List Frame) (meth : Method) (c : Code), zCx G M d p R s m args meth c →
      ∀ (H : Heap) (locs : List Loc) (cells slots : Nat) (lsA : Array Slot) (Qm : State → Prop), zSt G M ρ σ ls s H locs lsA → cells ≤ R.cells → slots ≤ R.slots →
        (∀ (H1 : Heap) (locs1 : List Loc) (lsA1 : Array Slot), zSt G M ρ σ1 ls' s H1 locs1 lsA1 → W p G.1 e R s m args below meth c H1 locs1 cells slots Qm (F0 m pc' lsA1 (st'.map (ztr ρ)))) →
        W p G.1 e R s m args below meth c H locs cells slots Qm (F0 m pc lsA (st.map (ztr ρ))))
    (k : zF G M d pc' ls' st' σ1 Q) : zF G M d pc ls st σ Q := by
  obtain ⟨r, σ', hq, hu, hF⟩ := k
  refine ⟨r, σ', hq, ⟨by rw [← e1]; exact hu.1, by rw [← e2]; exact hu.2.1, by rw [← e3]; exact hu.2.2⟩, ?_⟩
  intro ρ p e R s m args below meth c hC H locs cells slots lsA hS h1 h2
  refine h ρ p e R s m args below meth c hC H locs cells slots lsA _ hS (by omega) (by omega) fun H1 locs1 lsA1 hS1 => ?_
  have := hF ρ p e R s m args below meth c hC H1 locs1 cells slots lsA1 hS1 (by rw [e2]; exact h1) (by rw [e3]; exact h2)
  rw [e1] at this
  exact this
end ZC
