/-! the machine at the law's start -/
section ZST
variable {s : State} {args : Array Value}
theorem lw_aP {ty : FieldType} (h : (Cond.arrayClass ty).before args s = true) : ∃ cA : ClassId, ArrOfT s cA ty ∧ s.vm.findClass ("[" ++ ty.toString) = some cA := by
  obtain ⟨c, k, comp, h1, h2, h3⟩ := Cond.arrayClass_spec h
  exact ⟨c, fun N z => ⟨(fun k h => by cases h), k, h2, comp, h3⟩, h1⟩
theorem lw_aO {C : String} (h : (Cond.arrayOver (.object C)).before args s = true) : ∃ cA : ClassId, ArrOfT s cA (.object C) ∧ va_RA s cA (.object C) := by
  obtain ⟨comp, c, k, h1, h2, h3, h4, h5⟩ := Cond.arrayOver_spec h
  exact ⟨c, fun N z => ⟨(fun k h => by cases h), k, h3, comp, h4⟩, k, comp, h3, h4, h1, h5⟩
theorem lw_kn (hall : ∀ w ∈ lw_all, w.before args s = true) {ci : Nat} {C : String} {T : u_T} {N n : Nat} {ty : Nat → FieldType} (hc : zCl ci C T N ty) (hi : Cond.instantiable C n ∈ lw_all) : ∃ z : ClassId × (Nat → Nat), u_Kn s C T N z.1 z.2 := by
  obtain ⟨cC, iS, h⟩ := u_known hall hc.2.2.1 (hall _ hi)
  exact ⟨(cC, iS), h⟩
theorem lw_aA (h : (Cond.arrayOver (.array .int)).before args s = true) : ∃ cA : ClassId, ArrOfT s cA (.array .int) ∧ va_RA s cA (.array .int) := by
  obtain ⟨comp, c, k, h1, h2, h3, h4, h5⟩ := arrayOverA_spec h
  exact ⟨c, fun N z => ⟨(fun k h => by cases h), k, h3, comp, h4⟩, h5⟩
theorem lw_K (hall : ∀ w ∈ lw_all, w.before args s = true) (hts : ∀ w ∈ lw_tbl, w.before args s = true) : ∃ (D : va_G) (K : Nat → ClassId), va_K D zcl [(K 1, .int), (K 2, .byte), (K 3, .boolean), (K 4, .long), (K 5, .object RX8), (K 6, .array .int), (K 7, .object RX8)] s := by
  have key : ∀ c : Nat, ∃ z : ClassId × (Nat → Nat), ∀ q : vw_C, zcl[c]? = some q → u_Kn s q.1 q.2.1 q.2.2 z.1 z.2 := by
    intro c
    by_cases e0 : c = 0
    · subst e0
      obtain ⟨z, hz⟩ := lw_kn hall zCX1 (zi1 66 rfl rfl)
      exact ⟨z, fun q hq => by cases hq; exact hz⟩
    by_cases e1 : c = 1
    · subst e1
      obtain ⟨z, hz⟩ := lw_kn hall zCX1 (zi1 66 rfl rfl)
      exact ⟨z, fun q hq => by cases hq; exact hz⟩
    by_cases e2 : c = 2
    · subst e2
      obtain ⟨z, hz⟩ := lw_kn hall zCX2 (zi2 152 rfl rfl)
      exact ⟨z, fun q hq => by cases hq; exact hz⟩
    by_cases e3 : c = 3
    · subst e3
      obtain ⟨z, hz⟩ := lw_kn hall zCX3 (zi2 70 rfl rfl)
      exact ⟨z, fun q hq => by cases hq; exact hz⟩
    by_cases e4 : c = 4
    · subst e4
      obtain ⟨z, hz⟩ := lw_kn hall zCX4 (zi2 89 rfl rfl)
      exact ⟨z, fun q hq => by cases hq; exact hz⟩
    by_cases e5 : c = 5
    · subst e5
      obtain ⟨z, hz⟩ := lw_kn hall zCX5 (zi2 21 rfl rfl)
      exact ⟨z, fun q hq => by cases hq; exact hz⟩
    by_cases e6 : c = 6
    · subst e6
      obtain ⟨z, hz⟩ := lw_kn hall zCX1 (zi1 66 rfl rfl)
      exact ⟨z, fun q hq => by cases hq; exact hz⟩
    by_cases e7 : c = 7
    · subst e7
      obtain ⟨z, hz⟩ := lw_kn hall zCX7 (zi2 174 rfl rfl)
      exact ⟨z, fun q hq => by cases hq; exact hz⟩
    by_cases e8 : c = 8
    · subst e8
      obtain ⟨z, hz⟩ := lw_kn hall zCX8 (zi1 154 rfl rfl)
      exact ⟨z, fun q hq => by cases hq; exact hz⟩
    by_cases e9 : c = 9
    · subst e9
      obtain ⟨z, hz⟩ := lw_kn hall zCX9 (zi2 117 rfl rfl)
      exact ⟨z, fun q hq => by cases hq; exact hz⟩
    by_cases e10 : c = 10
    · subst e10
      obtain ⟨z, hz⟩ := lw_kn hall zCX10 (zi2 2 rfl rfl)
      exact ⟨z, fun q hq => by cases hq; exact hz⟩
    by_cases e11 : c = 11
    · subst e11
      obtain ⟨z, hz⟩ := lw_kn hall zCX11 (zi1 28 rfl rfl)
      exact ⟨z, fun q hq => by cases hq; exact hz⟩
    by_cases e12 : c = 12
    · subst e12
      obtain ⟨z, hz⟩ := lw_kn hall zCX12 (zi5 48 rfl rfl)
      exact ⟨z, fun q hq => by cases hq; exact hz⟩
    by_cases e13 : c = 13
    · subst e13
      obtain ⟨z, hz⟩ := lw_kn hall zCJ4 (zi1 36 rfl rfl)
      exact ⟨z, fun q hq => by cases hq; exact hz⟩
    · exact ⟨(0, fun _ => 0), fun q hq => by
        have := (List.getElem?_eq_some_iff.mp hq).1
        have h14 : zcl.length = 14 := rfl
        omega⟩
  obtain ⟨z, hz⟩ := Classical.axiomOfChoice key
  obtain ⟨k1, a1, b1⟩ := lw_aP (hts _ ls_aI)
  obtain ⟨k2, a2, b2⟩ := lw_aP (hts _ ls_aB)
  obtain ⟨k3, a3, b3⟩ := lw_aP (hts _ ls_aZ)
  obtain ⟨k4, a4, b4⟩ := lw_aP (hts _ ls_aJ)
  obtain ⟨k5, a5, b5⟩ := lw_aO (hts _ ls_oS)
  obtain ⟨k6, a6, b6⟩ := lw_aA (hts _ ls_oA)
  refine ⟨(fun c => (z c).1, fun c => (z c).2), fun i => if i = 1 then k1 else if i = 2 then k2 else if i = 3 then k3 else if i = 4 then k4 else if i = 5 then k5 else if i = 6 then k6 else k5, fun c q hq => hz c q hq, fun k q hk => ?_⟩
  have hl : k < 7 := (List.getElem?_eq_some_iff.mp hk).1
  have q7 : k = 0 ∨ k = 1 ∨ k = 2 ∨ k = 3 ∨ k = 4 ∨ k = 5 ∨ k = 6 := by omega
  rcases q7 with e | e | e | e | e | e | e <;> subst e <;> cases hk
  · exact ⟨a1, b1⟩
  · exact ⟨a2, b2⟩
  · exact ⟨a3, b3⟩
  · exact ⟨a4, b4⟩
  · exact ⟨a5, b5⟩
  · exact ⟨a6, b6⟩
  · exact ⟨a5, b5⟩
/-- where the old things lie -/
def lAd (st : Nat → Nat × Nat) (x : Nat) : Nat → Nat := fun k => if k < 59 then (st k).1 else if 100 ≤ k ∧ k < 159 then (st (k - 100)).2 else x
theorem lAd_s {st : Nat → Nat × Nat} {x i : Nat} (h : i < 59) : lAd st x i = (st i).1 := if_pos h
theorem lAd_v {st : Nat → Nat × Nat} {x i : Nat} (h : i < 59) : lAd st x (100 + i) = (st i).2 := by
  unfold lAd
  rw [if_neg (by omega), if_pos (by omega), Nat.add_sub_cancel_left]
variable {p : Program} {l : Launch} {e : Env} {R1 R2 : Room} {m : MethodId} {below : List Frame} {meth : Method} {c : Code} {H : Heap} {locs : List Loc} {cells slots : Nat} {Q : State → Prop} {g : JFrame}
theorem lw_room (hf : R1.frames ≤ R2.frames) (hl : R1.locals ≤ R2.locals) (hc : R1.cells ≤ R2.cells) (hs : R1.slots ≤ R2.slots) (k : W p l e R1 s m args below meth c H locs cells slots Q g) : W p l e R2 s m args below meth c H locs cells slots Q g := fun T hT X => k T hT ⟨X.admits, X.cas, X.clock, X.frames, by
  have h := X.room
  simp only [State.hasRoom, Bool.and_eq_true, decide_eq_true_eq] at h ⊢
  obtain ⟨⟨⟨⟨h1, h2, h3, h4, h5, h6⟩, h7⟩, h8⟩, h9⟩ := h
  exact ⟨⟨⟨⟨by omega, by omega, by omega, by omega, by omega, h6⟩, by omega⟩, by omega⟩, h9⟩, X.hears, X.method, X.code, X.here, X.tail, X.warmed, X.limits, X.bytes, X.same⟩
/-- no word speaks of a handler of the law's own -/
def lw_nh (w : Cond) : Bool := match w with
  | .codeWith y .. => y.name != "law"
  | _ => true
theorem lw_nh_all : (lw_sb ++ lw_tbl).all lw_nh = true := by decide +kernel
theorem same_old {s t : State} {L : List Loc} {k n : Nat} (h : s.sameButNew t L k n) (hL : ∀ q ∈ L, s.heap.size ≤ q.base) : s.sameButNew t [] k n := by
  obtain ⟨h1, h2, h3, h4, h5, h6⟩ := h
  refine ⟨h1, h2, h3, h4, h5, fun a c hc => ?_⟩
  obtain ⟨c', q1, q2, q3, q4⟩ := h6 a c hc
  refine ⟨c', q1, q2, q3, fun i _ => q4 i fun hm => ?_⟩
  have := hL _ hm
  have h7 := (Array.getElem?_eq_some_iff.mp hc).1
  exact absurd h7 (Nat.not_lt.mpr this)
end ZST
def R_law : String := "CinemaChainLaw"
def lw_P (b : Addr) (xs : List Int32) (args : Array Value) (s : State) : Prop := args = #[.ref b] ∧ s.IntsAt b xs ∧ xs.length ≤ 260 ∧ (Jvm.Cond.and given_1 narrow_1).before args s = true
def lw_Q (_ : Array Value) (s : State) (o : Outcome) (t : State) : Prop := o = .returned (some (.int 1)) ∧ Framed s o t [] 600086 7301442
def lw_Z (below : List Frame) (a : Array Value) (s : State) : State → Prop := fun t => ∃ o, t.status = .running ∧ Ended t below o ∧ lw_Q a s o t
/-- the law's own end, with 1 on the stack, nothing written that was there before, its room as the claim has it -/
theorem lw_ret {p : Program} {l : Launch} {e : Env} {s : State} {m : MethodId} {below : List Frame} {meth : Method} {c : Code} {b : Nat} (hx : p.tables.exec = Jvm.exec) (hb : c.code = code) (hr : meth.sig.returnType = ret) (hlocks : meth.locks = false) {pc : Nat} {H : Heap} {ls : Array Slot} (hdg : decode code pc = .ok (.ireturn, 1)) : W p l e room_1 s m #[Value.ref b] below meth c H [] 600086 7301442 (lw_Z below #[Value.ref b] s) (F0 m pc ls [.int 1]) := by
  intro T hT X
  obtain ⟨fs, hret, hrun, hended, hW, hframe⟩ := X.leave (v := some (.int 1)) (hlocks := hlocks) (fun h => by rw [hr] at h; cases h)
  have hmeth' : T.vm.method? m = some meth := X.method'
  refine ⟨T.setFrames fs, ?_, .returned (some (.int 1)), hrun, hended, rfl, ⟨_, rfl⟩, hW, hframe⟩
  jvm_step X.here [X.here.top, hx, hb, hdg, hmeth', hr, ret, narrow_b1]
  (try refine ⟨rfl, ?_⟩); (try refine ⟨rfl, ?_⟩)
  first | (intro acts; rw [hret _ acts rfl rfl rfl]) | rw [hret _ _ rfl rfl rfl]
  exact Steps.refl _
/-- what holds at the law's entry: the machine, the code, the tables' words (any of lw_tbl by 'hts w (by decide +kernel)'), the script of L ints xs at the cell b, what the Statement gives of the start (any of its parts by flat_of_before) -/
def lw_At (p : Program) (s : State) (m : MethodId) (meth : Method) (c : Code) (b L : Nat) (xs : Nat → Int32) : Prop :=
  p.tables.exec = Jvm.exec ∧ c.code = code ∧ meth.sig.returnType = ret ∧ c.maxLocals = 15 ∧ s.vm.findClass R_law = some m.cls ∧ (∀ w ∈ lw_tbl, w.before #[Value.ref b] s = true) ∧ va_X b L xs s s.heap ∧ b < s.heap.size ∧ meth.locks = false ∧ (Jvm.Cond.and given_1 narrow_1).before #[Value.ref b] s = true ∧ meth.name = x.name
theorem whole_start {p : Program} {e : Env} {s : State} {m : MethodId} {below : List Frame} {meth : Method} {c : Code} (l : Launch) (hflags : l.flags = flags0) {b L : Nat} {xs : Nat → Int32} (hL : L ≤ 260) (C0 : lw_At p s m meth c b L xs) : W p l e room_1 s m #[Value.ref b] below meth c s.heap [] 0 0 (lw_Z below #[Value.ref b] s) (entryFrame m ([Value.ref b] : List Value).toArray 15) := by
  obtain ⟨hexec, hcode, hret, hml, hcls, hts, hX, hbl, hlk, hgv, hnm⟩ := C0
  have hs := flat_of_before _ hgv
  have hall := lw_all_b hts
  have hA := lA_n s
  obtain ⟨D, K, hK⟩ := lw_K hall hts
  have hn : narrow_1.before #[Value.ref b] s = true := by
    have h := hgv
    rw [Cond.before_and, Bool.and_eq_true] at h
    exact h.2
  obtain ⟨st, hst⟩ := lw_str hn
  obtain ⟨G, hGe⟩ : ∃ G : zG, G = (l, D, K, s, lAd st b) := ⟨_, rfl⟩
  have g1 : G.1 = l := by rw [hGe]
  have hOS : zOS G := by
    subst hGe
    refine ⟨fun i hi => ?_, va_Zof (hts _ (by decide +kernel)) (hts _ (by decide +kernel)) (va_eqt (hs _ lc_cs)) hA, va_Zqof (hts _ (by decide +kernel)) (hts _ (by decide +kernel)) (hs _ lc_si) hA⟩
    obtain ⟨-, q1, q2, q3, q4⟩ := hst i hi
    have e1 : zAd (l, D, K, s, lAd st b) i = (st i).1 := lAd_s hi
    have e2 : zAd (l, D, K, s, lAd st b) (100 + i) = (st i).2 := lAd_v hi
    rw [e1, e2]
    exact ⟨q1, q2, q3, q4⟩
  have hGd : zGd G := by
    subst hGe
    refine ⟨?_, vx_Zqof (hts _ (by decide +kernel)) (hts _ (by decide +kernel)) (hs _ lc_us) hA, vx_Zqof (hts _ (by decide +kernel)) (hts _ (by decide +kernel)) (hs _ lc_ss) hA⟩
    show l.stackTraces = false
    unfold Launch.stackTraces
    rw [hflags]
    decide
  have hSx : zSx G L xs := by
    subst hGe
    exact ⟨hX, hbl, by omega⟩
  have hAO : zAO G := by
    subst hGe
    exact ⟨va_AO.of (hts _ ls_oS), hts _ ls_oA⟩
  have hNs : zNs G s := by
    subst hGe
    refine ⟨fun w hw => va_Nw.of (znest_tab (List.mem_filter.mp hw).2) (hts w (List.mem_filter.mp hw).1), fun i q hq => ?_⟩
    have hi : i < 59 := by
      have := (List.getElem?_eq_some_iff.mp hq).1
      rw [ls_n] at this
      exact this
    have w1 := hts _ (ls_sr i (List.mem_range.mpr hi))
    have w2 := (hst i hi).1
    unfold zst at w2
    rw [hq] at w1 w2
    show vk_R q.1 q.2.1 q.2.2 (lAd st b i) s
    rw [lAd_s hi]
    exact vk_R.of w1 w2
  have hKG : va_K G.2.1 zcl (ztys G) s := by
    subst hGe
    exact hK
  obtain ⟨r, σ', ⟨er, hc1, hc2⟩, hu, hF⟩ := law_all (d := 0) (G := G) hGd hOS hAO hSx
  subst er
  have hC : zCx G mL_law 14 p ({ frames := 14, cells := 600086, slots := 7301442, locals := 37 * 14 } : Room) s m #[Value.ref b] meth c := ⟨hexec, hcode, hml, hcls, hall, hret, hlk, hnm, ⟨fun h => absurd rfl h, fun bytes mx rt hh hw => by
    have q := List.all_eq_true.mp lw_nh_all _ (List.mem_filter.mp hw).1
    exact absurd (show (("law" : String) != "law") = true from q) (by decide)⟩, rfl, rfl, by subst hGe; exact ⟨Nat.le_refl _, fun _ _ => rfl⟩, by subst hGe; exact Vm.Alike.refl _, hKG, hNs⟩
  have hl := lv_entry [Value.ref b] (n := 15) (by show (lg_sl [Value.ref b]).length ≤ 15; exact Nat.le_of_ble_eq_true rfl)
  have hz0 : ∀ k : Nat, (zws G (fun k => zAd G (k - zbg)) zE0)[k]? = none := fun k => zws_none (Nat.not_lt_zero _)
  have hSt : zSt G mL_law (fun k => zAd G (k - zbg)) zE0 [(0, zR (zbg + 500))] s s.heap [] _ := ⟨⟨(fun k q hk => by rw [hz0] at hk; cases hk), ⟨(fun i j x y hi => by rw [hz0] at hi; cases hi), (fun k q hk => by rw [hz0] at hk; cases hk)⟩, ⟨Nat.zero_le _, (fun h j x hx => nomatch (show (none : Option Nat) = some x from hx)), (fun h => by show (0 : Nat) < 2147483648; decide)⟩, (fun i => by show zAd G (zbg + i - zbg) = _; rw [Nat.add_sub_cancel_left])⟩, va_S.rf, (by
    have e1 : zLs (fun k => zAd G (k - zbg)) [(0, zR (zbg + 500))] = lv_args 0 [Value.ref b] := by
      subst hGe
      rfl
    rw [e1]
    exact hl)⟩
  have w := hF (fun k => zAd G (k - zbg)) p e _ s m #[Value.ref b] below meth c hC s.heap [] 0 0 _ hSt (by show 0 + (zcs σ' - 0) ≤ 600086; omega) (by show 0 + (zss σ' - 0) ≤ 7301442; omega)
  rw [g1] at w
  rw [lg_entry_eq]
  refine lw_room (R1 := { frames := 14, cells := 600086, slots := 7301442, locals := 37 * 14 }) (by decide) (by decide) (by decide) (by decide) ?_
  intro T hT X
  obtain ⟨t, a1, o, b1, b2, b3⟩ := w T hT X
  refine ⟨t, a1, o, b1, b2, ?_⟩
  rcases b3 with ⟨⟨⟨v, ev, ρ', hag, eo, hW⟩, hf⟩, Lo, hfe, hLo⟩ | ⟨q, _, E, ce, Lo, ⟨⟨er, _⟩, _⟩, _⟩
  · have e2 : v = some (zI 1) := (Sum.inl.inj ev).symm
    subst e2
    subst eo
    obtain ⟨⟨v2, _⟩, hWm, hsame⟩ := id hfe
    have hsz : G.2.2.2.1 = s := by rw [hGe]
    refine ⟨rfl, ⟨_, rfl⟩, hWm, same_old hsame fun q hq => ?_⟩
    have h1 := hLo q hq
    unfold zA at h1
    rw [hsz] at h1
    exact h1
  · cases er
set_option maxHeartbeats 4000000 in
theorem lw_walk (l : Launch) (hflags : l.flags = flags0) (b : Addr) (xs : List Int32) : MetFree l x (headSpec (Jvm.Cond.code x code maxLocals ret :: tables_1) room_1) (lw_P b xs) (fun _ _ _ _ _ => True) lw_Q := by
  refine MetFree.of_bodyS (code := code) (maxLocals := maxLocals) (ret := ret) (by decide) ?_ ?_
  · intro args s m h hn
    obtain ⟨meth, c, h1, h2, h3, h4, h5, h6, -, -⟩ := Cond.code_spec hn (atoms_spec (ws := Jvm.Cond.code x code maxLocals ret :: tables_1) h _ List.mem_cons_self)
    exact ⟨meth, c, h1, h2, h3, h4, h5, h6⟩
  · intro p e s m args below meth c s₁ B hml0 hP _
    obtain ⟨rfl, hx, hbd, hgv⟩ := hP
    obtain ⟨scr, harrAt, hlist, hof, hsmall⟩ := hx
    obtain ⟨hcb, hkn, -, -⟩ := State.arrayAt?_spec harrAt
    have hown : s.vm.findClass R_law = some m.cls := findClass_of_methodNamed B.named
    have hts0 : ∀ c ∈ (Jvm.Cond.code x code maxLocals ret :: tables_1), c.before #[Value.ref b] s = true := atoms_spec (ws := Jvm.Cond.code x code maxLocals ret :: tables_1) B.pre
    have hts : ∀ w ∈ lw_tbl, w.before #[Value.ref b] s = true := k2_hts_sels lw_privs (fun w hw => hts0 w (List.mem_cons_of_mem _ hw)) lw_privs_ok
    have hml : c.maxLocals = 15 := B.maxLocals_eq (hts0 _ List.mem_cons_self)
    have X₀ : Stand p l e room_1 s m #[Value.ref b] below meth c s₁ [] 0 0 := Stand.of_body B
    have hh0 : s₁.heap = s.heap := by rw [B.state]; rfl
    have hsz : scr.slots.size = xs.length := by rw [← Array.length_toList, hlist, List.length_map]
    have hval : ∀ j : Nat, j < xs.length → scr.slots[j]? = some (.int (xs.getD j 0)) := fun j hj => by
      rw [← Array.getElem?_toList, hlist]
      simp [hj]
    have hbl : b < s.heap.size := (Array.getElem?_eq_some_iff.mp hcb).1
    have hX : va_X b xs.length (fun j => xs.getD j 0) s s.heap := ⟨scr, hcb, hof, hkn, hsz, hval⟩
    have K : W p l e room_1 s m #[Value.ref b] below meth c s₁.heap [] 0 0 (lw_Z below #[Value.ref b] s) (entryFrame m ([Value.ref b] : List Value).toArray 15) := by
      rw [hh0]
      exact whole_start l hflags hbd ⟨B.exec, B.bytes, B.returns, hml, hown, hts, hX, hbl, B.notSynchronized, hgv, (name_of_methodNamed B.named B.method).1⟩
    obtain ⟨t, a1, o, b1, b2, b3⟩ := K s₁ rfl X₀
    exact ⟨t, o, a1, b1, b2, b3⟩
theorem lw_pre_spec {args : Array Value} {s : State} (h : (Jvm.Cond.and given_1 narrow_1).before args s = true) (hr : rest_1_c.before args s = true) : ∃ (b : Addr) (xs : List Int32), lw_P b xs args s := by
  have hs := flat_of_before _ h
  have hq := flat_of_before _ hr
  have hc : (Cond.count 1).before args s = true := hs _ (by decide +kernel)
  have harr : (Cond.arrayOf (.arg 0) .int).before args s = true := hs _ (by decide +kernel)
  have hle : (Cond.le (.length (.arg 0)) (.int 260)).before args s = true := hs _ (by decide +kernel)
  have hlen : (Cond.isInt (.length (.arg 0))).before args s = true := hq _ (by decide +kernel)
  have hall : (Cond.all (.arg 0) (.isInt (.elem (.arg 0) (.index 0)))).before args s = true := hq _ (by decide +kernel)
  obtain ⟨b, xs, hb, hx⟩ := State.ints_of_pre rfl harr hlen hall
  have hsm : xs.length < 2 ^ 31 := hx.choose_spec.2.2.2
  have hev : (Term.length (.arg 0)).eval args s none [] s = some (.int xs.length.toInt32) := hx.length_eval hb
  have hv := Cond.le_ints hev (show (Term.int 260).eval args s none [] s = some (.int 260) from rfl)
  have hd : xs.length.toInt32 ≤ 260 := by
    simpa [Cond.before, Cond.holds, hv] using hle
  have hN : xs.length ≤ 260 := (Int32.ofNat_le_ofNat hsm (by decide)).mp (show Int32.ofNat xs.length ≤ Int32.ofNat 260 from hd)
  exact ⟨b, xs, Cond.one_arg hc (show args[0]? = some (.ref b) from hb), hx, hN, h⟩
theorem lw_comes (l : Launch) (hflags : l.flags = flags0) : Comes l x (Jvm.Cond.code x code maxLocals ret :: tables_1) room_1 (fun tb e args s => Calls_1 tb e args s ∧ rest_1 tb e args s ∧ Pre_1 tb e args s)
    (fun _ _ args s o t => lw_Q args s o t) := by
  intro p e ha hc hk s m args below hf hfit hheap happ hpre
  obtain ⟨b, xs, hP⟩ := lw_pre_spec hpre.2.2 hpre.2.1
  obtain ⟨k, o, h1, h2, h3, hQ⟩ := lw_walk l hflags b xs p e ha hc hk s m args below hf ((Spec.applies_iff_loose hf).mp happ).1 hP trivial
  exact ⟨k, o, h1, h2, h3, hQ⟩
theorem lw_frame {s t : State} {o : Outcome} {args : Array Value} (h : Framed s o t [] 600086 7301442) :
    Framed s o t (fieldLocs frame_1_writes args s ++ arrayLocs frame_1_arrays args s ++ staticLocs frame_1_statics s) 600086 7301442 := h
theorem lw_limb (L : Cond) (hL : ∀ (args : Array Value) (s t : State), L.after args s (.returned (some (.int 1))) t = true) :
    ArmFor flags0 classFile x code maxLocals ret World_1 tables_1 room_1 Calls_1 rest_1 Pre_1
      (fun tb e a s o t => postC L tb e a s o t ∧ Framed s o t (fieldLocs frame_1_writes a s ++ arrayLocs frame_1_arrays a s ++ staticLocs frame_1_statics s) 600086 7301442) := by
  intro l hflags _ _ p e ha hc hk s m args below hf hfit hheap happ hpre
  obtain ⟨k, o, h1, h2, h3, rfl, hF⟩ := lw_comes l hflags p e ha hc hk s m args below hf hfit hheap happ hpre
  exact ⟨k, _, h1, h2, h3, hL args s _, lw_frame hF⟩
theorem i_vc : Claimed_1_1 ∧ Claimed_1_2 := ⟨lw_limb limb_1_1 (fun args s t => by simp [limb_1_1, Cond.after, Cond.holds, Cond.value]), lw_limb limb_1_2 (fun args s t => Cond.after_iff.mpr (by
  first | (rw [show limb_1_2 = Cond.eq .result (.int 1) from rfl, Cond.eq_ints (x := 1) (y := 1) rfl rfl]; simp; done) | (simp [limb_1_2, Cond.value, Term.eval]; done)))⟩
