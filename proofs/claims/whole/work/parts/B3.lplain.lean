/-! the law's plain calls -/
section ZLW
variable {G : zG} {d n L : Nat} {xs : Nat → Int32} {σ σ1 : zMem} {Q : zRes → zMem → Prop} {i k v T : Int} {S S1 S2 : zS} {Sn : Int → Int} {sf cc ep : Int} {t : Int → Int} {l : List Int} {vv cap : Nat} {r : zRes} {P : Nat → Int → Prop}
theorem lq_cop0 (hs : lSh σ) (hb : lB n σ) (hv : lVv vv) (hc : lCl S Sn sf cc ep t l vv cap σ) (hm : lMd S1 Sn sf cc ep t l σ) (h : cop 0 v B0 σ r σ1) : r = .inl (some (zI v)) ∧ zn σ1 = zn σ ∧ (lSh σ1 ∧ lB n σ1) ∧ lCl S Sn sf cc ep t l vv cap σ1 ∧ lMd S1 Sn sf cc ep t l σ1 := by
  rcases h with ⟨_, e, f⟩ | ⟨e, _⟩ | ⟨e, _⟩
  · exact ⟨e, f.1, ⟨hs.fr f, hb.fr f⟩, hc.sc hs hv f, hm.fB fB_sc f⟩
  · exact absurd e (by decide)
  · exact absurd e (by decide)
theorem lq_copM0 (hs : lSh σ) (hb : lB n σ) (hv : lVv vv) (hc : lCl S Sn sf cc ep t l vv cap σ) (hm : lMd S1 Sn sf cc ep t l σ) (h : copM 0 v S2 B0 σ r σ1) : r = .inl (some (zI v)) ∧ zn σ1 = zn σ ∧ (lSh σ1 ∧ lB n σ1) ∧ lCl S2 Sn sf cc ep t l vv cap σ1 ∧ lMd S1 Sn sf cc ep t l σ1 := by
  rcases h with ⟨_, e, f, q⟩ | ⟨e, _⟩ | ⟨e, _⟩
  · exact ⟨e, f.1, ⟨hs.fr f, hb.fr f⟩, hc.mu hv f q, hm.fB fB_mu f⟩
  · exact absurd e (by decide)
  · exact absurd e (by decide)
theorem mop_5 (h : r = .inl (some (zI v)) ∧ σ1 = zsi σ 228 ((5 : Nat) : Int) 0) : mop 0 v 228 A0 σ r σ1 := by
  obtain ⟨a, b⟩ := h
  subst b
  exact ⟨v, a, zFr_si (Or.inl ⟨rfl, Or.inl rfl⟩) zFr.rf, zsi_same _ _ _ _, fun _ => rfl⟩
theorem lJ_sn (J : lJ n S Sn sf cc ep t l vv cap σ) : ∃ Sn', lJ n S Sn' sf cc ep t l vv cap σ ∧ gN n Sn' ∧ cE S.1 Sn' := by
  by_cases z : sf = 0
  · obtain ⟨a, ⟨hD, hT, hL⟩, ⟨hc, hc2⟩, ⟨hm, hm2⟩⟩ := J
    exact ⟨S.1, ⟨a, ⟨⟨hD.1, hD.2.1, hD.2.2.1, hD.2.2.2.1, hD.2.2.2.2.1, fun q => absurd z q⟩, hT, hL⟩, ⟨⟨hc.1, hc.2.1, hc.2.2.1, fun q => absurd z q⟩, hc2⟩, ⟨⟨hm.1, hm.2.1, fun q => absurd z q, hm.2.2.2⟩, hm2⟩⟩, hD.1.n, cE.rf⟩
  · have q := J.2.1.1.2.2.2.2.2 z
    exact ⟨Sn, J, q.1, q.2.1⟩
theorem lq_end {P1 P2 : Nat} {off : Int} (hd : decode cL_law P1 = .ok (.if_icmp .eq off, 3)) (ht : (P1 : Int) + off = ((2286 : Nat) : Int)) (hp : P1 + 3 = P2) {x v : Int} (e : x = v) (K : zF G mL_law (d + 40) 2286 (lLs i) [] σ Q) : zF G mL_law (d + 40) P1 (lLs i) [zI x, zI v] σ Q := by
  subst e
  exact zF_wI2 (zF_icmp_eq 2286 P2 hd ht hp (zw32_rg _) (zw32_rg _) (fun _ => K) (fun c => absurd rfl c))
theorem lw_bestMove (hg : lGd G L xs) (i0 : 0 ≤ i) (i6 : i + 6 ≤ (L : Int)) (hn : n < 512) (J : lI n σ) (K : ∀ σ1, lI (n + 1) σ1 → zF G mL_law (d + 40) 2286 (lLs i) [] σ1 Q) : zF G mL_law (d + 40) 1321 (lLs i) [] σ Q := by
  obtain ⟨S, Sn, sf, cc, ep, t, l, vv, cap, J⟩ := J
  obtain ⟨⟨hs, hb, hv⟩, ⟨hD, hT, hL⟩, hc, hm⟩ := id J
  obtain ⟨hGd, hG, hOD, hOP, hX, hNx⟩ := hg
  have gn := hD.gn
  have hR := hc.1.1.1
  have hTm : ((n : Nat) : Int) < 1000000 := by omega
  have hTc : ((n : Nat) : Int) ≤ 20000 := by omega
  show zF G mL_law (d + 40) 1321 [(0, zR (zbg + 500)), (1, zR (B0 0)), (2, zR 228), (3, zR 245), (4, zI i)] [] σ _
  refine zF_aload_n 1322 dL_law_1321 rfl rfl ?_
  refine zF_callV 1325 (d2 := d + 11) (as := []) dL_law_1322 rfl kLX11_bestMove iX11_bestMove (ci := 11) rfl eX11_bestMove (by omega) hs.bk hs.bl rfl rfl (Nat.le_of_ble_eq_true rfl) (zE.mono (zt_X11_bestMove hGd hs.cO hR gn.v hs.cPr hc.1.2.1 gn.q) fun r σ1 hh => ?_)
  obtain ⟨er, en, ⟨s1, b1⟩, c1, m1⟩ := lq_cop0 hs hb hv hc hm hh
  subst er
  refine ⟨en, ?_⟩
  show zF G _ _ _ _ [zI _] σ1 _
  have hN1 := m1.1.1.1
  refine zF_aload_n 1326 dL_law_1325 rfl rfl ?_
  refine zF_callV 1329 (d2 := d + 16) (as := []) dL_law_1326 rfl kLX12_bestMove iX12_bestMove (ci := 12) rfl eX12_bestMove (by omega) s1.zMo.1 s1.zMo.2.1 rfl rfl (Nat.le_of_ble_eq_true rfl) (zE.mono (zt_X12_bestMove s1.zMo hN1 gn.v gn.w gn.x gn.q) fun r σ2 hh2 => ?_)
  obtain ⟨x, er2, en2, e5, ex, eo, ⟨s2, b2⟩, c2, m2⟩ := lq_mop s1 b1 hv c1 m1 hh2
  subst er2
  refine ⟨en2, ?_⟩
  show zF G _ _ _ _ [zI x, zI _] σ2 _
  refine lq_end dL_law_1329 rfl rfl (ex rfl) ?_
  exact K σ2 ⟨S, Sn, sf, cc, ep, t, l, vv, cap, ⟨s2, b2.up hn, hv⟩, ⟨hD.up (by push_cast; omega), hT, hL⟩, c2, m2⟩
theorem lw_undoCount (hg : lGd G L xs) (i0 : 0 ≤ i) (i6 : i + 6 ≤ (L : Int)) (hn : n < 512) (J : lI n σ) (K : ∀ σ1, lI (n + 1) σ1 → zF G mL_law (d + 40) 2286 (lLs i) [] σ1 Q) : zF G mL_law (d + 40) 2180 (lLs i) [] σ Q := by
  obtain ⟨S, Sn, sf, cc, ep, t, l, vv, cap, J⟩ := J
  obtain ⟨⟨hs, hb, hv⟩, ⟨hD, hT, hL⟩, hc, hm⟩ := id J
  obtain ⟨hGd, hG, hOD, hOP, hX, hNx⟩ := hg
  have gn := hD.gn
  have hR := hc.1.1.1
  have hTm : ((n : Nat) : Int) < 1000000 := by omega
  have hTc : ((n : Nat) : Int) ≤ 20000 := by omega
  show zF G mL_law (d + 40) 2180 [(0, zR (zbg + 500)), (1, zR (B0 0)), (2, zR 228), (3, zR 245), (4, zI i)] [] σ _
  refine zF_aload_n 2181 dL_law_2180 rfl rfl ?_
  refine zF_callV 2184 (d2 := d + 10) (as := []) dL_law_2181 rfl kLX11_undoCount iX11_undoCount (ci := 11) rfl eX11_undoCount (by omega) hs.bk hs.bl rfl rfl (Nat.le_of_ble_eq_true rfl) (zE.mono (zt_X11_undoCount hGd hs.cO hs.cHs hc.1.1 hD.gs) fun r σ1 hh => ?_)
  obtain ⟨er, en, ⟨s1, b1⟩, c1, m1⟩ := lq_cop0 hs hb hv hc hm (zop_cop hh)
  subst er
  refine ⟨en, ?_⟩
  show zF G _ _ _ _ [zI _] σ1 _
  have hN1 := m1.1.1.1
  refine zF_aload_n 2185 dL_law_2184 rfl rfl ?_
  refine zF_callV 2188 (d2 := d + 6) (as := []) dL_law_2185 rfl kLX12_undoCount iX12_undoCount (ci := 12) rfl eX12_undoCount (by omega) s1.zMo.1 s1.zMo.2.1 rfl rfl (Nat.le_of_ble_eq_true rfl) (zE.mono (zt_X12_undoCount s1.zMo m1.1.1 hD.gs) fun r σ2 hh2 => ?_)
  obtain ⟨x, er2, en2, e5, ex, eo, ⟨s2, b2⟩, c2, m2⟩ := lq_mop s1 b1 hv c1 m1 (mop_5 hh2)
  subst er2
  refine ⟨en2, ?_⟩
  show zF G _ _ _ _ [zI x, zI _] σ2 _
  refine lq_end dL_law_2188 rfl rfl (ex rfl) ?_
  exact K σ2 ⟨S, Sn, sf, cc, ep, t, l, vv, cap, ⟨s2, b2.up hn, hv⟩, ⟨hD.up (by push_cast; omega), hT, hL⟩, c2, m2⟩
theorem lw_close (hg : lGd G L xs) (i0 : 0 ≤ i) (i6 : i + 6 ≤ (L : Int)) (hn : n < 512) (J : lI n σ) (K : ∀ σ1, lI (n + 1) σ1 → zF G mL_law (d + 40) 2286 (lLs i) [] σ1 Q) : zF G mL_law (d + 40) 1838 (lLs i) [] σ Q := by
  obtain ⟨S, Sn, sf, cc, ep, t, l, vv, cap, J⟩ := J
  obtain ⟨⟨hs, hb, hv⟩, ⟨hD, hT, hL⟩, hc, hm⟩ := id J
  obtain ⟨hGd, hG, hOD, hOP, hX, hNx⟩ := hg
  have gn := hD.gn
  have hR := hc.1.1.1
  have hTm : ((n : Nat) : Int) < 1000000 := by omega
  have hTc : ((n : Nat) : Int) ≤ 20000 := by omega
  show zF G mL_law (d + 40) 1838 [(0, zR (zbg + 500)), (1, zR (B0 0)), (2, zR 228), (3, zR 245), (4, zI i)] [] σ _
  refine zF_aload_n 1839 dL_law_1838 rfl rfl ?_
  refine zF_callV 1842 (d2 := d + 14) (as := []) dL_law_1839 rfl kLX11_close iX11_close (ci := 11) rfl eX11_close (by omega) hs.bk hs.bl rfl rfl (Nat.le_of_ble_eq_true rfl) (zE.mono (zt_X11_close hGd hs.cO hs.cHs hc.1.1 hD.gs hs.cCl hD.2.1 hTc) fun r σ1 hh => ?_)
  obtain ⟨er, en, ⟨s1, b1⟩, c1, m1⟩ := lq_copM0 hs hb hv hc hm hh
  subst er
  refine ⟨en, ?_⟩
  show zF G _ _ _ _ [zI _] σ1 _
  have hN1 := m1.1.1.1
  refine zF_aload_n 1843 dL_law_1842 rfl rfl ?_
  refine zF_callV 1846 (d2 := d + 16) (as := []) dL_law_1843 rfl kLX12_close iX12_close (ci := 12) rfl eX12_close (by omega) s1.zMo.1 s1.zMo.2.1 rfl rfl (Nat.le_of_ble_eq_true rfl) (zE.mono (zt_X12_close s1.zMo m1.1.1 hD.gs hD.2.1 hTc) fun r σ2 hh2 => ?_)
  obtain ⟨x, er2, en2, e5, ex, eo, ⟨s2, b2⟩, c2, m2⟩ := lq_mopM s1 b1 hv c1 m1 hh2
  subst er2
  refine ⟨en2, ?_⟩
  show zF G _ _ _ _ [zI x, zI _] σ2 _
  refine lq_end dL_law_1846 rfl rfl (ex rfl) ?_
  rw [if_pos rfl] at m2
  exact K σ2 ⟨_, Sn, sf, cc, ep, t, l, vv, cap, ⟨s2, b2.up hn, hv⟩, ⟨(lD_cl hD hTc).up (by push_cast; omega), hT, hL⟩, c2, m2⟩
theorem lw_undo (hg : lGd G L xs) (i0 : 0 ≤ i) (i6 : i + 6 ≤ (L : Int)) (hn : n < 512) (J : lI n σ) (K : ∀ σ1, lI (n + 1) σ1 → zF G mL_law (d + 40) 2286 (lLs i) [] σ1 Q) : zF G mL_law (d + 40) 2193 (lLs i) [] σ Q := by
  obtain ⟨S, Sn, sf, cc, ep, t, l, vv, cap, J⟩ := J
  obtain ⟨⟨hs, hb, hv⟩, ⟨hD, hT, hL⟩, hc, hm⟩ := id J
  obtain ⟨hGd, hG, hOD, hOP, hX, hNx⟩ := hg
  have gn := hD.gn
  have hR := hc.1.1.1
  have hTm : ((n : Nat) : Int) < 1000000 := by omega
  have hTc : ((n : Nat) : Int) ≤ 20000 := by omega
  show zF G mL_law (d + 40) 2193 [(0, zR (zbg + 500)), (1, zR (B0 0)), (2, zR 228), (3, zR 245), (4, zI i)] [] σ _
  refine zF_aload_n 2194 dL_law_2193 rfl rfl ?_
  refine zF_callV 2197 (d2 := d + 10) (as := []) dL_law_2194 rfl kLX11_undo iX11_undo (ci := 11) rfl eX11_undo (by omega) hs.bk hs.bl rfl rfl (Nat.le_of_ble_eq_true rfl) (zE.mono (zt_X11_undo hGd hs.cO hs.cHs hc.1.1 hD.gs) fun r σ1 hh => ?_)
  obtain ⟨er, en, ⟨s1, b1⟩, c1, m1⟩ := lq_copM0 hs hb hv hc hm hh
  subst er
  refine ⟨en, ?_⟩
  show zF G _ _ _ _ [zI _] σ1 _
  have hN1 := m1.1.1.1
  refine zF_aload_n 2198 dL_law_2197 rfl rfl ?_
  refine zF_callV 2201 (d2 := d + 6) (as := []) dL_law_2198 rfl kLX12_undo iX12_undo (ci := 12) rfl eX12_undo (by omega) s1.zMo.1 s1.zMo.2.1 rfl rfl (Nat.le_of_ble_eq_true rfl) (zE.mono (zt_X12_undo s1.zMo m1.1.1 hD.gs) fun r σ2 hh2 => ?_)
  obtain ⟨x, er2, en2, e5, ex, eo, ⟨s2, b2⟩, c2, m2⟩ := lq_mopM s1 b1 hv c1 m1 hh2
  subst er2
  refine ⟨en2, ?_⟩
  show zF G _ _ _ _ [zI x, zI _] σ2 _
  refine lq_end dL_law_2201 rfl rfl (ex rfl) ?_
  rw [if_pos rfl] at m2
  exact K σ2 ⟨_, Sn, sf, cc, ep, t, l, vv, cap, ⟨s2, b2.up hn, hv⟩, ⟨(lD_un hD).up (by push_cast; omega), hT, hL⟩, c2, m2⟩
theorem lw_restoreSnapshot (hg : lGd G L xs) (i0 : 0 ≤ i) (i6 : i + 6 ≤ (L : Int)) (hn : n < 512) (J : lI n σ) (K : ∀ σ1, lI (n + 1) σ1 → zF G mL_law (d + 40) 2286 (lLs i) [] σ1 Q) : zF G mL_law (d + 40) 2217 (lLs i) [] σ Q := by
  obtain ⟨S, Sn, sf, cc, ep, t, l, vv, cap, J⟩ := J
  obtain ⟨Sn, J, gs⟩ := lJ_sn J
  obtain ⟨⟨hs, hb, hv⟩, ⟨hD, hT, hL⟩, hc, hm⟩ := id J
  obtain ⟨hGd, hG, hOD, hOP, hX, hNx⟩ := hg
  have gn := hD.gn
  have hR := hc.1.1.1
  have hTm : ((n : Nat) : Int) < 1000000 := by omega
  have hTc : ((n : Nat) : Int) ≤ 20000 := by omega
  show zF G mL_law (d + 40) 2217 [(0, zR (zbg + 500)), (1, zR (B0 0)), (2, zR 228), (3, zR 245), (4, zI i)] [] σ _
  refine zF_aload_n 2218 dL_law_2217 rfl rfl ?_
  refine zF_callV 2221 (d2 := d + 10) (as := []) dL_law_2218 rfl kLX11_restoreSnapshot iX11_restoreSnapshot (ci := 11) rfl eX11_restoreSnapshot (by omega) hs.bk hs.bl rfl rfl (Nat.le_of_ble_eq_true rfl) (zE.mono (zt_X11_restoreSnapshot hGd hs.cO hs.cHs hc.1.1 hD.gs hc.1.2.2.1 hD.2.2.2.2.1 hc.1.2.2.2 gs) fun r σ1 hh => ?_)
  obtain ⟨er, en, ⟨s1, b1⟩, c1, m1⟩ := lq_copM0 hs hb hv hc hm hh
  subst er
  refine ⟨en, ?_⟩
  show zF G _ _ _ _ [zI _] σ1 _
  have hN1 := m1.1.1.1
  refine zF_aload_n 2222 dL_law_2221 rfl rfl ?_
  refine zF_callV 2225 (d2 := d + 6) (as := []) dL_law_2222 rfl kLX12_restoreSnapshot iX12_restoreSnapshot (ci := 12) rfl eX12_restoreSnapshot (by omega) s1.zMo.1 s1.zMo.2.1 rfl rfl (Nat.le_of_ble_eq_true rfl) (zE.mono (zt_X12_restoreSnapshot s1.zMo m1.1.1 hD.gs m1.1.2.1 hD.2.2.2.2.1 m1.1.2.2.1) fun r σ2 hh2 => ?_)
  obtain ⟨x, er2, en2, e5, ex, eo, ⟨s2, b2⟩, c2, m2⟩ := lq_mopM s1 b1 hv c1 m1 hh2
  subst er2
  refine ⟨en2, ?_⟩
  show zF G _ _ _ _ [zI x, zI _] σ2 _
  refine lq_end dL_law_2225 rfl rfl (ex rfl) ?_
  rw [if_pos rfl] at m2
  exact K σ2 ⟨_, Sn, sf, cc, ep, t, l, vv, cap, ⟨s2, b2.up hn, hv⟩, ⟨(lD_rs hD).up (by push_cast; omega), hT, hL⟩, c2, m2⟩
theorem lw_formattedByte (hg : lGd G L xs) (i0 : 0 ≤ i) (i6 : i + 6 ≤ (L : Int)) (hn : n < 512) (J : lI n σ) (K : ∀ σ1, lI (n + 1) σ1 → zF G mL_law (d + 40) 2286 (lLs i) [] σ1 Q) : zF G mL_law (d + 40) 2155 (lLs i) [] σ Q := by
  obtain ⟨S, Sn, sf, cc, ep, t, l, vv, cap, J⟩ := J
  obtain ⟨⟨hs, hb, hv⟩, ⟨hD, hT, hL⟩, hc, hm⟩ := id J
  obtain ⟨hGd, hG, hOD, hOP, hX, hNx⟩ := hg
  have gn := hD.gn
  have hR := hc.1.1.1
  show zF G mL_law (d + 40) 2155 [(0, zR (zbg + 500)), (1, zR (B0 0)), (2, zR 228), (3, zR 245), (4, zI i)] [] σ _
  refine zF_aload_n 2156 dL_law_2155 rfl rfl ?_
  refine zF_aload_n 2157 dL_law_2156 rfl rfl ?_
  refine zF_iload 2159 dL_law_2157 rfl rfl ?_
  refine zF_iconst 2160 dL_law_2159 rfl ?_
  refine zF_iadd 2161 dL_law_2160 rfl ?_
  refine zF_sload 2162 dL_law_2161 rfl hX (by omega) (by omega) ?_
  refine zF_callV 2165 (d2 := d + 6) (as := [zI (lx xs i 1)]) dL_law_2162 rfl kLX11_formattedByte iX11_formattedByte (ci := 11) rfl eX11_formattedByte (by omega) hs.bk hs.bl rfl rfl (Nat.le_of_ble_eq_true rfl) (zE.mono (zt_X11_formattedByte hG hs.cO hc.2.2 hL.2 (zrg_x _)) fun r σ1 hh => ?_)
  obtain ⟨er, es⟩ := hh
  subst er
  replace es := es.symm
  subst es
  refine ⟨rfl, ?_⟩
  show zF G _ _ _ _ [zI _] σ _
  have s1 := hs
  refine zF_aload_n 2166 dL_law_2165 rfl rfl ?_
  refine zF_aload_n 2167 dL_law_2166 rfl rfl ?_
  refine zF_iload 2169 dL_law_2167 rfl rfl ?_
  refine zF_iconst 2170 dL_law_2169 rfl ?_
  refine zF_iadd 2171 dL_law_2170 rfl ?_
  refine zF_sload 2172 dL_law_2171 rfl hX (by omega) (by omega) ?_
  refine zF_callV 2175 (d2 := d + 6) (as := [zI (lx xs i 1)]) dL_law_2172 rfl kLX12_formattedByte iX12_formattedByte (ci := 12) rfl eX12_formattedByte (by omega) s1.zMo.1 s1.zMo.2.1 rfl rfl (Nat.le_of_ble_eq_true rfl) (zE.mono (zt_X12_formattedByte s1.zMo hm.2.2 hL.1 (zrg_x _)) fun r σ2 hh2 => ?_)
  obtain ⟨x, er2, en2, e5, ex, eo, ⟨s2, b2⟩, c2, m2⟩ := lq_mop hs hb hv hc hm (mop_5 hh2)
  subst er2
  refine ⟨en2, ?_⟩
  show zF G _ _ _ _ [zI x, zI _] σ2 _
  refine lq_end dL_law_2175 rfl rfl (ex rfl) ?_
  exact K σ2 ⟨S, Sn, sf, cc, ep, t, l, vv, cap, ⟨s2, b2.up hn, hv⟩, ⟨hD.up (by push_cast; omega), hT, hL⟩, c2, m2⟩
theorem lw_errorPosition (hg : lGd G L xs) (i0 : 0 ≤ i) (i6 : i + 6 ≤ (L : Int)) (hn : n < 512) (J : lI n σ) (K : ∀ σ1, lI (n + 1) σ1 → zF G mL_law (d + 40) 2286 (lLs i) [] σ1 Q) : zF G mL_law (d + 40) 341 (lLs i) [] σ Q := by
  obtain ⟨S, Sn, sf, cc, ep, t, l, vv, cap, J⟩ := J
  obtain ⟨⟨hs, hb, hv⟩, ⟨hD, hT, hL⟩, hc, hm⟩ := id J
  obtain ⟨hGd, hG, hOD, hOP, hX, hNx⟩ := hg
  have gn := hD.gn
  have hR := hc.1.1.1
  show zF G mL_law (d + 40) 341 [(0, zR (zbg + 500)), (1, zR (B0 0)), (2, zR 228), (3, zR 245), (4, zI i)] [] σ _
  refine zF_aload_n 342 dL_law_341 rfl rfl ?_
  refine zF_callVi 345 (d2 := d) (as := []) dL_law_342 rfl kLX11_errorPosition iX11_errorPosition (ci := 11) rfl eX11_errorPosition (by omega) hs.bk hs.bl rfl rfl (Nat.le_of_ble_eq_true rfl) (zt_X11_errorPosition hs.cO) ?_
  have s1 := hs
  refine zF_aload_n 346 dL_law_345 rfl rfl ?_
  refine zF_callV 349 (d2 := d + 0) (as := []) dL_law_346 rfl kLX12_errorPosition iX12_errorPosition (ci := 12) rfl eX12_errorPosition (by omega) s1.zMo.1 s1.zMo.2.1 rfl rfl (Nat.le_of_ble_eq_true rfl) (zE.mono (zt_X12_errorPosition s1.zMo) fun r σ2 hh2 => ?_)
  obtain ⟨x, er2, en2, e5, ex, eo, ⟨s2, b2⟩, c2, m2⟩ := lq_mop hs hb hv hc hm (mop_5 hh2)
  subst er2
  refine ⟨en2, ?_⟩
  show zF G _ _ _ _ [zI x, zI _] σ2 _
  refine lq_end dL_law_349 rfl rfl ((ex rfl).trans (hm.2.1.2.1.trans hc.2.1.2.1.symm)) ?_
  exact K σ2 ⟨S, Sn, sf, cc, ep, t, l, vv, cap, ⟨s2, b2.up hn, hv⟩, ⟨hD.up (by push_cast; omega), hT, hL⟩, c2, m2⟩
def PSv (h : Nat) (j : Int) : Prop := (h = B0 600 ∧ j = 4) ∨ zRg 2000 2016 B0 h j
def PSm (h : Nat) (j : Int) : Prop := (h = 228 ∧ (j = 5 ∨ j = 6)) ∨ h = A0 2
theorem PSv_k {k : Nat} {j : Int} (q : PSv (B0 k) j) : (k = 600 ∧ j = 4) ∨ (2000 ≤ k ∧ k < 2016) := by
  rcases q with ⟨e, c⟩ | ⟨i, a, b, e⟩
  · exact Or.inl ⟨B0_inj _ _ e, c⟩
  · have := B0_inj _ _ e
    omega
theorem fB_sv : fB PSv := fun h j z => by
  rcases z with ⟨z, _⟩ | z
  · exact ⟨600, z⟩
  · exact fB_rg z
theorem fM_sv : fM PSm := fun h j z => by
  rcases z with ⟨e, _⟩ | e
  · exact Or.inl e
  · exact Or.inr ⟨2, e⟩
theorem lCl.sv (hv : lVv vv) (f : zFr PSv σ σ1) (h : lCl S Sn sf cc ep t l vv cap σ) (a : cST S σ1 B0) (b : cRs S.1 σ1 B0 2000) (c : zia σ1 (B0 600) ((4 : Nat) : Int) = 1) : lCl S S.1 1 cc ep t l vv cap σ1 :=
  ⟨⟨a, (f.2.2.2.2.2 _ _ fun q => by have := PSv_k q; omega).trans h.1.2.1, c, fun _ => b⟩, lTc_fr f (fun q => by have := PSv_k q; omega) (fun q => by have := PSv_k q; omega) (fun j q => by have := PSv_k q; omega) h.2.1, sbI_fr f (fun j q => by have := PSv_k q; omega) (fun j q => by
    obtain ⟨k, e⟩ := fB_sv _ _ q
    exact hv.b k e.symm) h.2.2⟩
theorem lMd.sv (f : zFr PSm σ σ1) (h : lMd S Sn sf cc ep t l σ) (a : mST S σ1 228 A0) (b : snap σ1 A0 = S.1) (c : zia σ1 228 ((6 : Nat) : Int) = 1) : lMd S S.1 1 cc ep t l σ1 := by
  have ea : ∀ k, k ≠ 2 → zia σ1 (A0 k) = zia σ (A0 k) := fun k q => f.at fun j z => by
    rcases z with ⟨e, _⟩ | e
    · exact A0_228 k e
    · exact q (A0_inj _ _ e)
  have em : ∀ j, j ≠ 5 → j ≠ 6 → zia σ1 228 j = zia σ 228 j := fun j q q2 => f.2.2.2.2.2 _ _ fun z => by
    rcases z with ⟨_, e⟩ | e
    · omega
    · exact absurd e.symm (A0_228 2)
  obtain ⟨⟨-, -, -, a6⟩, ⟨b1, b2, b3⟩, c1, c2⟩ := h
  exact ⟨⟨a, c, fun _ => b, fun j => by rw [ea 1 (by decide)]; exact a6 j⟩, ⟨(em _ (by decide) (by decide)).trans b1, (em _ (by decide) (by decide)).trans b2, fun j x y => by rw [ea 18 (by decide)]; exact b3 j x y⟩, (em _ (by decide) (by decide)).trans c1, fun j hj => by rw [ea 16 (by decide)]; exact c2 j hj⟩
theorem lw_saveSnapshot (hg : lGd G L xs) (i0 : 0 ≤ i) (i6 : i + 6 ≤ (L : Int)) (hn : n < 512) (J : lI n σ) (K : ∀ σ1, lI (n + 1) σ1 → zF G mL_law (d + 40) 2286 (lLs i) [] σ1 Q) : zF G mL_law (d + 40) 2206 (lLs i) [] σ Q := by
  obtain ⟨S, Sn, sf, cc, ep, t, l, vv, cap, J⟩ := J
  obtain ⟨⟨hs, hb, hv⟩, ⟨hD, hT, hL⟩, hc, hm⟩ := id J
  obtain ⟨hGd, hG, hOD, hOP, hX, hNx⟩ := hg
  have gn := hD.gn
  have hR := hc.1.1.1
  show zF G mL_law (d + 40) 2206 [(0, zR (zbg + 500)), (1, zR (B0 0)), (2, zR 228), (3, zR 245), (4, zI i)] [] σ _
  refine zF_aload_n 2207 dL_law_2206 rfl rfl ?_
  refine zF_callV 2210 (d2 := d + 10) (as := []) dL_law_2207 rfl kLX11_saveSnapshot iX11_saveSnapshot (ci := 11) rfl eX11_saveSnapshot (by omega) hs.bk hs.bl rfl rfl (Nat.le_of_ble_eq_true rfl) (zE.mono (zt_X11_saveSnapshot hGd hs.cO hs.cHs hc.1.1 hD.gs) fun r σ1 hh => ?_)
  obtain ⟨er, f, q1, q2, q3⟩ := hh
  subst er
  refine ⟨f.1, ?_⟩
  have s1 := hs.fr f
  have c1 := hc.sv hv f q1 q2 q3
  have m1 := hm.fB fB_sv f
  show zF G mL_law (d + 40) 2210 [(0, zR (zbg + 500)), (1, zR (B0 0)), (2, zR 228), (3, zR 245), (4, zI i)] [] σ1 _
  refine zF_aload_n 2211 dL_law_2210 rfl rfl ?_
  refine zF_callV 2214 (d2 := d + 6) (as := []) dL_law_2211 rfl kLX12_saveSnapshot iX12_saveSnapshot (ci := 12) rfl eX12_saveSnapshot (by omega) s1.zMo.1 s1.zMo.2.1 rfl rfl (Nat.le_of_ble_eq_true rfl) (zE.mono (zt_X12_saveSnapshot s1.zMo m1.1.1 hD.gs) fun r σ2 hh2 => ?_)
  obtain ⟨er2, f2, q4, q5, q6⟩ := hh2
  subst er2
  refine ⟨f2.1, ?_⟩
  show zF G mL_law (d + 40) 2214 [(0, zR (zbg + 500)), (1, zR (B0 0)), (2, zR 228), (3, zR 245), (4, zI i)] [] σ2 _
  refine zF_goto 2286 dL_law_2214 rfl ?_
  exact K σ2 ⟨S, S.1, 1, cc, ep, t, l, vv, cap, ⟨s1.fr f2, ((hb.fr f).fr f2).up hn, hv⟩, ⟨(lD_sv hD).up (by push_cast; omega), hT, hL⟩, c1.fM s1 hv fM_sv f2, m1.sv f2 q4 q5 q6⟩
theorem lw_dend {P1 : Nat} {u : UInt64} (hu : zD64 u) {off : Int} (d0 : decode cL_law P1 = .ok (.dload 5, 2)) (d2 : decode cL_law (P1 + 2) = .ok (.dload 7, 2)) (d4 : decode cL_law (P1 + 4) = .ok (.dcmp .l, 1)) (d5 : decode cL_law (P1 + 5) = .ok (.ifCond .eq 21, 3)) (d26 : decode cL_law (P1 + 26) = .ok (.goto off, 3)) (ht : ((P1 + 26 : Nat) : Int) + off = ((2286 : Nat) : Int)) (K : zF G mL_law (d + 40) 2286 (lLs i) [] σ Q) : zF G mL_law (d + 40) P1 ((7, zDb u) :: (5, zDb u) :: lLs i) [] σ Q := by
  refine zF_dload (P1 + 2) d0 rfl rfl ?_
  refine zF_dload (P1 + 4) d2 rfl rfl ?_
  refine zF_dcmp (P1 + 5) d4 rfl hu ?_
  refine zF_if_eq (P1 + 26) (P1 + 8) d5 (by push_cast; omega) rfl zrg0 (fun _ => ?_) (fun c => absurd rfl c)
  refine zF_goto 2286 d26 ht ?_
  exact zF_locs (ls' := lLs i) ⟨rfl, rfl, rfl, rfl, rfl, trivial⟩ K
theorem lw_meanTakings (hg : lGd G L xs) (i0 : 0 ≤ i) (i6 : i + 6 ≤ (L : Int)) (hn : n < 512) (J : lI n σ) (K : ∀ σ1, lI (n + 1) σ1 → zF G mL_law (d + 40) 2286 (lLs i) [] σ1 Q) : zF G mL_law (d + 40) 1458 (lLs i) [] σ Q := by
  obtain ⟨S, Sn, sf, cc, ep, t, l, vv, cap, J⟩ := J
  obtain ⟨⟨hs, hb, hv⟩, ⟨hD, hT, hL⟩, hc, hm⟩ := id J
  obtain ⟨hGd, hG, hOD, hOP, hX, hNx⟩ := hg
  have gn := hD.gn
  have hR := hc.1.1.1
  show zF G mL_law (d + 40) 1458 [(0, zR (zbg + 500)), (1, zR (B0 0)), (2, zR 228), (3, zR 245), (4, zI i)] [] σ _
  refine zF_aload_n 1459 dL_law_1458 rfl rfl ?_
  refine zF_callV 1462 (d2 := d + 10) (as := []) dL_law_1459 rfl kLX11_meanTakings iX11_meanTakings (ci := 11) rfl eX11_meanTakings (by omega) hs.bk hs.bl rfl rfl (Nat.le_of_ble_eq_true rfl) (zE.mono (zt_X11_meanTakings hs.cO hR gn.v) fun r σ1 hh => ?_)
  obtain ⟨er, es⟩ := hh
  subst er
  replace es := es.symm
  subst es
  refine ⟨rfl, ?_⟩
  have hu := oMean_D gn.v
  show zF G _ _ _ _ [zDb _] σ _
  refine zF_dstore 1464 (ls' := (5, zDb (oMean S.1)) :: lLs i) dL_law_1462 rfl (by decide) rfl ?_
  have s1 := hs
  have hN1 := hm.1.1.1
  refine zF_aload_n 1465 dL_law_1464 rfl rfl ?_
  refine zF_callV 1468 (d2 := d + 12) (as := []) dL_law_1465 rfl kLX12_meanTakings iX12_meanTakings (ci := 12) rfl eX12_meanTakings (by omega) s1.zMo.1 s1.zMo.2.1 rfl rfl (Nat.le_of_ble_eq_true rfl) (zE.mono (zt_X12_meanTakings s1.zMo hN1 gn.v) fun r σ2 hh2 => ?_)
  obtain ⟨er2, es2⟩ := hh2
  subst er2
  obtain ⟨x, er3, en2, e5, ex, eo, ⟨s2, b2⟩, c2, m2⟩ := lq_mop (r := .inl (some (zI 0))) (v := 0) hs hb hv hc hm (mop_5 ⟨rfl, es2⟩)
  refine ⟨en2, ?_⟩
  show zF G _ _ _ _ [zDb _] σ2 _
  refine zF_dstore 1470 (ls' := (7, zDb (oMean S.1)) :: (5, zDb (oMean S.1)) :: lLs i) dL_law_1468 rfl (by decide) rfl ?_
  refine lw_dend (P1 := 1470) hu dL_law_1470 dL_law_1472 dL_law_1474 dL_law_1475 dL_law_1496 (by decide) ?_
  exact K σ2 ⟨S, Sn, sf, cc, ep, t, l, vv, cap, ⟨s2, b2.up hn, hv⟩, ⟨hD.up (by push_cast; omega), hT, hL⟩, c2, m2⟩
theorem lw_filled (hg : lGd G L xs) (i0 : 0 ≤ i) (i6 : i + 6 ≤ (L : Int)) (hn : n < 512) (J : lI n σ) (K : ∀ σ1, lI (n + 1) σ1 → zF G mL_law (d + 40) 2286 (lLs i) [] σ1 Q) : zF G mL_law (d + 40) 1499 (lLs i) [] σ Q := by
  obtain ⟨S, Sn, sf, cc, ep, t, l, vv, cap, J⟩ := J
  obtain ⟨⟨hs, hb, hv⟩, ⟨hD, hT, hL⟩, hc, hm⟩ := id J
  obtain ⟨hGd, hG, hOD, hOP, hX, hNx⟩ := hg
  have gn := hD.gn
  have hR := hc.1.1.1
  show zF G mL_law (d + 40) 1499 [(0, zR (zbg + 500)), (1, zR (B0 0)), (2, zR 228), (3, zR 245), (4, zI i)] [] σ _
  refine zF_aload_n 1500 dL_law_1499 rfl rfl ?_
  refine zF_callV 1503 (d2 := d + 10) (as := []) dL_law_1500 rfl kLX11_filled iX11_filled (ci := 11) rfl eX11_filled (by omega) hs.bk hs.bl rfl rfl (Nat.le_of_ble_eq_true rfl) (zE.mono (zt_X11_filled hs.cO hR gn.v gn.w hD.2.2.1) fun r σ1 hh => ?_)
  obtain ⟨er, es⟩ := hh
  subst er
  replace es := es.symm
  subst es
  refine ⟨rfl, ?_⟩
  have hf := oFill_D gn.v hD.2.2.1
  have hu := zf2d_D hf
  show zF G _ _ _ _ [zFl _] σ _
  refine zF_f2d 1504 dL_law_1503 rfl hf ?_
  refine zF_dstore 1506 (ls' := (5, zDb (FP.f2d (oFill S.1))) :: lLs i) dL_law_1504 rfl (by decide) rfl ?_
  have s1 := hs
  have hN1 := hm.1.1.1
  refine zF_aload_n 1507 dL_law_1506 rfl rfl ?_
  refine zF_callV 1510 (d2 := d + 12) (as := []) dL_law_1507 rfl kLX12_filled iX12_filled (ci := 12) rfl eX12_filled (by omega) s1.zMo.1 s1.zMo.2.1 rfl rfl (Nat.le_of_ble_eq_true rfl) (zE.mono (zt_X12_filled s1.zMo hN1 gn.v gn.w hD.2.2.1) fun r σ2 hh2 => ?_)
  obtain ⟨er2, f2, _⟩ := hh2
  subst er2
  refine ⟨f2.1, ?_⟩
  have s2 := hs.fr f2
  have b2 := hb.fr f2
  have c2 := hc.fM hs hv fM_sc f2
  have m2 := hm.sc f2
  show zF G _ _ _ _ [zFl _] σ2 _
  refine zF_f2d 1511 dL_law_1510 rfl hf ?_
  refine zF_dstore 1513 (ls' := (7, zDb (FP.f2d (oFill S.1))) :: (5, zDb (FP.f2d (oFill S.1))) :: lLs i) dL_law_1511 rfl (by decide) rfl ?_
  refine lw_dend (P1 := 1513) hu dL_law_1513 dL_law_1515 dL_law_1517 dL_law_1518 dL_law_1539 (by decide) ?_
  exact K σ2 ⟨S, Sn, sf, cc, ep, t, l, vv, cap, ⟨s2, b2.up hn, hv⟩, ⟨hD.up (by push_cast; omega), hT, hL⟩, c2, m2⟩
end ZLW
