theorem law_end {p : Program} {l : Launch} {e : Env} {s : State} {m : MethodId} {below : List Frame} {meth : Method} {c : Code} {b : Nat} {A : Nat → Prop} (hx : p.tables.exec = Jvm.exec) (hb : c.code = cL_law) (hr : meth.sig.returnType = ret) (hlocks : meth.locks = false) (hAs : ∀ q, A q → s.heap.size ≤ q) {H : Heap} {locs : List Loc} (hS : va_S A s.heap H locs) {cells slots : Nat} (hc : cells ≤ 600006) (hsl : slots ≤ 7302032) {ls : Array Slot} : W p l e room_1 s m #[Value.ref b] below meth c H locs cells slots (lw_Z below #[Value.ref b] s) (F0 m 2441 ls []) := by
  refine W.widen (k := 600006) (n := 7302032) hc hsl ?_
  refine W.eq (g2 := F0 m 2441 ls []) rfl ?_
  refine lv_iconst (v := 1) hx hb dL_law_2441 (by decide) ?_
  exact W.forget (locs := []) (fun q hq => hAs _ (hS.2.2 q hq)) (lw_ret (d0 := s.drawn) (Drawn.sameBut.refl _ _) hx hb hr hlocks dL_law_2442)
theorem law_tail {p : Program} {l : Launch} {e : Env} {s : State} {m : MethodId} {below : List Frame} {meth : Method} {c : Code} {b : Nat} {xs : Nat → Int32} {A : Nat → Prop} (hl0 : l.stackTraces = false) (hx : p.tables.exec = Jvm.exec) (hb : c.code = cL_law) (hr : meth.sig.returnType = ret) (hml : c.maxLocals = 9) (hown : s.vm.findClass RL = some m.cls) (hts : ∀ w ∈ lw_all, w.before #[Value.ref b] s = true) (hX : va_X b 7 xs s s.heap) (hbl : b < s.heap.size) (hlocks : meth.locks = false) {N0 ade : Nat} {adB : Nat → Nat} (hT : BT N0 ade adB s) (hAN : ∀ q, A q → KA N0 q) (hA : ∀ q, s.heap.size ≤ q → A q) (hN : N0 ≤ s.heap.size) (hbA : ¬ A b) (hAs : ∀ q, A q → s.heap.size ≤ q) {H : Heap} {locs : List Loc} (hS : va_S A s.heap H locs) {cells slots : Nat} (hc : cells ≤ 600006) (hsl : slots ≤ 7302032) {ls : Array Slot} (hl : lv_has ls 9 [(5, .int 0), (0, .ref b)]) : W p l e room_1 s m #[Value.ref b] below meth c H locs cells slots (lw_Z below #[Value.ref b] s) (F0 m 2435 ls []) := by
  refine lv_iinc (v := 7) (lv' := [(5, .int 7), (0, .ref b)]) hx hb dL_law_2435 hl (k := 0) rfl (by decide) (by decide) rfl (fun ls hl => ?_)
  refine lv_goto (tgt := 28) hx hb dL_law_2438 (by decide) ?_
  refine lv_iload hx hb dL_law_28 (lv_at hl 0 rfl) ?_
  refine lv_aload_n hx hb dL_law_30 rfl (lv_at hl 1 rfl) ?_
  refine va_slen hx hb hX hbl hbA hS dL_law_31 ?_
  refine lv_bipush (v := 7) hx hb dL_law_32 (by decide) ?_
  refine lv_isub hx hb dL_law_34 ?_
  refine lv_icmp_gt (tgt := 2441) hx hb dL_law_35 (by decide) (fun _ => ?_) (fun h_ => absurd (show (7 : Int32) > Int32.ofNat 7 - 7 by decide) h_)
  exact law_end hx hb hr hlocks hAs hS hc hsl
set_option maxHeartbeats 4000000 in
set_option maxRecDepth 100000 in
theorem law_fly {p : Program} {l : Launch} {e : Env} {s : State} {m : MethodId} {below : List Frame} {meth : Method} {c : Code} {b : Nat} {xs : Nat → Int32} {A : Nat → Prop} (hl0 : l.stackTraces = false) (hx : p.tables.exec = Jvm.exec) (hb : c.code = cL_law) (hr : meth.sig.returnType = ret) (hml : c.maxLocals = 9) (hown : s.vm.findClass RL = some m.cls) (hts : ∀ w ∈ lw_all, w.before #[Value.ref b] s = true) (hX : va_X b 7 xs s s.heap) (hbl : b < s.heap.size) (hlocks : meth.locks = false) {N0 ade : Nat} {adB : Nat → Nat} (hT : BT N0 ade adB s) (hAN : ∀ q, A q → KA N0 q) (hA : ∀ q, s.heap.size ≤ q → A q) (hN : N0 ≤ s.heap.size) (hbA : ¬ A b) (hAs : ∀ q, A q → s.heap.size ≤ q) {G : va_G} {x : Nat} {dy : Nat} {ag : Nat} {qch : Nat} {qsh : Nat} {qsc : Nat} {pl : Nat} {qfl : Nat} {qac : Nat} {qcr : Nat} {qfg : Nat} {qgr : Nat} {qme : Nat} {qsf : Nat} {qsb : Nat} {qtu : Nat} {afl : ClassId} {ffl : Nat → Int32} {ou : Nat} {alo : ClassId} {fo : Nat → Int64} {mo_ : Nat} {ti : Nat} {mfl : Nat} {mcr : Nat} {mst : Nat} {mtu : Nat} {mfg : Nat} {mgr : Nat} {mme : Nat} {ati : ClassId} {fti : Nat → Option Nat} {acy : ClassId} {r0 : Nat} {r1 : Nat} {r2 : Nat} {r3 : Nat} {g0 : Nat → Int32} {g1 : Nat → Int32} {g2 : Nat → Int32} {g3 : Nat → Int32} {oud : Nat} (hfl : ∀ j : Nat, j < 16 → ffl j = 60) (hr0 : fti (Int32.toNatClampNeg 0) = some r0) (hr1 : fti (Int32.toNatClampNeg 1) = some r1) (hr2 : fti (Int32.toNatClampNeg 2) = some r2) (hr3 : fti (Int32.toNatClampNeg 3) = some r3) (hg0 : ∀ j : Nat, j < 4 → g0 j = 60) (hg1 : ∀ j : Nat, j < 4 → g1 j = 60) (hg2 : ∀ j : Nat, j < 4 → g2 j = 60) (hg3 : ∀ j : Nat, j < 4 → g3 j = 60) {H : Heap} {locs : List Loc} (hP : va_P G vwCl [(x, .inr (17, [.ref pl, .ref dy, .ref ag, .ref qch, .ref qsh, .ref qsc, .int 0, .int 0])), (pl, .inr (16, [.ref qfl, .ref qac, .ref qcr, .ref qfg, .ref qgr, .ref qme, .ref qsf, .ref qsb, .ref qtu, .int 0, .int 0, .int 0, .int 0, .int 0, .int 0, .int 0, .int 0, .int (-1), .int 1])), (qfl, .inl (afl, 16, .inl ffl)), (ou, .inl (alo, 1, .inr (.inl fo))), (mo_, .inr (25, [.ref ti, .ref mfl, .ref mcr, .ref mst, .ref mtu, .int 1, .int 0, .int 1, .ref mfg, .ref mgr, .ref mme, .null, .int 0])), (ti, .inl (ati, 4, .inr (.inr (.inr (.inr fti))))), (r0, .inl (acy, 4, .inl g0)), (r1, .inl (acy, 4, .inl g1)), (r2, .inl (acy, 4, .inl g2)), (r3, .inl (acy, 4, .inl g3))] H) (hD : va_D A [(x, .inr (17, [.ref pl, .ref dy, .ref ag, .ref qch, .ref qsh, .ref qsc, .int 0, .int 0])), (pl, .inr (16, [.ref qfl, .ref qac, .ref qcr, .ref qfg, .ref qgr, .ref qme, .ref qsf, .ref qsb, .ref qtu, .int 0, .int 0, .int 0, .int 0, .int 0, .int 0, .int 0, .int 0, .int (-1), .int 1])), (qfl, .inl (afl, 16, .inl ffl)), (ou, .inl (alo, 1, .inr (.inl fo))), (mo_, .inr (25, [.ref ti, .ref mfl, .ref mcr, .ref mst, .ref mtu, .int 1, .int 0, .int 1, .ref mfg, .ref mgr, .ref mme, .null, .int 0])), (ti, .inl (ati, 4, .inr (.inr (.inr (.inr fti))))), (r0, .inl (acy, 4, .inl g0)), (r1, .inl (acy, 4, .inl g1)), (r2, .inl (acy, 4, .inl g2)), (r3, .inl (acy, 4, .inl g3))]) (hK : va_K G vwCl [(afl, .int), (alo, .long), (ati, .array .int), (acy, .int)] s) (hS : va_S A s.heap H locs) {ls : Array Slot} (hl : lv_has ls 9 [(5, .int 0), (4, .ref oud), (3, .ref ou), (2, .ref mo_), (1, .ref x), (0, .ref b)]) : W p l e room_1 s m #[Value.ref b] below meth c H locs 160 21200 (lw_Z below #[Value.ref b] s) (F0 m 204 ls []) := by
  refine lv_aload_n hx hb dL_law_204 rfl (lv_at hl 4 rfl) ?_
  refine lv_aload_n hx hb dL_law_205 rfl (lv_at hl 5 rfl) ?_
  refine lv_iload hx hb dL_law_206 (lv_at hl 0 rfl) ?_
  refine lv_iconst (v := 1) hx hb dL_law_208 (by decide) ?_
  refine lv_iadd hx hb dL_law_209 ?_
  refine lv_topi (fun v_ e_ => ?_)
  obtain rfl : v_ = 1 := e_.trans (by decide)
  refine va_sld hx hb hX hbl hbA hS (vin (by decide +kernel)) dL_law_210 ?_
  refine lv_aload_n hx hb dL_law_211 rfl (lv_at hl 5 rfl) ?_
  refine lv_iload hx hb dL_law_212 (lv_at hl 0 rfl) ?_
  refine lv_iconst (v := 2) hx hb dL_law_214 (by decide) ?_
  refine lv_iadd hx hb dL_law_215 ?_
  refine lv_topi (fun v_ e_ => ?_)
  obtain rfl : v_ = 2 := e_.trans (by decide)
  refine va_sld hx hb hX hbl hbA hS (vin (by decide +kernel)) dL_law_216 ?_
  refine lv_aload_n hx hb dL_law_217 rfl (lv_at hl 5 rfl) ?_
  refine lv_iload hx hb dL_law_218 (lv_at hl 0 rfl) ?_
  refine lv_iconst (v := 3) hx hb dL_law_220 (by decide) ?_
  refine W.eq (g2 := F0 m 221 ls [.int 3, .int 0, .ref b, .int (xs (Int32.toNatClampNeg 2)), .int (xs (Int32.toNatClampNeg 1)), .ref x]) rfl ?_
  refine lv_iadd hx hb dL_law_221 ?_
  refine lv_topi (fun v_ e_ => ?_)
  obtain rfl : v_ = 3 := e_.trans (by decide)
  refine va_sld hx hb hX hbl hbA hS (vin (by decide +kernel)) dL_law_222 ?_
  refine lv_aload_n hx hb dL_law_223 rfl (lv_at hl 2 rfl) ?_
  refine ka_i (vx_runSW (As := [.ref x, .int (xs (Int32.toNatClampNeg 1)), .int (xs (Int32.toNatClampNeg 2)), .int (xs (Int32.toNatClampNeg 3)), .ref ou]) (rest := []) ⟨hx, hb, hml, hown, hts⟩ (c_L_fly l hl0 G N0 ade adB H.size x dy ag qch qsh qsc pl qfl qac qcr qfg qgr qme qsf qsb qtu afl ffl (xs (Int32.toNatClampNeg 1)) (xs (Int32.toNatClampNeg 2)) (xs (Int32.toNatClampNeg 3)) hfl ou alo fo) (vx_cwSW 5 hts (kgS q431 q432 q35 q433) rfl rfl rfl (by decide +kernel) ⟨(Nat.le_of_ble_eq_true rfl), (Nat.le_of_ble_eq_true rfl)⟩) (kpreS hP hD hK hAN hT hN hS [0, 1, 2, 3] [0, 1] (by decide) rfl rfl) rfl rfl hl.1 rfl (lv_room (Nat.le_of_ble_eq_true rfl)) dL_law_224 ⟨(Nat.le_of_ble_eq_true rfl), (Nat.le_of_ble_eq_true rfl)⟩) (ws := [(x, .inr (17, [.ref pl, .ref dy, .ref ag, .ref qch, .ref qsh, .ref qsc, .int 0, .int 0])), (pl, .inr (16, [.ref qfl, .ref qac, .ref qcr, .ref qfg, .ref qgr, .ref qme, .ref qsf, .ref qsb, .ref qtu, .int 0, .int 0, .int 0, .int 0, .int 0, .int 0, .int 0, .int 0, .int (-1), .int 1])), (qfl, .inl (afl, 16, .inl ffl)), (ou, .inl (alo, 1, .inr (.inl fo))), (mo_, .inr (25, [.ref ti, .ref mfl, .ref mcr, .ref mst, .ref mtu, .int 1, .int 0, .int 1, .ref mfg, .ref mgr, .ref mme, .null, .int 0])), (ti, .inl (ati, 4, .inr (.inr (.inr (.inr fti))))), (r0, .inl (acy, 4, .inl g0)), (r1, .inl (acy, 4, .inl g1)), (r2, .inl (acy, 4, .inl g2)), (r3, .inl (acy, 4, .inl g3))]) (wc := [(x, .inr (17, [.ref pl, .ref dy, .ref ag, .ref qch, .ref qsh, .ref qsc, .int 0, .int 0])), (pl, .inr (16, [.ref qfl, .ref qac, .ref qcr, .ref qfg, .ref qgr, .ref qme, .ref qsf, .ref qsb, .ref qtu, .int 0, .int 0, .int 0, .int 0, .int 0, .int 0, .int 0, .int 0, .int (-1), .int 1])), (qfl, .inl (afl, 16, .inl ffl)), (ou, .inl (alo, 1, .inr (.inl fo)))]) (wr := [(mo_, .inr (25, [.ref ti, .ref mfl, .ref mcr, .ref mst, .ref mtu, .int 1, .int 0, .int 1, .ref mfg, .ref mgr, .ref mme, .null, .int 0])), (ti, .inl (ati, 4, .inr (.inr (.inr (.inr fti))))), (r0, .inl (acy, 4, .inl g0)), (r1, .inl (acy, 4, .inl g1)), (r2, .inl (acy, 4, .inl g2)), (r3, .inl (acy, 4, .inl g3))]) hP hD hK hS hA [0, 1, 2, 3] [4, 5, 6, 7, 8, 9] [2, 3] rfl rfl (by decide) (by decide) rfl (fun r_ u2 H locs hw3 hP hD hK hS => ?_)
  obtain ⟨go1, rfl⟩ : ∃ z_, z_ = u2 := ⟨_, rfl⟩
  have hP : va_P G vwCl [(mo_, .inr (25, [.ref ti, .ref mfl, .ref mcr, .ref mst, .ref mtu, .int 1, .int 0, .int 1, .ref mfg, .ref mgr, .ref mme, .null, .int 0])), (ti, .inl (ati, 4, .inr (.inr (.inr (.inr fti))))), (r0, .inl (acy, 4, .inl g0)), (r1, .inl (acy, 4, .inl g1)), (r2, .inl (acy, 4, .inl g2)), (r3, .inl (acy, 4, .inl g3)), (ou, .inl (alo, 1, .inr (.inl go1)))] H := hP
  have hD : va_D A [(mo_, .inr (25, [.ref ti, .ref mfl, .ref mcr, .ref mst, .ref mtu, .int 1, .int 0, .int 1, .ref mfg, .ref mgr, .ref mme, .null, .int 0])), (ti, .inl (ati, 4, .inr (.inr (.inr (.inr fti))))), (r0, .inl (acy, 4, .inl g0)), (r1, .inl (acy, 4, .inl g1)), (r2, .inl (acy, 4, .inl g2)), (r3, .inl (acy, 4, .inl g3)), (ou, .inl (alo, 1, .inr (.inl go1)))] := hD
  have hK : va_K G vwCl [(ati, .array .int), (acy, .int), (alo, .long)] s := hK
  refine W.widen (k := 163) (n := 21218) (Nat.le_of_ble_eq_true rfl) (Nat.le_of_ble_eq_true rfl) ?_
  have hf4 : ((sp_fly (xs (Int32.toNatClampNeg 1)) (xs (Int32.toNatClampNeg 2)) (xs (Int32.toNatClampNeg 3))) = 0 → go1 0 = Int32.toInt64 (sv_fly (xs (Int32.toNatClampNeg 1)) (xs (Int32.toNatClampNeg 2)) (xs (Int32.toNatClampNeg 3)))) := hw3.2
  obtain rfl : r_ = (sp_fly (xs (Int32.toNatClampNeg 1)) (xs (Int32.toNatClampNeg 2)) (xs (Int32.toNatClampNeg 3))) := hw3.1
  refine lv_istore (lv' := [(6, .int (sp_fly (xs (Int32.toNatClampNeg 1)) (xs (Int32.toNatClampNeg 2)) (xs (Int32.toNatClampNeg 3)))), (5, .int 0), (4, .ref oud), (3, .ref ou), (2, .ref mo_), (1, .ref x), (0, .ref b)]) hx hb dL_law_227 hl (by decide) rfl (fun ls hl => ?_)
  refine lv_aload_n hx hb dL_law_229 rfl (lv_at hl 4 rfl) ?_
  refine lv_aload_n hx hb dL_law_230 rfl (lv_at hl 6 rfl) ?_
  refine lv_iload hx hb dL_law_231 (lv_at hl 1 rfl) ?_
  refine lv_iconst (v := 1) hx hb dL_law_233 (by decide) ?_
  refine lv_iadd hx hb dL_law_234 ?_
  refine lv_topi (fun v_ e_ => ?_)
  obtain rfl : v_ = 1 := e_.trans (by decide)
  refine va_sld hx hb hX hbl hbA hS (vin (by decide +kernel)) dL_law_235 ?_
  refine lv_aload_n hx hb dL_law_236 rfl (lv_at hl 6 rfl) ?_
  refine lv_iload hx hb dL_law_237 (lv_at hl 1 rfl) ?_
  refine lv_iconst (v := 2) hx hb dL_law_239 (by decide) ?_
  refine lv_iadd hx hb dL_law_240 ?_
  refine lv_topi (fun v_ e_ => ?_)
  obtain rfl : v_ = 2 := e_.trans (by decide)
  refine va_sld hx hb hX hbl hbA hS (vin (by decide +kernel)) dL_law_241 ?_
  refine lv_aload_n hx hb dL_law_242 rfl (lv_at hl 6 rfl) ?_
  refine lv_iload hx hb dL_law_243 (lv_at hl 1 rfl) ?_
  refine W.eq (g2 := F0 m 245 ls [.int 0, .ref b, .int (xs (Int32.toNatClampNeg 2)), .int (xs (Int32.toNatClampNeg 1)), .ref mo_]) rfl ?_
  refine lv_iconst (v := 3) hx hb dL_law_245 (by decide) ?_
  refine lv_iadd hx hb dL_law_246 ?_
  refine lv_topi (fun v_ e_ => ?_)
  obtain rfl : v_ = 3 := e_.trans (by decide)
  refine va_sld hx hb hX hbl hbA hS (vin (by decide +kernel)) dL_law_247 ?_
  refine ka_i (va_runV (As := [.int (xs (Int32.toNatClampNeg 1)), .int (xs (Int32.toNatClampNeg 2)), .int (xs (Int32.toNatClampNeg 3))]) (rest := []) ⟨hx, hb, hml, hown, hts⟩ (c_m_fly l G N0 ade adB H.size mo_ ti mfl mcr mst mtu mfg mgr mme 0 ati fti acy r0 r1 r2 r3 g0 g1 g2 g3 hr0 hr1 hr2 hr3 hg0 hg1 hg2 hg3 (xs (Int32.toNatClampNeg 1)) (xs (Int32.toNatClampNeg 2)) (xs (Int32.toNatClampNeg 3))) (cwV 3 hts (kgV q752 q753 q754 q49 q755) rfl rfl rfl (by decide +kernel) ⟨(Nat.le_of_ble_eq_true rfl), (Nat.le_of_ble_eq_true rfl)⟩) (kpreV (ci := 25) (q0 := 0) hP hD hK hAN hT hN hS [0, 1, 2, 3, 4, 5] [0, 1] (by decide) rfl rfl rfl rfl rfl) rfl rfl hl.1 rfl (lv_room (Nat.le_of_ble_eq_true rfl)) dL_law_248 ⟨(Nat.le_of_ble_eq_true rfl), (Nat.le_of_ble_eq_true rfl)⟩) (ws := [(mo_, .inr (25, [.ref ti, .ref mfl, .ref mcr, .ref mst, .ref mtu, .int 1, .int 0, .int 1, .ref mfg, .ref mgr, .ref mme, .null, .int 0])), (ti, .inl (ati, 4, .inr (.inr (.inr (.inr fti))))), (r0, .inl (acy, 4, .inl g0)), (r1, .inl (acy, 4, .inl g1)), (r2, .inl (acy, 4, .inl g2)), (r3, .inl (acy, 4, .inl g3)), (ou, .inl (alo, 1, .inr (.inl go1)))]) (wc := [(mo_, .inr (25, [.ref ti, .ref mfl, .ref mcr, .ref mst, .ref mtu, .int 1, .int 0, .int 1, .ref mfg, .ref mgr, .ref mme, .null, .int 0])), (ti, .inl (ati, 4, .inr (.inr (.inr (.inr fti))))), (r0, .inl (acy, 4, .inl g0)), (r1, .inl (acy, 4, .inl g1)), (r2, .inl (acy, 4, .inl g2)), (r3, .inl (acy, 4, .inl g3))]) (wr := [(ou, .inl (alo, 1, .inr (.inl go1)))]) hP hD hK hS hA [0, 1, 2, 3, 4, 5] [6] [2] rfl rfl (by decide) (by decide) rfl (fun r_ u6 H locs hw7 hP hD hK hS => ?_)
  obtain ⟨fs5, rfl⟩ : ∃ z_, z_ = u6 := ⟨_, rfl⟩
  have hP : va_P G vwCl [(ou, .inl (alo, 1, .inr (.inl go1))), (mo_, .inr (25, fs5))] H := hP
  have hD : va_D A [(ou, .inl (alo, 1, .inr (.inl go1))), (mo_, .inr (25, fs5))] := hD
  have hK : va_K G vwCl [(alo, .long)] s := hK
  refine W.widen (k := 163) (n := 21218) (Nat.le_of_ble_eq_true rfl) (Nat.le_of_ble_eq_true rfl) ?_
  have hf8 : fs5[12]? = some (.int (sp_m_fly (xs (Int32.toNatClampNeg 1)) (xs (Int32.toNatClampNeg 2)) (xs (Int32.toNatClampNeg 3)))) := hw7.2
  obtain rfl : r_ = (sv_m_fly (xs (Int32.toNatClampNeg 1)) (xs (Int32.toNatClampNeg 2)) (xs (Int32.toNatClampNeg 3))) := hw7.1
  refine lv_istore (lv' := [(7, .int (sv_m_fly (xs (Int32.toNatClampNeg 1)) (xs (Int32.toNatClampNeg 2)) (xs (Int32.toNatClampNeg 3)))), (6, .int (sp_fly (xs (Int32.toNatClampNeg 1)) (xs (Int32.toNatClampNeg 2)) (xs (Int32.toNatClampNeg 3)))), (5, .int 0), (4, .ref oud), (3, .ref ou), (2, .ref mo_), (1, .ref x), (0, .ref b)]) hx hb dL_law_251 hl (by decide) rfl (fun ls hl => ?_)
  refine lv_aload_n hx hb dL_law_253 rfl (lv_at hl 5 rfl) ?_
  refine ka_i (va_runV (As := []) (rest := []) ⟨hx, hb, hml, hown, hts⟩ (c_m_thrown l G N0 ade adB H.size mo_ fs5 (sp_m_fly (xs (Int32.toNatClampNeg 1)) (xs (Int32.toNatClampNeg 2)) (xs (Int32.toNatClampNeg 3))) hf8) (cwV 0 hts (kgV q748 q749 q750 q49 q751) rfl rfl rfl (by decide +kernel) ⟨(Nat.le_of_ble_eq_true rfl), (Nat.le_of_ble_eq_true rfl)⟩) (kpreV (ci := 25) (q0 := 1) hP hD hK hAN hT hN hS [1] [] (by decide) rfl rfl rfl rfl rfl) rfl rfl hl.1 rfl (lv_room (Nat.le_of_ble_eq_true rfl)) dL_law_254 ⟨(Nat.le_of_ble_eq_true rfl), (Nat.le_of_ble_eq_true rfl)⟩) (ws := [(ou, .inl (alo, 1, .inr (.inl go1))), (mo_, .inr (25, fs5))]) (wc := [(mo_, .inr (25, fs5))]) (wr := [(ou, .inl (alo, 1, .inr (.inl go1)))]) hP hD hK hS hA [1] [0] [0] rfl rfl (by decide) (by decide) rfl (fun r_ u10 H locs hw11 hP hD hK hS => ?_)
  have hP : va_P G vwCl [(ou, .inl (alo, 1, .inr (.inl go1))), (mo_, .inr (25, fs5))] H := hP
  have hD : va_D A [(ou, .inl (alo, 1, .inr (.inl go1))), (mo_, .inr (25, fs5))] := hD
  have hK : va_K G vwCl [(alo, .long)] s := hK
  refine W.widen (k := 163) (n := 21218) (Nat.le_of_ble_eq_true rfl) (Nat.le_of_ble_eq_true rfl) ?_
  obtain rfl : r_ = (sp_m_fly (xs (Int32.toNatClampNeg 1)) (xs (Int32.toNatClampNeg 2)) (xs (Int32.toNatClampNeg 3))) := hw11
  refine lv_iload hx hb dL_law_257 (lv_at hl 1 rfl) ?_
  refine lv_icmp_eq (tgt := 264) hx hb dL_law_259 (by decide) (fun _ => ?_) (fun h_ => absurd (tm_fly (xs (Int32.toNatClampNeg 1)) (xs (Int32.toNatClampNeg 2)) (xs (Int32.toNatClampNeg 3))) h_)
  refine lv_iload hx hb dL_law_264 (lv_at hl 1 rfl) ?_
  refine lv_if_ne (tgt := 281) hx hb dL_law_266 (by decide) (fun c_266 => ?_) (fun c_266 => ?_)
  · refine lv_goto (tgt := 2435) hx hb dL_law_281 (by decide) ?_
    exact law_tail hl0 hx hb hr hml hown hts hX hbl hlocks hT hAN hA hN hbA hAs hS (Nat.le_of_ble_eq_true rfl) (Nat.le_of_ble_eq_true rfl) (lv_sub hl [2, 7] rfl)
  · refine lv_aload_n hx hb dL_law_269 rfl (lv_at hl 4 rfl) ?_
    refine lv_iconst (v := 0) hx hb dL_law_270 (by decide) ?_
    refine va_lald hx hb hK hP 0 0 rfl rfl (vin (by decide +kernel)) dL_law_271 ?_
    refine W.eq (g2 := F0 m 272 ls [.long (Int32.toInt64 (sv_m_fly (xs (Int32.toNatClampNeg 1)) (xs (Int32.toNatClampNeg 2)) (xs (Int32.toNatClampNeg 3))))]) (congrArg (fun z_ => F0 m 272 ls (.long z_ :: [])) ((show go1 (Int32.toNatClampNeg 0) = (Int32.toInt64 (sv_m_fly (xs (Int32.toNatClampNeg 1)) (xs (Int32.toNatClampNeg 2)) (xs (Int32.toNatClampNeg 3)))) from by rw [show Int32.toNatClampNeg 0 = 0 from by decide, hf4 c_266, tv_fly (xs (Int32.toNatClampNeg 1)) (xs (Int32.toNatClampNeg 2)) (xs (Int32.toNatClampNeg 3)) c_266]))) ?_
    refine lv_iload hx hb dL_law_272 (lv_at hl 0 rfl) ?_
    refine lv_i2l (v := (Int32.toInt64 (sv_m_fly (xs (Int32.toNatClampNeg 1)) (xs (Int32.toNatClampNeg 2)) (xs (Int32.toNatClampNeg 3))))) hx hb dL_law_274 rfl ?_
    refine W.lcmp hx hb dL_law_275 ?_
    refine lv_if_eq (tgt := 281) hx hb dL_law_276 (by decide) (fun _ => ?_) (fun h_ => absurd ((lg_cmp_eq _ _).mpr rfl) h_)
    refine lv_goto (tgt := 2435) hx hb dL_law_281 (by decide) ?_
    exact law_tail hl0 hx hb hr hml hown hts hX hbl hlocks hT hAN hA hN hbA hAs hS (Nat.le_of_ble_eq_true rfl) (Nat.le_of_ble_eq_true rfl) (lv_sub hl [2, 7] rfl)

set_option maxHeartbeats 4000000 in
set_option maxRecDepth 100000 in
theorem law_addAircraft {p : Program} {l : Launch} {e : Env} {s : State} {m : MethodId} {below : List Frame} {meth : Method} {c : Code} {b : Nat} {xs : Nat → Int32} {A : Nat → Prop} (hl0 : l.stackTraces = false) (hx : p.tables.exec = Jvm.exec) (hb : c.code = cL_law) (hr : meth.sig.returnType = ret) (hml : c.maxLocals = 9) (hown : s.vm.findClass RL = some m.cls) (hts : ∀ w ∈ lw_all, w.before #[Value.ref b] s = true) (hX : va_X b 7 xs s s.heap) (hbl : b < s.heap.size) (hlocks : meth.locks = false) {N0 ade : Nat} {adB : Nat → Nat} (hT : BT N0 ade adB s) (hAN : ∀ q, A q → KA N0 q) (hA : ∀ q, s.heap.size ≤ q → A q) (hN : N0 ≤ s.heap.size) (hbA : ¬ A b) (hAs : ∀ q, A q → s.heap.size ≤ q) {G : va_G} {x : Nat} {dy : Nat} {ag : Nat} {qch : Nat} {qsh : Nat} {qsc : Nat} {pl : Nat} {qfl : Nat} {qac : Nat} {qcr : Nat} {qfg : Nat} {qgr : Nat} {qme : Nat} {qsf : Nat} {qsb : Nat} {qtu : Nat} {aac : ClassId} {fac : Nat → Option Nat} {ac0 : Nat} {ou : Nat} {alo : ClassId} {fo : Nat → Int64} {mo_ : Nat} {ti : Nat} {mfl : Nat} {mcr : Nat} {mst : Nat} {mtu : Nat} {mfg : Nat} {mgr : Nat} {mme : Nat} {oud : Nat} (hac0 : fac (Int32.toNatClampNeg 0) = some ac0) {H : Heap} {locs : List Loc} (hP : va_P G vwCl [(x, .inr (17, [.ref pl, .ref dy, .ref ag, .ref qch, .ref qsh, .ref qsc, .int 0, .int 0])), (pl, .inr (16, [.ref qfl, .ref qac, .ref qcr, .ref qfg, .ref qgr, .ref qme, .ref qsf, .ref qsb, .ref qtu, .int 0, .int 0, .int 0, .int 0, .int 0, .int 0, .int 0, .int 0, .int (-1), .int 1])), (qac, .inl (aac, 5, .inr (.inr (.inr (.inr fac))))), (ac0, .inr (6, [.int 0, .int 0, .int 0, .int 0, .int 0, .int 0, .int 0])), (ou, .inl (alo, 1, .inr (.inl fo))), (mo_, .inr (25, [.ref ti, .ref mfl, .ref mcr, .ref mst, .ref mtu, .int 1, .int 0, .int 1, .ref mfg, .ref mgr, .ref mme, .null, .int 0])), (mfl, .inr (5, [.int 0, .ref ade, .int 0]))] H) (hD : va_D A [(x, .inr (17, [.ref pl, .ref dy, .ref ag, .ref qch, .ref qsh, .ref qsc, .int 0, .int 0])), (pl, .inr (16, [.ref qfl, .ref qac, .ref qcr, .ref qfg, .ref qgr, .ref qme, .ref qsf, .ref qsb, .ref qtu, .int 0, .int 0, .int 0, .int 0, .int 0, .int 0, .int 0, .int 0, .int (-1), .int 1])), (qac, .inl (aac, 5, .inr (.inr (.inr (.inr fac))))), (ac0, .inr (6, [.int 0, .int 0, .int 0, .int 0, .int 0, .int 0, .int 0])), (ou, .inl (alo, 1, .inr (.inl fo))), (mo_, .inr (25, [.ref ti, .ref mfl, .ref mcr, .ref mst, .ref mtu, .int 1, .int 0, .int 1, .ref mfg, .ref mgr, .ref mme, .null, .int 0])), (mfl, .inr (5, [.int 0, .ref ade, .int 0]))]) (hK : va_K G vwCl [(aac, .object "RunwayLoom$Aircraft"), (alo, .long)] s) (hS : va_S A s.heap H locs) {ls : Array Slot} (hl : lv_has ls 9 [(5, .int 0), (4, .ref oud), (3, .ref ou), (2, .ref mo_), (1, .ref x), (0, .ref b)]) : W p l e room_1 s m #[Value.ref b] below meth c H locs 160 21200 (lw_Z below #[Value.ref b] s) (F0 m 284 ls []) := by
  refine lv_aload_n hx hb dL_law_284 rfl (lv_at hl 4 rfl) ?_
  refine lv_aload_n hx hb dL_law_285 rfl (lv_at hl 5 rfl) ?_
  refine lv_iload hx hb dL_law_286 (lv_at hl 0 rfl) ?_
  refine lv_iconst (v := 1) hx hb dL_law_288 (by decide) ?_
  refine lv_iadd hx hb dL_law_289 ?_
  refine lv_topi (fun v_ e_ => ?_)
  obtain rfl : v_ = 1 := e_.trans (by decide)
  refine va_sld hx hb hX hbl hbA hS (vin (by decide +kernel)) dL_law_290 ?_
  refine lv_aload_n hx hb dL_law_291 rfl (lv_at hl 5 rfl) ?_
  refine lv_iload hx hb dL_law_292 (lv_at hl 0 rfl) ?_
  refine lv_iconst (v := 2) hx hb dL_law_294 (by decide) ?_
  refine lv_iadd hx hb dL_law_295 ?_
  refine lv_topi (fun v_ e_ => ?_)
  obtain rfl : v_ = 2 := e_.trans (by decide)
  refine va_sld hx hb hX hbl hbA hS (vin (by decide +kernel)) dL_law_296 ?_
  refine lv_aload_n hx hb dL_law_297 rfl (lv_at hl 5 rfl) ?_
  refine lv_iload hx hb dL_law_298 (lv_at hl 0 rfl) ?_
  refine lv_iconst (v := 3) hx hb dL_law_300 (by decide) ?_
  refine W.eq (g2 := F0 m 301 ls [.int 3, .int 0, .ref b, .int (xs (Int32.toNatClampNeg 2)), .int (xs (Int32.toNatClampNeg 1)), .ref x]) rfl ?_
  refine lv_iadd hx hb dL_law_301 ?_
  refine lv_topi (fun v_ e_ => ?_)
  obtain rfl : v_ = 3 := e_.trans (by decide)
  refine va_sld hx hb hX hbl hbA hS (vin (by decide +kernel)) dL_law_302 ?_
  refine lv_aload_n hx hb dL_law_303 rfl (lv_at hl 5 rfl) ?_
  refine lv_iload hx hb dL_law_304 (lv_at hl 0 rfl) ?_
  refine lv_iconst (v := 4) hx hb dL_law_306 (by decide) ?_
  refine lv_iadd hx hb dL_law_307 ?_
  refine lv_topi (fun v_ e_ => ?_)
  obtain rfl : v_ = 4 := e_.trans (by decide)
  refine va_sld hx hb hX hbl hbA hS (vin (by decide +kernel)) dL_law_308 ?_
  refine lv_aload_n hx hb dL_law_309 rfl (lv_at hl 5 rfl) ?_
  refine lv_iload hx hb dL_law_310 (lv_at hl 0 rfl) ?_
  refine lv_iconst (v := 5) hx hb dL_law_312 (by decide) ?_
  refine lv_iadd hx hb dL_law_313 ?_
  refine lv_topi (fun v_ e_ => ?_)
  obtain rfl : v_ = 5 := e_.trans (by decide)
  refine va_sld hx hb hX hbl hbA hS (vin (by decide +kernel)) dL_law_314 ?_
  refine lv_aload_n hx hb dL_law_315 rfl (lv_at hl 5 rfl) ?_
  refine lv_iload hx hb dL_law_316 (lv_at hl 0 rfl) ?_
  refine lv_bipush (v := 6) hx hb dL_law_318 (by decide) ?_
  refine W.eq (g2 := F0 m 320 ls [.int 6, .int 0, .ref b, .int (xs (Int32.toNatClampNeg 5)), .int (xs (Int32.toNatClampNeg 4)), .int (xs (Int32.toNatClampNeg 3)), .int (xs (Int32.toNatClampNeg 2)), .int (xs (Int32.toNatClampNeg 1)), .ref x]) rfl ?_
  refine lv_iadd hx hb dL_law_320 ?_
  refine lv_topi (fun v_ e_ => ?_)
  obtain rfl : v_ = 6 := e_.trans (by decide)
  refine va_sld hx hb hX hbl hbA hS (vin (by decide +kernel)) dL_law_321 ?_
  refine lv_aload_n hx hb dL_law_322 rfl (lv_at hl 2 rfl) ?_
  refine ka_i (vx_runSW (As := [.ref x, .int (xs (Int32.toNatClampNeg 1)), .int (xs (Int32.toNatClampNeg 2)), .int (xs (Int32.toNatClampNeg 3)), .int (xs (Int32.toNatClampNeg 4)), .int (xs (Int32.toNatClampNeg 5)), .int (xs (Int32.toNatClampNeg 6)), .ref ou]) (rest := []) ⟨hx, hb, hml, hown, hts⟩ (c_L_addAircraft l hl0 G N0 ade adB H.size x dy ag qch qsh qsc pl qfl qac qcr qfg qgr qme qsf qsb qtu aac fac ac0 hac0 (xs (Int32.toNatClampNeg 1)) (xs (Int32.toNatClampNeg 2)) (xs (Int32.toNatClampNeg 3)) (xs (Int32.toNatClampNeg 4)) (xs (Int32.toNatClampNeg 5)) (xs (Int32.toNatClampNeg 6)) ou alo fo) (vx_cwSW 8 hts (kgS q462 q463 q35 q464) rfl rfl rfl (by decide +kernel) ⟨(Nat.le_of_ble_eq_true rfl), (Nat.le_of_ble_eq_true rfl)⟩) (kpreS hP hD hK hAN hT hN hS [0, 1, 2, 3, 4] [0, 1] (by decide) rfl rfl) rfl rfl hl.1 rfl (lv_room (Nat.le_of_ble_eq_true rfl)) dL_law_323 ⟨(Nat.le_of_ble_eq_true rfl), (Nat.le_of_ble_eq_true rfl)⟩) (ws := [(x, .inr (17, [.ref pl, .ref dy, .ref ag, .ref qch, .ref qsh, .ref qsc, .int 0, .int 0])), (pl, .inr (16, [.ref qfl, .ref qac, .ref qcr, .ref qfg, .ref qgr, .ref qme, .ref qsf, .ref qsb, .ref qtu, .int 0, .int 0, .int 0, .int 0, .int 0, .int 0, .int 0, .int 0, .int (-1), .int 1])), (qac, .inl (aac, 5, .inr (.inr (.inr (.inr fac))))), (ac0, .inr (6, [.int 0, .int 0, .int 0, .int 0, .int 0, .int 0, .int 0])), (ou, .inl (alo, 1, .inr (.inl fo))), (mo_, .inr (25, [.ref ti, .ref mfl, .ref mcr, .ref mst, .ref mtu, .int 1, .int 0, .int 1, .ref mfg, .ref mgr, .ref mme, .null, .int 0])), (mfl, .inr (5, [.int 0, .ref ade, .int 0]))]) (wc := [(x, .inr (17, [.ref pl, .ref dy, .ref ag, .ref qch, .ref qsh, .ref qsc, .int 0, .int 0])), (pl, .inr (16, [.ref qfl, .ref qac, .ref qcr, .ref qfg, .ref qgr, .ref qme, .ref qsf, .ref qsb, .ref qtu, .int 0, .int 0, .int 0, .int 0, .int 0, .int 0, .int 0, .int 0, .int (-1), .int 1])), (qac, .inl (aac, 5, .inr (.inr (.inr (.inr fac))))), (ac0, .inr (6, [.int 0, .int 0, .int 0, .int 0, .int 0, .int 0, .int 0])), (ou, .inl (alo, 1, .inr (.inl fo)))]) (wr := [(mo_, .inr (25, [.ref ti, .ref mfl, .ref mcr, .ref mst, .ref mtu, .int 1, .int 0, .int 1, .ref mfg, .ref mgr, .ref mme, .null, .int 0])), (mfl, .inr (5, [.int 0, .ref ade, .int 0]))]) hP hD hK hS hA [0, 1, 2, 3, 4] [5, 6] [] rfl rfl (by decide) (by decide) rfl (fun r_ u2 H locs hw3 hP hD hK hS => ?_)
  obtain ⟨go1, rfl⟩ : ∃ z_, z_ = u2 := ⟨_, rfl⟩
  have hP : va_P G vwCl [(mo_, .inr (25, [.ref ti, .ref mfl, .ref mcr, .ref mst, .ref mtu, .int 1, .int 0, .int 1, .ref mfg, .ref mgr, .ref mme, .null, .int 0])), (mfl, .inr (5, [.int 0, .ref ade, .int 0])), (ou, .inl (alo, 1, .inr (.inl go1)))] H := hP
  have hD : va_D A [(mo_, .inr (25, [.ref ti, .ref mfl, .ref mcr, .ref mst, .ref mtu, .int 1, .int 0, .int 1, .ref mfg, .ref mgr, .ref mme, .null, .int 0])), (mfl, .inr (5, [.int 0, .ref ade, .int 0])), (ou, .inl (alo, 1, .inr (.inl go1)))] := hD
  have hK : va_K G vwCl [(alo, .long)] s := hK
  refine W.widen (k := 162) (n := 21212) (Nat.le_of_ble_eq_true rfl) (Nat.le_of_ble_eq_true rfl) ?_
  have hf4 : ((sp_addAircraft (xs (Int32.toNatClampNeg 1)) (xs (Int32.toNatClampNeg 2)) (xs (Int32.toNatClampNeg 3)) (xs (Int32.toNatClampNeg 4)) (xs (Int32.toNatClampNeg 5)) (xs (Int32.toNatClampNeg 6))) = 0 → go1 0 = Int32.toInt64 (sv_addAircraft (xs (Int32.toNatClampNeg 1)) (xs (Int32.toNatClampNeg 2)) (xs (Int32.toNatClampNeg 3)) (xs (Int32.toNatClampNeg 4)) (xs (Int32.toNatClampNeg 5)) (xs (Int32.toNatClampNeg 6)))) := hw3.2
  obtain rfl : r_ = (sp_addAircraft (xs (Int32.toNatClampNeg 1)) (xs (Int32.toNatClampNeg 2)) (xs (Int32.toNatClampNeg 3)) (xs (Int32.toNatClampNeg 4)) (xs (Int32.toNatClampNeg 5)) (xs (Int32.toNatClampNeg 6))) := hw3.1
  refine lv_istore (lv' := [(6, .int (sp_addAircraft (xs (Int32.toNatClampNeg 1)) (xs (Int32.toNatClampNeg 2)) (xs (Int32.toNatClampNeg 3)) (xs (Int32.toNatClampNeg 4)) (xs (Int32.toNatClampNeg 5)) (xs (Int32.toNatClampNeg 6)))), (5, .int 0), (4, .ref oud), (3, .ref ou), (2, .ref mo_), (1, .ref x), (0, .ref b)]) hx hb dL_law_326 hl (by decide) rfl (fun ls hl => ?_)
  refine lv_aload_n hx hb dL_law_328 rfl (lv_at hl 4 rfl) ?_
  refine lv_aload_n hx hb dL_law_329 rfl (lv_at hl 6 rfl) ?_
  refine lv_iload hx hb dL_law_330 (lv_at hl 1 rfl) ?_
  refine lv_iconst (v := 1) hx hb dL_law_332 (by decide) ?_
  refine lv_iadd hx hb dL_law_333 ?_
  refine lv_topi (fun v_ e_ => ?_)
  obtain rfl : v_ = 1 := e_.trans (by decide)
  refine va_sld hx hb hX hbl hbA hS (vin (by decide +kernel)) dL_law_334 ?_
  refine lv_aload_n hx hb dL_law_335 rfl (lv_at hl 6 rfl) ?_
  refine lv_iload hx hb dL_law_336 (lv_at hl 1 rfl) ?_
  refine lv_iconst (v := 2) hx hb dL_law_338 (by decide) ?_
  refine lv_iadd hx hb dL_law_339 ?_
  refine lv_topi (fun v_ e_ => ?_)
  obtain rfl : v_ = 2 := e_.trans (by decide)
  refine va_sld hx hb hX hbl hbA hS (vin (by decide +kernel)) dL_law_340 ?_
  refine lv_aload_n hx hb dL_law_341 rfl (lv_at hl 6 rfl) ?_
  refine lv_iload hx hb dL_law_342 (lv_at hl 1 rfl) ?_
  refine W.eq (g2 := F0 m 344 ls [.int 0, .ref b, .int (xs (Int32.toNatClampNeg 2)), .int (xs (Int32.toNatClampNeg 1)), .ref mo_]) rfl ?_
  refine lv_iconst (v := 3) hx hb dL_law_344 (by decide) ?_
  refine lv_iadd hx hb dL_law_345 ?_
  refine lv_topi (fun v_ e_ => ?_)
  obtain rfl : v_ = 3 := e_.trans (by decide)
  refine va_sld hx hb hX hbl hbA hS (vin (by decide +kernel)) dL_law_346 ?_
  refine lv_aload_n hx hb dL_law_347 rfl (lv_at hl 6 rfl) ?_
  refine lv_iload hx hb dL_law_348 (lv_at hl 1 rfl) ?_
  refine lv_iconst (v := 4) hx hb dL_law_350 (by decide) ?_
  refine lv_iadd hx hb dL_law_351 ?_
  refine lv_topi (fun v_ e_ => ?_)
  obtain rfl : v_ = 4 := e_.trans (by decide)
  refine va_sld hx hb hX hbl hbA hS (vin (by decide +kernel)) dL_law_352 ?_
  refine lv_aload_n hx hb dL_law_353 rfl (lv_at hl 6 rfl) ?_
  refine lv_iload hx hb dL_law_354 (lv_at hl 1 rfl) ?_
  refine lv_iconst (v := 5) hx hb dL_law_356 (by decide) ?_
  refine lv_iadd hx hb dL_law_357 ?_
  refine lv_topi (fun v_ e_ => ?_)
  obtain rfl : v_ = 5 := e_.trans (by decide)
  refine va_sld hx hb hX hbl hbA hS (vin (by decide +kernel)) dL_law_358 ?_
  refine lv_aload_n hx hb dL_law_359 rfl (lv_at hl 6 rfl) ?_
  refine lv_iload hx hb dL_law_360 (lv_at hl 1 rfl) ?_
  refine W.eq (g2 := F0 m 362 ls [.int 0, .ref b, .int (xs (Int32.toNatClampNeg 5)), .int (xs (Int32.toNatClampNeg 4)), .int (xs (Int32.toNatClampNeg 3)), .int (xs (Int32.toNatClampNeg 2)), .int (xs (Int32.toNatClampNeg 1)), .ref mo_]) rfl ?_
  refine lv_bipush (v := 6) hx hb dL_law_362 (by decide) ?_
  refine lv_iadd hx hb dL_law_364 ?_
  refine lv_topi (fun v_ e_ => ?_)
  obtain rfl : v_ = 6 := e_.trans (by decide)
  refine va_sld hx hb hX hbl hbA hS (vin (by decide +kernel)) dL_law_365 ?_
  refine ka_i (va_runV (As := [.int (xs (Int32.toNatClampNeg 1)), .int (xs (Int32.toNatClampNeg 2)), .int (xs (Int32.toNatClampNeg 3)), .int (xs (Int32.toNatClampNeg 4)), .int (xs (Int32.toNatClampNeg 5)), .int (xs (Int32.toNatClampNeg 6))]) (rest := []) ⟨hx, hb, hml, hown, hts⟩ (c_m_addAircraft l G N0 ade adB H.size mo_ ti mfl mcr mst mtu mfg mgr mme 0 (xs (Int32.toNatClampNeg 1)) (xs (Int32.toNatClampNeg 2)) (xs (Int32.toNatClampNeg 3)) (xs (Int32.toNatClampNeg 4)) (xs (Int32.toNatClampNeg 5)) (xs (Int32.toNatClampNeg 6))) (cwV 6 hts (kgV q765 q766 q767 q49 q768) rfl rfl rfl (by decide +kernel) ⟨(Nat.le_of_ble_eq_true rfl), (Nat.le_of_ble_eq_true rfl)⟩) (kpreV (ci := 25) (q0 := 0) hP hD hK hAN hT hN hS [0, 1] [] (by decide) rfl rfl rfl rfl rfl) rfl rfl hl.1 rfl (lv_room (Nat.le_of_ble_eq_true rfl)) dL_law_366 ⟨(Nat.le_of_ble_eq_true rfl), (Nat.le_of_ble_eq_true rfl)⟩) (ws := [(mo_, .inr (25, [.ref ti, .ref mfl, .ref mcr, .ref mst, .ref mtu, .int 1, .int 0, .int 1, .ref mfg, .ref mgr, .ref mme, .null, .int 0])), (mfl, .inr (5, [.int 0, .ref ade, .int 0])), (ou, .inl (alo, 1, .inr (.inl go1)))]) (wc := [(mo_, .inr (25, [.ref ti, .ref mfl, .ref mcr, .ref mst, .ref mtu, .int 1, .int 0, .int 1, .ref mfg, .ref mgr, .ref mme, .null, .int 0])), (mfl, .inr (5, [.int 0, .ref ade, .int 0]))]) (wr := [(ou, .inl (alo, 1, .inr (.inl go1)))]) hP hD hK hS hA [0, 1] [2] [0] rfl rfl (by decide) (by decide) rfl (fun r_ u6 H locs hw7 hP hD hK hS => ?_)
  obtain ⟨fs5, rfl⟩ : ∃ z_, z_ = u6 := ⟨_, rfl⟩
  have hP : va_P G vwCl [(ou, .inl (alo, 1, .inr (.inl go1))), (mo_, .inr (25, fs5))] H := hP
  have hD : va_D A [(ou, .inl (alo, 1, .inr (.inl go1))), (mo_, .inr (25, fs5))] := hD
  have hK : va_K G vwCl [(alo, .long)] s := hK
  refine W.widen (k := 164) (n := 21229) (Nat.le_of_ble_eq_true rfl) (Nat.le_of_ble_eq_true rfl) ?_
  have hf8 : fs5[12]? = some (.int (sp_m_addAircraft (xs (Int32.toNatClampNeg 1)) (xs (Int32.toNatClampNeg 2)) (xs (Int32.toNatClampNeg 3)) (xs (Int32.toNatClampNeg 4)) (xs (Int32.toNatClampNeg 5)) (xs (Int32.toNatClampNeg 6)))) := hw7.2
  obtain rfl : r_ = (sv_m_addAircraft (xs (Int32.toNatClampNeg 1)) (xs (Int32.toNatClampNeg 2)) (xs (Int32.toNatClampNeg 3)) (xs (Int32.toNatClampNeg 4)) (xs (Int32.toNatClampNeg 5)) (xs (Int32.toNatClampNeg 6))) := hw7.1
  refine lv_istore (lv' := [(7, .int (sv_m_addAircraft (xs (Int32.toNatClampNeg 1)) (xs (Int32.toNatClampNeg 2)) (xs (Int32.toNatClampNeg 3)) (xs (Int32.toNatClampNeg 4)) (xs (Int32.toNatClampNeg 5)) (xs (Int32.toNatClampNeg 6)))), (6, .int (sp_addAircraft (xs (Int32.toNatClampNeg 1)) (xs (Int32.toNatClampNeg 2)) (xs (Int32.toNatClampNeg 3)) (xs (Int32.toNatClampNeg 4)) (xs (Int32.toNatClampNeg 5)) (xs (Int32.toNatClampNeg 6)))), (5, .int 0), (4, .ref oud), (3, .ref ou), (2, .ref mo_), (1, .ref x), (0, .ref b)]) hx hb dL_law_369 hl (by decide) rfl (fun ls hl => ?_)
  refine lv_aload_n hx hb dL_law_371 rfl (lv_at hl 5 rfl) ?_
  refine ka_i (va_runV (As := []) (rest := []) ⟨hx, hb, hml, hown, hts⟩ (c_m_thrown l G N0 ade adB H.size mo_ fs5 (sp_m_addAircraft (xs (Int32.toNatClampNeg 1)) (xs (Int32.toNatClampNeg 2)) (xs (Int32.toNatClampNeg 3)) (xs (Int32.toNatClampNeg 4)) (xs (Int32.toNatClampNeg 5)) (xs (Int32.toNatClampNeg 6))) hf8) (cwV 0 hts (kgV q748 q749 q750 q49 q751) rfl rfl rfl (by decide +kernel) ⟨(Nat.le_of_ble_eq_true rfl), (Nat.le_of_ble_eq_true rfl)⟩) (kpreV (ci := 25) (q0 := 1) hP hD hK hAN hT hN hS [1] [] (by decide) rfl rfl rfl rfl rfl) rfl rfl hl.1 rfl (lv_room (Nat.le_of_ble_eq_true rfl)) dL_law_372 ⟨(Nat.le_of_ble_eq_true rfl), (Nat.le_of_ble_eq_true rfl)⟩) (ws := [(ou, .inl (alo, 1, .inr (.inl go1))), (mo_, .inr (25, fs5))]) (wc := [(mo_, .inr (25, fs5))]) (wr := [(ou, .inl (alo, 1, .inr (.inl go1)))]) hP hD hK hS hA [1] [0] [0] rfl rfl (by decide) (by decide) rfl (fun r_ u10 H locs hw11 hP hD hK hS => ?_)
  have hP : va_P G vwCl [(ou, .inl (alo, 1, .inr (.inl go1))), (mo_, .inr (25, fs5))] H := hP
  have hD : va_D A [(ou, .inl (alo, 1, .inr (.inl go1))), (mo_, .inr (25, fs5))] := hD
  have hK : va_K G vwCl [(alo, .long)] s := hK
  refine W.widen (k := 164) (n := 21229) (Nat.le_of_ble_eq_true rfl) (Nat.le_of_ble_eq_true rfl) ?_
  obtain rfl : r_ = (sp_m_addAircraft (xs (Int32.toNatClampNeg 1)) (xs (Int32.toNatClampNeg 2)) (xs (Int32.toNatClampNeg 3)) (xs (Int32.toNatClampNeg 4)) (xs (Int32.toNatClampNeg 5)) (xs (Int32.toNatClampNeg 6))) := hw11
  refine lv_iload hx hb dL_law_375 (lv_at hl 1 rfl) ?_
  refine lv_icmp_eq (tgt := 382) hx hb dL_law_377 (by decide) (fun _ => ?_) (fun h_ => absurd (tm_addAircraft (xs (Int32.toNatClampNeg 1)) (xs (Int32.toNatClampNeg 2)) (xs (Int32.toNatClampNeg 3)) (xs (Int32.toNatClampNeg 4)) (xs (Int32.toNatClampNeg 5)) (xs (Int32.toNatClampNeg 6))) h_)
  refine lv_iload hx hb dL_law_382 (lv_at hl 1 rfl) ?_
  refine lv_if_ne (tgt := 399) hx hb dL_law_384 (by decide) (fun c_384 => ?_) (fun c_384 => ?_)
  · refine lv_goto (tgt := 2435) hx hb dL_law_399 (by decide) ?_
    exact law_tail hl0 hx hb hr hml hown hts hX hbl hlocks hT hAN hA hN hbA hAs hS (Nat.le_of_ble_eq_true rfl) (Nat.le_of_ble_eq_true rfl) (lv_sub hl [2, 7] rfl)
  · refine lv_aload_n hx hb dL_law_387 rfl (lv_at hl 4 rfl) ?_
    refine lv_iconst (v := 0) hx hb dL_law_388 (by decide) ?_
    refine va_lald hx hb hK hP 0 0 rfl rfl (vin (by decide +kernel)) dL_law_389 ?_
    refine W.eq (g2 := F0 m 390 ls [.long (Int32.toInt64 (sv_m_addAircraft (xs (Int32.toNatClampNeg 1)) (xs (Int32.toNatClampNeg 2)) (xs (Int32.toNatClampNeg 3)) (xs (Int32.toNatClampNeg 4)) (xs (Int32.toNatClampNeg 5)) (xs (Int32.toNatClampNeg 6))))]) (congrArg (fun z_ => F0 m 390 ls (.long z_ :: [])) ((show go1 (Int32.toNatClampNeg 0) = (Int32.toInt64 (sv_m_addAircraft (xs (Int32.toNatClampNeg 1)) (xs (Int32.toNatClampNeg 2)) (xs (Int32.toNatClampNeg 3)) (xs (Int32.toNatClampNeg 4)) (xs (Int32.toNatClampNeg 5)) (xs (Int32.toNatClampNeg 6)))) from by rw [show Int32.toNatClampNeg 0 = 0 from by decide, hf4 c_384, tv_addAircraft (xs (Int32.toNatClampNeg 1)) (xs (Int32.toNatClampNeg 2)) (xs (Int32.toNatClampNeg 3)) (xs (Int32.toNatClampNeg 4)) (xs (Int32.toNatClampNeg 5)) (xs (Int32.toNatClampNeg 6)) c_384]))) ?_
    refine lv_iload hx hb dL_law_390 (lv_at hl 0 rfl) ?_
    refine lv_i2l (v := (Int32.toInt64 (sv_m_addAircraft (xs (Int32.toNatClampNeg 1)) (xs (Int32.toNatClampNeg 2)) (xs (Int32.toNatClampNeg 3)) (xs (Int32.toNatClampNeg 4)) (xs (Int32.toNatClampNeg 5)) (xs (Int32.toNatClampNeg 6))))) hx hb dL_law_392 rfl ?_
    refine W.lcmp hx hb dL_law_393 ?_
    refine lv_if_eq (tgt := 399) hx hb dL_law_394 (by decide) (fun _ => ?_) (fun h_ => absurd ((lg_cmp_eq _ _).mpr rfl) h_)
    refine lv_goto (tgt := 2435) hx hb dL_law_399 (by decide) ?_
    exact law_tail hl0 hx hb hr hml hown hts hX hbl hlocks hT hAN hA hN hbA hAs hS (Nat.le_of_ble_eq_true rfl) (Nat.le_of_ble_eq_true rfl) (lv_sub hl [2, 7] rfl)

set_option maxHeartbeats 4000000 in
set_option maxRecDepth 100000 in
theorem law_fault {p : Program} {l : Launch} {e : Env} {s : State} {m : MethodId} {below : List Frame} {meth : Method} {c : Code} {b : Nat} {xs : Nat → Int32} {A : Nat → Prop} (hl0 : l.stackTraces = false) (hx : p.tables.exec = Jvm.exec) (hb : c.code = cL_law) (hr : meth.sig.returnType = ret) (hml : c.maxLocals = 9) (hown : s.vm.findClass RL = some m.cls) (hts : ∀ w ∈ lw_all, w.before #[Value.ref b] s = true) (hX : va_X b 7 xs s s.heap) (hbl : b < s.heap.size) (hlocks : meth.locks = false) {N0 ade : Nat} {adB : Nat → Nat} (hT : BT N0 ade adB s) (hAN : ∀ q, A q → KA N0 q) (hA : ∀ q, s.heap.size ≤ q → A q) (hN : N0 ≤ s.heap.size) (hbA : ¬ A b) (hAs : ∀ q, A q → s.heap.size ≤ q) {G : va_G} {x : Nat} {dy : Nat} {ag : Nat} {qch : Nat} {qsh : Nat} {qsc : Nat} {pl : Nat} {qfl : Nat} {qac : Nat} {qcr : Nat} {qfg : Nat} {qgr : Nat} {qme : Nat} {qsf : Nat} {qsb : Nat} {qtu : Nat} {ou : Nat} {alo : ClassId} {fo : Nat → Int64} {mo_ : Nat} {ti : Nat} {mfl : Nat} {mcr : Nat} {mst : Nat} {mtu : Nat} {mfg : Nat} {mgr : Nat} {mme : Nat} {oud : Nat}  {H : Heap} {locs : List Loc} (hP : va_P G vwCl [(x, .inr (17, [.ref pl, .ref dy, .ref ag, .ref qch, .ref qsh, .ref qsc, .int 0, .int 0])), (pl, .inr (16, [.ref qfl, .ref qac, .ref qcr, .ref qfg, .ref qgr, .ref qme, .ref qsf, .ref qsb, .ref qtu, .int 0, .int 0, .int 0, .int 0, .int 0, .int 0, .int 0, .int 0, .int (-1), .int 1])), (ou, .inl (alo, 1, .inr (.inl fo))), (mo_, .inr (25, [.ref ti, .ref mfl, .ref mcr, .ref mst, .ref mtu, .int 1, .int 0, .int 1, .ref mfg, .ref mgr, .ref mme, .null, .int 0])), (mfl, .inr (5, [.int 0, .ref ade, .int 0]))] H) (hD : va_D A [(x, .inr (17, [.ref pl, .ref dy, .ref ag, .ref qch, .ref qsh, .ref qsc, .int 0, .int 0])), (pl, .inr (16, [.ref qfl, .ref qac, .ref qcr, .ref qfg, .ref qgr, .ref qme, .ref qsf, .ref qsb, .ref qtu, .int 0, .int 0, .int 0, .int 0, .int 0, .int 0, .int 0, .int 0, .int (-1), .int 1])), (ou, .inl (alo, 1, .inr (.inl fo))), (mo_, .inr (25, [.ref ti, .ref mfl, .ref mcr, .ref mst, .ref mtu, .int 1, .int 0, .int 1, .ref mfg, .ref mgr, .ref mme, .null, .int 0])), (mfl, .inr (5, [.int 0, .ref ade, .int 0]))]) (hK : va_K G vwCl [(alo, .long)] s) (hS : va_S A s.heap H locs) {ls : Array Slot} (hl : lv_has ls 9 [(5, .int 0), (4, .ref oud), (3, .ref ou), (2, .ref mo_), (1, .ref x), (0, .ref b)]) : W p l e room_1 s m #[Value.ref b] below meth c H locs 160 21200 (lw_Z below #[Value.ref b] s) (F0 m 402 ls []) := by
  refine lv_aload_n hx hb dL_law_402 rfl (lv_at hl 4 rfl) ?_
  refine lv_aload_n hx hb dL_law_403 rfl (lv_at hl 5 rfl) ?_
  refine lv_iload hx hb dL_law_404 (lv_at hl 0 rfl) ?_
  refine lv_iconst (v := 1) hx hb dL_law_406 (by decide) ?_
  refine lv_iadd hx hb dL_law_407 ?_
  refine lv_topi (fun v_ e_ => ?_)
  obtain rfl : v_ = 1 := e_.trans (by decide)
  refine va_sld hx hb hX hbl hbA hS (vin (by decide +kernel)) dL_law_408 ?_
  refine lv_aload_n hx hb dL_law_409 rfl (lv_at hl 5 rfl) ?_
  refine lv_iload hx hb dL_law_410 (lv_at hl 0 rfl) ?_
  refine lv_iconst (v := 2) hx hb dL_law_412 (by decide) ?_
  refine lv_iadd hx hb dL_law_413 ?_
  refine lv_topi (fun v_ e_ => ?_)
  obtain rfl : v_ = 2 := e_.trans (by decide)
  refine va_sld hx hb hX hbl hbA hS (vin (by decide +kernel)) dL_law_414 ?_
  refine lv_aload_n hx hb dL_law_415 rfl (lv_at hl 2 rfl) ?_
  refine ka_i (vx_runSW (As := [.ref x, .int (xs (Int32.toNatClampNeg 1)), .int (xs (Int32.toNatClampNeg 2)), .ref ou]) (rest := []) ⟨hx, hb, hml, hown, hts⟩ (c_L_fault l hl0 G N0 ade adB H.size x dy ag qch qsh qsc pl qfl qac qcr qfg qgr qme qsf qsb qtu (xs (Int32.toNatClampNeg 1)) (xs (Int32.toNatClampNeg 2)) ou alo fo) (vx_cwSW 4 hts (kgS q476 q477 q35 q478) rfl rfl rfl (by decide +kernel) ⟨(Nat.le_of_ble_eq_true rfl), (Nat.le_of_ble_eq_true rfl)⟩) (kpreS hP hD hK hAN hT hN hS [0, 1, 2] [0] (by decide) rfl rfl) rfl rfl hl.1 rfl (lv_room (Nat.le_of_ble_eq_true rfl)) dL_law_416 ⟨(Nat.le_of_ble_eq_true rfl), (Nat.le_of_ble_eq_true rfl)⟩) (ws := [(x, .inr (17, [.ref pl, .ref dy, .ref ag, .ref qch, .ref qsh, .ref qsc, .int 0, .int 0])), (pl, .inr (16, [.ref qfl, .ref qac, .ref qcr, .ref qfg, .ref qgr, .ref qme, .ref qsf, .ref qsb, .ref qtu, .int 0, .int 0, .int 0, .int 0, .int 0, .int 0, .int 0, .int 0, .int (-1), .int 1])), (ou, .inl (alo, 1, .inr (.inl fo))), (mo_, .inr (25, [.ref ti, .ref mfl, .ref mcr, .ref mst, .ref mtu, .int 1, .int 0, .int 1, .ref mfg, .ref mgr, .ref mme, .null, .int 0])), (mfl, .inr (5, [.int 0, .ref ade, .int 0]))]) (wc := [(x, .inr (17, [.ref pl, .ref dy, .ref ag, .ref qch, .ref qsh, .ref qsc, .int 0, .int 0])), (pl, .inr (16, [.ref qfl, .ref qac, .ref qcr, .ref qfg, .ref qgr, .ref qme, .ref qsf, .ref qsb, .ref qtu, .int 0, .int 0, .int 0, .int 0, .int 0, .int 0, .int 0, .int 0, .int (-1), .int 1])), (ou, .inl (alo, 1, .inr (.inl fo)))]) (wr := [(mo_, .inr (25, [.ref ti, .ref mfl, .ref mcr, .ref mst, .ref mtu, .int 1, .int 0, .int 1, .ref mfg, .ref mgr, .ref mme, .null, .int 0])), (mfl, .inr (5, [.int 0, .ref ade, .int 0]))]) hP hD hK hS hA [0, 1, 2] [3, 4] [] rfl rfl (by decide) (by decide) rfl (fun r_ u1 H locs hw2 hP hD hK hS => ?_)
  have hP : va_P G vwCl [(mo_, .inr (25, [.ref ti, .ref mfl, .ref mcr, .ref mst, .ref mtu, .int 1, .int 0, .int 1, .ref mfg, .ref mgr, .ref mme, .null, .int 0])), (mfl, .inr (5, [.int 0, .ref ade, .int 0]))] H := hP
  have hD : va_D A [(mo_, .inr (25, [.ref ti, .ref mfl, .ref mcr, .ref mst, .ref mtu, .int 1, .int 0, .int 1, .ref mfg, .ref mgr, .ref mme, .null, .int 0])), (mfl, .inr (5, [.int 0, .ref ade, .int 0]))] := hD
  have hK : va_K G vwCl [] s := hK
  refine W.widen (k := 161) (n := 21206) (Nat.le_of_ble_eq_true rfl) (Nat.le_of_ble_eq_true rfl) ?_
  obtain rfl : r_ = 1 := hw2
  refine lv_istore (lv' := [(6, .int 1), (5, .int 0), (4, .ref oud), (3, .ref ou), (2, .ref mo_), (1, .ref x), (0, .ref b)]) hx hb dL_law_419 hl (by decide) rfl (fun ls hl => ?_)
  refine lv_aload_n hx hb dL_law_421 rfl (lv_at hl 4 rfl) ?_
  refine lv_aload_n hx hb dL_law_422 rfl (lv_at hl 6 rfl) ?_
  refine lv_iload hx hb dL_law_423 (lv_at hl 1 rfl) ?_
  refine lv_iconst (v := 1) hx hb dL_law_425 (by decide) ?_
  refine lv_iadd hx hb dL_law_426 ?_
  refine lv_topi (fun v_ e_ => ?_)
  obtain rfl : v_ = 1 := e_.trans (by decide)
  refine va_sld hx hb hX hbl hbA hS (vin (by decide +kernel)) dL_law_427 ?_
  refine lv_aload_n hx hb dL_law_428 rfl (lv_at hl 6 rfl) ?_
  refine lv_iload hx hb dL_law_429 (lv_at hl 1 rfl) ?_
  refine lv_iconst (v := 2) hx hb dL_law_431 (by decide) ?_
  refine lv_iadd hx hb dL_law_432 ?_
  refine lv_topi (fun v_ e_ => ?_)
  obtain rfl : v_ = 2 := e_.trans (by decide)
  refine va_sld hx hb hX hbl hbA hS (vin (by decide +kernel)) dL_law_433 ?_
  refine ka_i (va_runV (As := [.int (xs (Int32.toNatClampNeg 1)), .int (xs (Int32.toNatClampNeg 2))]) (rest := []) ⟨hx, hb, hml, hown, hts⟩ (c_m_fault l G N0 ade adB H.size mo_ ti mfl mcr mst mtu mfg mgr mme 0 (xs (Int32.toNatClampNeg 1)) (xs (Int32.toNatClampNeg 2))) (cwV 2 hts (kgV q806 q807 q808 q49 q809) rfl rfl rfl (by decide +kernel) ⟨(Nat.le_of_ble_eq_true rfl), (Nat.le_of_ble_eq_true rfl)⟩) (kpreV (ci := 25) (q0 := 0) hP hD hK hAN hT hN hS [0, 1] [] (by decide) rfl rfl rfl rfl rfl) rfl rfl hl.1 rfl (lv_room (Nat.le_of_ble_eq_true rfl)) dL_law_434 ⟨(Nat.le_of_ble_eq_true rfl), (Nat.le_of_ble_eq_true rfl)⟩) (ws := [(mo_, .inr (25, [.ref ti, .ref mfl, .ref mcr, .ref mst, .ref mtu, .int 1, .int 0, .int 1, .ref mfg, .ref mgr, .ref mme, .null, .int 0])), (mfl, .inr (5, [.int 0, .ref ade, .int 0]))]) (wc := [(mo_, .inr (25, [.ref ti, .ref mfl, .ref mcr, .ref mst, .ref mtu, .int 1, .int 0, .int 1, .ref mfg, .ref mgr, .ref mme, .null, .int 0])), (mfl, .inr (5, [.int 0, .ref ade, .int 0]))]) (wr := []) hP hD hK hS hA [0, 1] [] [] rfl rfl (by decide) (by decide) rfl (fun r_ u4 H locs hw5 hP hD hK hS => ?_)
  obtain ⟨fs3, rfl⟩ : ∃ z_, z_ = u4 := ⟨_, rfl⟩
  have hP : va_P G vwCl [(mo_, .inr (25, fs3))] H := hP
  have hD : va_D A [(mo_, .inr (25, fs3))] := hD
  have hK : va_K G vwCl [] s := hK
  refine W.widen (k := 161) (n := 21206) (Nat.le_of_ble_eq_true rfl) (Nat.le_of_ble_eq_true rfl) ?_
  have hf6 : fs3[12]? = some (.int (sp_m_fault (xs (Int32.toNatClampNeg 1)) (xs (Int32.toNatClampNeg 2)))) := hw5.2
  obtain rfl : r_ = (sv_m_fault (xs (Int32.toNatClampNeg 1)) (xs (Int32.toNatClampNeg 2))) := hw5.1
  refine lv_istore (lv' := [(7, .int (sv_m_fault (xs (Int32.toNatClampNeg 1)) (xs (Int32.toNatClampNeg 2)))), (6, .int 1), (5, .int 0), (4, .ref oud), (3, .ref ou), (2, .ref mo_), (1, .ref x), (0, .ref b)]) hx hb dL_law_437 hl (by decide) rfl (fun ls hl => ?_)
  refine lv_aload_n hx hb dL_law_439 rfl (lv_at hl 5 rfl) ?_
  refine ka_i (va_runV (As := []) (rest := []) ⟨hx, hb, hml, hown, hts⟩ (c_m_thrown l G N0 ade adB H.size mo_ fs3 (sp_m_fault (xs (Int32.toNatClampNeg 1)) (xs (Int32.toNatClampNeg 2))) hf6) (cwV 0 hts (kgV q748 q749 q750 q49 q751) rfl rfl rfl (by decide +kernel) ⟨(Nat.le_of_ble_eq_true rfl), (Nat.le_of_ble_eq_true rfl)⟩) (kpreV (ci := 25) (q0 := 0) hP hD hK hAN hT hN hS [0] [] (by decide) rfl rfl rfl rfl rfl) rfl rfl hl.1 rfl (lv_room (Nat.le_of_ble_eq_true rfl)) dL_law_440 ⟨(Nat.le_of_ble_eq_true rfl), (Nat.le_of_ble_eq_true rfl)⟩) (ws := [(mo_, .inr (25, fs3))]) (wc := [(mo_, .inr (25, fs3))]) (wr := []) hP hD hK hS hA [0] [] [] rfl rfl (by decide) (by decide) rfl (fun r_ u8 H locs hw9 hP hD hK hS => ?_)
  have hP : va_P G vwCl [(mo_, .inr (25, fs3))] H := hP
  have hD : va_D A [(mo_, .inr (25, fs3))] := hD
  have hK : va_K G vwCl [] s := hK
  refine W.widen (k := 161) (n := 21206) (Nat.le_of_ble_eq_true rfl) (Nat.le_of_ble_eq_true rfl) ?_
  obtain rfl : r_ = (sp_m_fault (xs (Int32.toNatClampNeg 1)) (xs (Int32.toNatClampNeg 2))) := hw9
  refine lv_iload hx hb dL_law_443 (lv_at hl 1 rfl) ?_
  refine lv_icmp_eq (tgt := 450) hx hb dL_law_445 (by decide) (fun _ => ?_) (fun h_ => absurd (show (sp_m_fault (xs (Int32.toNatClampNeg 1)) (xs (Int32.toNatClampNeg 2))) = 1 from rfl) h_)
  refine lv_iload hx hb dL_law_450 (lv_at hl 1 rfl) ?_
  refine lv_if_ne (tgt := 474) hx hb dL_law_452 (by decide) (fun _ => ?_) (fun h_ => absurd h_ (by decide))
  refine lv_goto (tgt := 2435) hx hb dL_law_474 (by decide) ?_
  exact law_tail hl0 hx hb hr hml hown hts hX hbl hlocks hT hAN hA hN hbA hAs hS (Nat.le_of_ble_eq_true rfl) (Nat.le_of_ble_eq_true rfl) (lv_sub hl [2, 7] rfl)

set_option maxHeartbeats 4000000 in
set_option maxRecDepth 100000 in
theorem law_addCrew {p : Program} {l : Launch} {e : Env} {s : State} {m : MethodId} {below : List Frame} {meth : Method} {c : Code} {b : Nat} {xs : Nat → Int32} {A : Nat → Prop} (hl0 : l.stackTraces = false) (hx : p.tables.exec = Jvm.exec) (hb : c.code = cL_law) (hr : meth.sig.returnType = ret) (hml : c.maxLocals = 9) (hown : s.vm.findClass RL = some m.cls) (hts : ∀ w ∈ lw_all, w.before #[Value.ref b] s = true) (hX : va_X b 7 xs s s.heap) (hbl : b < s.heap.size) (hlocks : meth.locks = false) {N0 ade : Nat} {adB : Nat → Nat} (hT : BT N0 ade adB s) (hAN : ∀ q, A q → KA N0 q) (hA : ∀ q, s.heap.size ≤ q → A q) (hN : N0 ≤ s.heap.size) (hbA : ¬ A b) (hAs : ∀ q, A q → s.heap.size ≤ q) {G : va_G} {x : Nat} {dy : Nat} {ag : Nat} {qch : Nat} {qsh : Nat} {qsc : Nat} {pl : Nat} {qfl : Nat} {qac : Nat} {qcr : Nat} {qfg : Nat} {qgr : Nat} {qme : Nat} {qsf : Nat} {qsb : Nat} {qtu : Nat} {acr : ClassId} {fcr : Nat → Option Nat} {cr0 : Nat} {ou : Nat} {alo : ClassId} {fo : Nat → Int64} {mo_ : Nat} {ti : Nat} {mfl : Nat} {mcr : Nat} {mst : Nat} {mtu : Nat} {mfg : Nat} {mgr : Nat} {mme : Nat} {oud : Nat} (hcr0 : fcr (Int32.toNatClampNeg 0) = some cr0) {H : Heap} {locs : List Loc} (hP : va_P G vwCl [(x, .inr (17, [.ref pl, .ref dy, .ref ag, .ref qch, .ref qsh, .ref qsc, .int 0, .int 0])), (pl, .inr (16, [.ref qfl, .ref qac, .ref qcr, .ref qfg, .ref qgr, .ref qme, .ref qsf, .ref qsb, .ref qtu, .int 0, .int 0, .int 0, .int 0, .int 0, .int 0, .int 0, .int 0, .int (-1), .int 1])), (qcr, .inl (acr, 5, .inr (.inr (.inr (.inr fcr))))), (cr0, .inr (9, [.int 0, .int 0, .int 0, .int 0])), (ou, .inl (alo, 1, .inr (.inl fo))), (mo_, .inr (25, [.ref ti, .ref mfl, .ref mcr, .ref mst, .ref mtu, .int 1, .int 0, .int 1, .ref mfg, .ref mgr, .ref mme, .null, .int 0])), (mcr, .inr (5, [.int 0, .ref ade, .int 0]))] H) (hD : va_D A [(x, .inr (17, [.ref pl, .ref dy, .ref ag, .ref qch, .ref qsh, .ref qsc, .int 0, .int 0])), (pl, .inr (16, [.ref qfl, .ref qac, .ref qcr, .ref qfg, .ref qgr, .ref qme, .ref qsf, .ref qsb, .ref qtu, .int 0, .int 0, .int 0, .int 0, .int 0, .int 0, .int 0, .int 0, .int (-1), .int 1])), (qcr, .inl (acr, 5, .inr (.inr (.inr (.inr fcr))))), (cr0, .inr (9, [.int 0, .int 0, .int 0, .int 0])), (ou, .inl (alo, 1, .inr (.inl fo))), (mo_, .inr (25, [.ref ti, .ref mfl, .ref mcr, .ref mst, .ref mtu, .int 1, .int 0, .int 1, .ref mfg, .ref mgr, .ref mme, .null, .int 0])), (mcr, .inr (5, [.int 0, .ref ade, .int 0]))]) (hK : va_K G vwCl [(acr, .object "RunwayLoom$Crew"), (alo, .long)] s) (hS : va_S A s.heap H locs) {ls : Array Slot} (hl : lv_has ls 9 [(5, .int 0), (4, .ref oud), (3, .ref ou), (2, .ref mo_), (1, .ref x), (0, .ref b)]) : W p l e room_1 s m #[Value.ref b] below meth c H locs 160 21200 (lw_Z below #[Value.ref b] s) (F0 m 477 ls []) := by
  refine lv_aload_n hx hb dL_law_477 rfl (lv_at hl 4 rfl) ?_
  refine lv_aload_n hx hb dL_law_478 rfl (lv_at hl 5 rfl) ?_
  refine lv_iload hx hb dL_law_479 (lv_at hl 0 rfl) ?_
  refine lv_iconst (v := 1) hx hb dL_law_481 (by decide) ?_
  refine lv_iadd hx hb dL_law_482 ?_
  refine lv_topi (fun v_ e_ => ?_)
  obtain rfl : v_ = 1 := e_.trans (by decide)
  refine va_sld hx hb hX hbl hbA hS (vin (by decide +kernel)) dL_law_483 ?_
  refine lv_aload_n hx hb dL_law_484 rfl (lv_at hl 5 rfl) ?_
  refine lv_iload hx hb dL_law_485 (lv_at hl 0 rfl) ?_
  refine lv_iconst (v := 2) hx hb dL_law_487 (by decide) ?_
  refine lv_iadd hx hb dL_law_488 ?_
  refine lv_topi (fun v_ e_ => ?_)
  obtain rfl : v_ = 2 := e_.trans (by decide)
  refine va_sld hx hb hX hbl hbA hS (vin (by decide +kernel)) dL_law_489 ?_
  refine lv_aload_n hx hb dL_law_490 rfl (lv_at hl 5 rfl) ?_
  refine lv_iload hx hb dL_law_491 (lv_at hl 0 rfl) ?_
  refine lv_iconst (v := 3) hx hb dL_law_493 (by decide) ?_
  refine W.eq (g2 := F0 m 494 ls [.int 3, .int 0, .ref b, .int (xs (Int32.toNatClampNeg 2)), .int (xs (Int32.toNatClampNeg 1)), .ref x]) rfl ?_
  refine lv_iadd hx hb dL_law_494 ?_
  refine lv_topi (fun v_ e_ => ?_)
  obtain rfl : v_ = 3 := e_.trans (by decide)
  refine va_sld hx hb hX hbl hbA hS (vin (by decide +kernel)) dL_law_495 ?_
  refine lv_aload_n hx hb dL_law_496 rfl (lv_at hl 5 rfl) ?_
  refine lv_iload hx hb dL_law_497 (lv_at hl 0 rfl) ?_
  refine lv_iconst (v := 4) hx hb dL_law_499 (by decide) ?_
  refine lv_iadd hx hb dL_law_500 ?_
  refine lv_topi (fun v_ e_ => ?_)
  obtain rfl : v_ = 4 := e_.trans (by decide)
  refine va_sld hx hb hX hbl hbA hS (vin (by decide +kernel)) dL_law_501 ?_
  refine lv_if_eq (tgt := 509) hx hb dL_law_502 (by decide) (fun c_502 => ?_) (fun c_502 => ?_)
  · refine lv_iconst (v := 0) hx hb dL_law_509 (by decide) ?_
    refine lv_aload_n hx hb dL_law_510 rfl (lv_at hl 2 rfl) ?_
    refine ka_i (vx_runSW (As := [.ref x, .int (xs (Int32.toNatClampNeg 1)), .int (xs (Int32.toNatClampNeg 2)), .int (xs (Int32.toNatClampNeg 3)), .int 0, .ref ou]) (rest := []) ⟨hx, hb, hml, hown, hts⟩ (c_L_addCrew l hl0 G N0 ade adB H.size x dy ag qch qsh qsc pl qfl qac qcr qfg qgr qme qsf qsb qtu acr fcr cr0 hcr0 (xs (Int32.toNatClampNeg 1)) (xs (Int32.toNatClampNeg 2)) (xs (Int32.toNatClampNeg 3)) 0 rfl rfl ou alo fo) (vx_cwSW 6 hts (kgS q483 q484 q35 q485) rfl rfl rfl (by decide +kernel) ⟨(Nat.le_of_ble_eq_true rfl), (Nat.le_of_ble_eq_true rfl)⟩) (kpreS hP hD hK hAN hT hN hS [0, 1, 2, 3, 4] [0, 1] (by decide) rfl rfl) rfl rfl hl.1 rfl (lv_room (Nat.le_of_ble_eq_true rfl)) dL_law_511 ⟨(Nat.le_of_ble_eq_true rfl), (Nat.le_of_ble_eq_true rfl)⟩) (ws := [(x, .inr (17, [.ref pl, .ref dy, .ref ag, .ref qch, .ref qsh, .ref qsc, .int 0, .int 0])), (pl, .inr (16, [.ref qfl, .ref qac, .ref qcr, .ref qfg, .ref qgr, .ref qme, .ref qsf, .ref qsb, .ref qtu, .int 0, .int 0, .int 0, .int 0, .int 0, .int 0, .int 0, .int 0, .int (-1), .int 1])), (qcr, .inl (acr, 5, .inr (.inr (.inr (.inr fcr))))), (cr0, .inr (9, [.int 0, .int 0, .int 0, .int 0])), (ou, .inl (alo, 1, .inr (.inl fo))), (mo_, .inr (25, [.ref ti, .ref mfl, .ref mcr, .ref mst, .ref mtu, .int 1, .int 0, .int 1, .ref mfg, .ref mgr, .ref mme, .null, .int 0])), (mcr, .inr (5, [.int 0, .ref ade, .int 0]))]) (wc := [(x, .inr (17, [.ref pl, .ref dy, .ref ag, .ref qch, .ref qsh, .ref qsc, .int 0, .int 0])), (pl, .inr (16, [.ref qfl, .ref qac, .ref qcr, .ref qfg, .ref qgr, .ref qme, .ref qsf, .ref qsb, .ref qtu, .int 0, .int 0, .int 0, .int 0, .int 0, .int 0, .int 0, .int 0, .int (-1), .int 1])), (qcr, .inl (acr, 5, .inr (.inr (.inr (.inr fcr))))), (cr0, .inr (9, [.int 0, .int 0, .int 0, .int 0])), (ou, .inl (alo, 1, .inr (.inl fo)))]) (wr := [(mo_, .inr (25, [.ref ti, .ref mfl, .ref mcr, .ref mst, .ref mtu, .int 1, .int 0, .int 1, .ref mfg, .ref mgr, .ref mme, .null, .int 0])), (mcr, .inr (5, [.int 0, .ref ade, .int 0]))]) hP hD hK hS hA [0, 1, 2, 3, 4] [5, 6] [] rfl rfl (by decide) (by decide) rfl (fun r_ u2 H locs hw3 hP hD hK hS => ?_)
    obtain ⟨go1, rfl⟩ : ∃ z_, z_ = u2 := ⟨_, rfl⟩
    have hP : va_P G vwCl [(mo_, .inr (25, [.ref ti, .ref mfl, .ref mcr, .ref mst, .ref mtu, .int 1, .int 0, .int 1, .ref mfg, .ref mgr, .ref mme, .null, .int 0])), (mcr, .inr (5, [.int 0, .ref ade, .int 0])), (ou, .inl (alo, 1, .inr (.inl go1)))] H := hP
    have hD : va_D A [(mo_, .inr (25, [.ref ti, .ref mfl, .ref mcr, .ref mst, .ref mtu, .int 1, .int 0, .int 1, .ref mfg, .ref mgr, .ref mme, .null, .int 0])), (mcr, .inr (5, [.int 0, .ref ade, .int 0])), (ou, .inl (alo, 1, .inr (.inl go1)))] := hD
    have hK : va_K G vwCl [(alo, .long)] s := hK
    refine W.widen (k := 162) (n := 21212) (Nat.le_of_ble_eq_true rfl) (Nat.le_of_ble_eq_true rfl) ?_
    have hf4 : ((sp_addCrew (xs (Int32.toNatClampNeg 1)) (xs (Int32.toNatClampNeg 2)) (xs (Int32.toNatClampNeg 3)) 0) = 0 → go1 0 = Int32.toInt64 (sv_addCrew (xs (Int32.toNatClampNeg 1)) (xs (Int32.toNatClampNeg 2)) (xs (Int32.toNatClampNeg 3)) 0)) := hw3.2
    obtain rfl : r_ = (sp_addCrew (xs (Int32.toNatClampNeg 1)) (xs (Int32.toNatClampNeg 2)) (xs (Int32.toNatClampNeg 3)) 0) := hw3.1
    refine lv_istore (lv' := [(6, .int (sp_addCrew (xs (Int32.toNatClampNeg 1)) (xs (Int32.toNatClampNeg 2)) (xs (Int32.toNatClampNeg 3)) 0)), (5, .int 0), (4, .ref oud), (3, .ref ou), (2, .ref mo_), (1, .ref x), (0, .ref b)]) hx hb dL_law_514 hl (by decide) rfl (fun ls hl => ?_)
    refine lv_aload_n hx hb dL_law_516 rfl (lv_at hl 4 rfl) ?_
    refine lv_aload_n hx hb dL_law_517 rfl (lv_at hl 6 rfl) ?_
    refine lv_iload hx hb dL_law_518 (lv_at hl 1 rfl) ?_
    refine lv_iconst (v := 1) hx hb dL_law_520 (by decide) ?_
    refine lv_iadd hx hb dL_law_521 ?_
    refine lv_topi (fun v_ e_ => ?_)
    obtain rfl : v_ = 1 := e_.trans (by decide)
    refine va_sld hx hb hX hbl hbA hS (vin (by decide +kernel)) dL_law_522 ?_
    refine lv_aload_n hx hb dL_law_523 rfl (lv_at hl 6 rfl) ?_
    refine lv_iload hx hb dL_law_524 (lv_at hl 1 rfl) ?_
    refine lv_iconst (v := 2) hx hb dL_law_526 (by decide) ?_
    refine lv_iadd hx hb dL_law_527 ?_
    refine lv_topi (fun v_ e_ => ?_)
    obtain rfl : v_ = 2 := e_.trans (by decide)
    refine va_sld hx hb hX hbl hbA hS (vin (by decide +kernel)) dL_law_528 ?_
    refine lv_aload_n hx hb dL_law_529 rfl (lv_at hl 6 rfl) ?_
    refine lv_iload hx hb dL_law_530 (lv_at hl 1 rfl) ?_
    refine W.eq (g2 := F0 m 532 ls [.int 0, .ref b, .int (xs (Int32.toNatClampNeg 2)), .int (xs (Int32.toNatClampNeg 1)), .ref mo_]) rfl ?_
    refine lv_iconst (v := 3) hx hb dL_law_532 (by decide) ?_
    refine lv_iadd hx hb dL_law_533 ?_
    refine lv_topi (fun v_ e_ => ?_)
    obtain rfl : v_ = 3 := e_.trans (by decide)
    refine va_sld hx hb hX hbl hbA hS (vin (by decide +kernel)) dL_law_534 ?_
    refine lv_aload_n hx hb dL_law_535 rfl (lv_at hl 6 rfl) ?_
    refine lv_iload hx hb dL_law_536 (lv_at hl 1 rfl) ?_
    refine lv_iconst (v := 4) hx hb dL_law_538 (by decide) ?_
    refine lv_iadd hx hb dL_law_539 ?_
    refine lv_topi (fun v_ e_ => ?_)
    obtain rfl : v_ = 4 := e_.trans (by decide)
    refine va_sld hx hb hX hbl hbA hS (vin (by decide +kernel)) dL_law_540 ?_
    refine lv_if_eq (tgt := 548) hx hb dL_law_541 (by decide) (fun _ => ?_) (fun h_ => absurd c_502 h_)
    refine lv_iconst (v := 0) hx hb dL_law_548 (by decide) ?_
    refine ka_i (va_runV (As := [.int (xs (Int32.toNatClampNeg 1)), .int (xs (Int32.toNatClampNeg 2)), .int (xs (Int32.toNatClampNeg 3)), .int 0]) (rest := []) ⟨hx, hb, hml, hown, hts⟩ (c_m_addCrew l G N0 ade adB H.size mo_ ti mfl mcr mst mtu mfg mgr mme 0 (xs (Int32.toNatClampNeg 1)) (xs (Int32.toNatClampNeg 2)) (xs (Int32.toNatClampNeg 3)) 0 rfl rfl) (cwV 4 hts (kgV q811 q812 q813 q49 q814) rfl rfl rfl (by decide +kernel) ⟨(Nat.le_of_ble_eq_true rfl), (Nat.le_of_ble_eq_true rfl)⟩) (kpreV (ci := 25) (q0 := 0) hP hD hK hAN hT hN hS [0, 1] [] (by decide) rfl rfl rfl rfl rfl) rfl rfl hl.1 rfl (lv_room (Nat.le_of_ble_eq_true rfl)) dL_law_549 ⟨(Nat.le_of_ble_eq_true rfl), (Nat.le_of_ble_eq_true rfl)⟩) (ws := [(mo_, .inr (25, [.ref ti, .ref mfl, .ref mcr, .ref mst, .ref mtu, .int 1, .int 0, .int 1, .ref mfg, .ref mgr, .ref mme, .null, .int 0])), (mcr, .inr (5, [.int 0, .ref ade, .int 0])), (ou, .inl (alo, 1, .inr (.inl go1)))]) (wc := [(mo_, .inr (25, [.ref ti, .ref mfl, .ref mcr, .ref mst, .ref mtu, .int 1, .int 0, .int 1, .ref mfg, .ref mgr, .ref mme, .null, .int 0])), (mcr, .inr (5, [.int 0, .ref ade, .int 0]))]) (wr := [(ou, .inl (alo, 1, .inr (.inl go1)))]) hP hD hK hS hA [0, 1] [2] [0] rfl rfl (by decide) (by decide) rfl (fun r_ u6 H locs hw7 hP hD hK hS => ?_)
    obtain ⟨fs5, rfl⟩ : ∃ z_, z_ = u6 := ⟨_, rfl⟩
    have hP : va_P G vwCl [(ou, .inl (alo, 1, .inr (.inl go1))), (mo_, .inr (25, fs5))] H := hP
    have hD : va_D A [(ou, .inl (alo, 1, .inr (.inl go1))), (mo_, .inr (25, fs5))] := hD
    have hK : va_K G vwCl [(alo, .long)] s := hK
    refine W.widen (k := 164) (n := 21226) (Nat.le_of_ble_eq_true rfl) (Nat.le_of_ble_eq_true rfl) ?_
    have hf8 : fs5[12]? = some (.int (sp_m_addCrew (xs (Int32.toNatClampNeg 1)) (xs (Int32.toNatClampNeg 2)) (xs (Int32.toNatClampNeg 3)) 0)) := hw7.2
    obtain rfl : r_ = (sv_m_addCrew (xs (Int32.toNatClampNeg 1)) (xs (Int32.toNatClampNeg 2)) (xs (Int32.toNatClampNeg 3)) 0) := hw7.1
    refine lv_istore (lv' := [(7, .int (sv_m_addCrew (xs (Int32.toNatClampNeg 1)) (xs (Int32.toNatClampNeg 2)) (xs (Int32.toNatClampNeg 3)) 0)), (6, .int (sp_addCrew (xs (Int32.toNatClampNeg 1)) (xs (Int32.toNatClampNeg 2)) (xs (Int32.toNatClampNeg 3)) 0)), (5, .int 0), (4, .ref oud), (3, .ref ou), (2, .ref mo_), (1, .ref x), (0, .ref b)]) hx hb dL_law_552 hl (by decide) rfl (fun ls hl => ?_)
    refine lv_aload_n hx hb dL_law_554 rfl (lv_at hl 5 rfl) ?_
    refine ka_i (va_runV (As := []) (rest := []) ⟨hx, hb, hml, hown, hts⟩ (c_m_thrown l G N0 ade adB H.size mo_ fs5 (sp_m_addCrew (xs (Int32.toNatClampNeg 1)) (xs (Int32.toNatClampNeg 2)) (xs (Int32.toNatClampNeg 3)) 0) hf8) (cwV 0 hts (kgV q748 q749 q750 q49 q751) rfl rfl rfl (by decide +kernel) ⟨(Nat.le_of_ble_eq_true rfl), (Nat.le_of_ble_eq_true rfl)⟩) (kpreV (ci := 25) (q0 := 1) hP hD hK hAN hT hN hS [1] [] (by decide) rfl rfl rfl rfl rfl) rfl rfl hl.1 rfl (lv_room (Nat.le_of_ble_eq_true rfl)) dL_law_555 ⟨(Nat.le_of_ble_eq_true rfl), (Nat.le_of_ble_eq_true rfl)⟩) (ws := [(ou, .inl (alo, 1, .inr (.inl go1))), (mo_, .inr (25, fs5))]) (wc := [(mo_, .inr (25, fs5))]) (wr := [(ou, .inl (alo, 1, .inr (.inl go1)))]) hP hD hK hS hA [1] [0] [0] rfl rfl (by decide) (by decide) rfl (fun r_ u10 H locs hw11 hP hD hK hS => ?_)
    have hP : va_P G vwCl [(ou, .inl (alo, 1, .inr (.inl go1))), (mo_, .inr (25, fs5))] H := hP
    have hD : va_D A [(ou, .inl (alo, 1, .inr (.inl go1))), (mo_, .inr (25, fs5))] := hD
    have hK : va_K G vwCl [(alo, .long)] s := hK
    refine W.widen (k := 164) (n := 21226) (Nat.le_of_ble_eq_true rfl) (Nat.le_of_ble_eq_true rfl) ?_
    obtain rfl : r_ = (sp_m_addCrew (xs (Int32.toNatClampNeg 1)) (xs (Int32.toNatClampNeg 2)) (xs (Int32.toNatClampNeg 3)) 0) := hw11
    refine lv_iload hx hb dL_law_558 (lv_at hl 1 rfl) ?_
    refine lv_icmp_eq (tgt := 565) hx hb dL_law_560 (by decide) (fun _ => ?_) (fun h_ => absurd (tm_addCrew (xs (Int32.toNatClampNeg 1)) (xs (Int32.toNatClampNeg 2)) (xs (Int32.toNatClampNeg 3)) 0) h_)
    refine lv_iload hx hb dL_law_565 (lv_at hl 1 rfl) ?_
    refine lv_if_ne (tgt := 582) hx hb dL_law_567 (by decide) (fun c_567 => ?_) (fun c_567 => ?_)
    · refine lv_goto (tgt := 2435) hx hb dL_law_582 (by decide) ?_
      exact law_tail hl0 hx hb hr hml hown hts hX hbl hlocks hT hAN hA hN hbA hAs hS (Nat.le_of_ble_eq_true rfl) (Nat.le_of_ble_eq_true rfl) (lv_sub hl [2, 7] rfl)
    · refine lv_aload_n hx hb dL_law_570 rfl (lv_at hl 4 rfl) ?_
      refine lv_iconst (v := 0) hx hb dL_law_571 (by decide) ?_
      refine va_lald hx hb hK hP 0 0 rfl rfl (vin (by decide +kernel)) dL_law_572 ?_
      refine W.eq (g2 := F0 m 573 ls [.long (Int32.toInt64 (sv_m_addCrew (xs (Int32.toNatClampNeg 1)) (xs (Int32.toNatClampNeg 2)) (xs (Int32.toNatClampNeg 3)) 0))]) (congrArg (fun z_ => F0 m 573 ls (.long z_ :: [])) ((show go1 (Int32.toNatClampNeg 0) = (Int32.toInt64 (sv_m_addCrew (xs (Int32.toNatClampNeg 1)) (xs (Int32.toNatClampNeg 2)) (xs (Int32.toNatClampNeg 3)) 0)) from by rw [show Int32.toNatClampNeg 0 = 0 from by decide, hf4 c_567, tv_addCrew (xs (Int32.toNatClampNeg 1)) (xs (Int32.toNatClampNeg 2)) (xs (Int32.toNatClampNeg 3)) 0 c_567]))) ?_
      refine lv_iload hx hb dL_law_573 (lv_at hl 0 rfl) ?_
      refine lv_i2l (v := (Int32.toInt64 (sv_m_addCrew (xs (Int32.toNatClampNeg 1)) (xs (Int32.toNatClampNeg 2)) (xs (Int32.toNatClampNeg 3)) 0))) hx hb dL_law_575 rfl ?_
      refine W.lcmp hx hb dL_law_576 ?_
      refine lv_if_eq (tgt := 582) hx hb dL_law_577 (by decide) (fun _ => ?_) (fun h_ => absurd ((lg_cmp_eq _ _).mpr rfl) h_)
      refine lv_goto (tgt := 2435) hx hb dL_law_582 (by decide) ?_
      exact law_tail hl0 hx hb hr hml hown hts hX hbl hlocks hT hAN hA hN hbA hAs hS (Nat.le_of_ble_eq_true rfl) (Nat.le_of_ble_eq_true rfl) (lv_sub hl [2, 7] rfl)
  · refine lv_iconst (v := 1) hx hb dL_law_505 (by decide) ?_
    refine lv_goto (tgt := 510) hx hb dL_law_506 (by decide) ?_
    refine lv_aload_n hx hb dL_law_510 rfl (lv_at hl 2 rfl) ?_
    refine ka_i (vx_runSW (As := [.ref x, .int (xs (Int32.toNatClampNeg 1)), .int (xs (Int32.toNatClampNeg 2)), .int (xs (Int32.toNatClampNeg 3)), .int 1, .ref ou]) (rest := []) ⟨hx, hb, hml, hown, hts⟩ (c_L_addCrew l hl0 G N0 ade adB H.size x dy ag qch qsh qsc pl qfl qac qcr qfg qgr qme qsf qsb qtu acr fcr cr0 hcr0 (xs (Int32.toNatClampNeg 1)) (xs (Int32.toNatClampNeg 2)) (xs (Int32.toNatClampNeg 3)) 1 rfl rfl ou alo fo) (vx_cwSW 6 hts (kgS q483 q484 q35 q485) rfl rfl rfl (by decide +kernel) ⟨(Nat.le_of_ble_eq_true rfl), (Nat.le_of_ble_eq_true rfl)⟩) (kpreS hP hD hK hAN hT hN hS [0, 1, 2, 3, 4] [0, 1] (by decide) rfl rfl) rfl rfl hl.1 rfl (lv_room (Nat.le_of_ble_eq_true rfl)) dL_law_511 ⟨(Nat.le_of_ble_eq_true rfl), (Nat.le_of_ble_eq_true rfl)⟩) (ws := [(x, .inr (17, [.ref pl, .ref dy, .ref ag, .ref qch, .ref qsh, .ref qsc, .int 0, .int 0])), (pl, .inr (16, [.ref qfl, .ref qac, .ref qcr, .ref qfg, .ref qgr, .ref qme, .ref qsf, .ref qsb, .ref qtu, .int 0, .int 0, .int 0, .int 0, .int 0, .int 0, .int 0, .int 0, .int (-1), .int 1])), (qcr, .inl (acr, 5, .inr (.inr (.inr (.inr fcr))))), (cr0, .inr (9, [.int 0, .int 0, .int 0, .int 0])), (ou, .inl (alo, 1, .inr (.inl fo))), (mo_, .inr (25, [.ref ti, .ref mfl, .ref mcr, .ref mst, .ref mtu, .int 1, .int 0, .int 1, .ref mfg, .ref mgr, .ref mme, .null, .int 0])), (mcr, .inr (5, [.int 0, .ref ade, .int 0]))]) (wc := [(x, .inr (17, [.ref pl, .ref dy, .ref ag, .ref qch, .ref qsh, .ref qsc, .int 0, .int 0])), (pl, .inr (16, [.ref qfl, .ref qac, .ref qcr, .ref qfg, .ref qgr, .ref qme, .ref qsf, .ref qsb, .ref qtu, .int 0, .int 0, .int 0, .int 0, .int 0, .int 0, .int 0, .int 0, .int (-1), .int 1])), (qcr, .inl (acr, 5, .inr (.inr (.inr (.inr fcr))))), (cr0, .inr (9, [.int 0, .int 0, .int 0, .int 0])), (ou, .inl (alo, 1, .inr (.inl fo)))]) (wr := [(mo_, .inr (25, [.ref ti, .ref mfl, .ref mcr, .ref mst, .ref mtu, .int 1, .int 0, .int 1, .ref mfg, .ref mgr, .ref mme, .null, .int 0])), (mcr, .inr (5, [.int 0, .ref ade, .int 0]))]) hP hD hK hS hA [0, 1, 2, 3, 4] [5, 6] [] rfl rfl (by decide) (by decide) rfl (fun r_ u13 H locs hw14 hP hD hK hS => ?_)
    obtain ⟨go12, rfl⟩ : ∃ z_, z_ = u13 := ⟨_, rfl⟩
    have hP : va_P G vwCl [(mo_, .inr (25, [.ref ti, .ref mfl, .ref mcr, .ref mst, .ref mtu, .int 1, .int 0, .int 1, .ref mfg, .ref mgr, .ref mme, .null, .int 0])), (mcr, .inr (5, [.int 0, .ref ade, .int 0])), (ou, .inl (alo, 1, .inr (.inl go12)))] H := hP
    have hD : va_D A [(mo_, .inr (25, [.ref ti, .ref mfl, .ref mcr, .ref mst, .ref mtu, .int 1, .int 0, .int 1, .ref mfg, .ref mgr, .ref mme, .null, .int 0])), (mcr, .inr (5, [.int 0, .ref ade, .int 0])), (ou, .inl (alo, 1, .inr (.inl go12)))] := hD
    have hK : va_K G vwCl [(alo, .long)] s := hK
    refine W.widen (k := 162) (n := 21212) (Nat.le_of_ble_eq_true rfl) (Nat.le_of_ble_eq_true rfl) ?_
    have hf15 : ((sp_addCrew (xs (Int32.toNatClampNeg 1)) (xs (Int32.toNatClampNeg 2)) (xs (Int32.toNatClampNeg 3)) 1) = 0 → go12 0 = Int32.toInt64 (sv_addCrew (xs (Int32.toNatClampNeg 1)) (xs (Int32.toNatClampNeg 2)) (xs (Int32.toNatClampNeg 3)) 1)) := hw14.2
    obtain rfl : r_ = (sp_addCrew (xs (Int32.toNatClampNeg 1)) (xs (Int32.toNatClampNeg 2)) (xs (Int32.toNatClampNeg 3)) 1) := hw14.1
    refine lv_istore (lv' := [(6, .int (sp_addCrew (xs (Int32.toNatClampNeg 1)) (xs (Int32.toNatClampNeg 2)) (xs (Int32.toNatClampNeg 3)) 1)), (5, .int 0), (4, .ref oud), (3, .ref ou), (2, .ref mo_), (1, .ref x), (0, .ref b)]) hx hb dL_law_514 hl (by decide) rfl (fun ls hl => ?_)
    refine lv_aload_n hx hb dL_law_516 rfl (lv_at hl 4 rfl) ?_
    refine lv_aload_n hx hb dL_law_517 rfl (lv_at hl 6 rfl) ?_
    refine lv_iload hx hb dL_law_518 (lv_at hl 1 rfl) ?_
    refine lv_iconst (v := 1) hx hb dL_law_520 (by decide) ?_
    refine lv_iadd hx hb dL_law_521 ?_
    refine lv_topi (fun v_ e_ => ?_)
    obtain rfl : v_ = 1 := e_.trans (by decide)
    refine va_sld hx hb hX hbl hbA hS (vin (by decide +kernel)) dL_law_522 ?_
    refine lv_aload_n hx hb dL_law_523 rfl (lv_at hl 6 rfl) ?_
    refine lv_iload hx hb dL_law_524 (lv_at hl 1 rfl) ?_
    refine lv_iconst (v := 2) hx hb dL_law_526 (by decide) ?_
    refine lv_iadd hx hb dL_law_527 ?_
    refine lv_topi (fun v_ e_ => ?_)
    obtain rfl : v_ = 2 := e_.trans (by decide)
    refine va_sld hx hb hX hbl hbA hS (vin (by decide +kernel)) dL_law_528 ?_
    refine lv_aload_n hx hb dL_law_529 rfl (lv_at hl 6 rfl) ?_
    refine lv_iload hx hb dL_law_530 (lv_at hl 1 rfl) ?_
    refine W.eq (g2 := F0 m 532 ls [.int 0, .ref b, .int (xs (Int32.toNatClampNeg 2)), .int (xs (Int32.toNatClampNeg 1)), .ref mo_]) rfl ?_
    refine lv_iconst (v := 3) hx hb dL_law_532 (by decide) ?_
    refine lv_iadd hx hb dL_law_533 ?_
    refine lv_topi (fun v_ e_ => ?_)
    obtain rfl : v_ = 3 := e_.trans (by decide)
    refine va_sld hx hb hX hbl hbA hS (vin (by decide +kernel)) dL_law_534 ?_
    refine lv_aload_n hx hb dL_law_535 rfl (lv_at hl 6 rfl) ?_
    refine lv_iload hx hb dL_law_536 (lv_at hl 1 rfl) ?_
    refine lv_iconst (v := 4) hx hb dL_law_538 (by decide) ?_
    refine lv_iadd hx hb dL_law_539 ?_
    refine lv_topi (fun v_ e_ => ?_)
    obtain rfl : v_ = 4 := e_.trans (by decide)
    refine va_sld hx hb hX hbl hbA hS (vin (by decide +kernel)) dL_law_540 ?_
    refine lv_if_eq (tgt := 548) hx hb dL_law_541 (by decide) (fun h_ => absurd h_ c_502) (fun _ => ?_)
    refine lv_iconst (v := 1) hx hb dL_law_544 (by decide) ?_
    refine lv_goto (tgt := 549) hx hb dL_law_545 (by decide) ?_
    refine ka_i (va_runV (As := [.int (xs (Int32.toNatClampNeg 1)), .int (xs (Int32.toNatClampNeg 2)), .int (xs (Int32.toNatClampNeg 3)), .int 1]) (rest := []) ⟨hx, hb, hml, hown, hts⟩ (c_m_addCrew l G N0 ade adB H.size mo_ ti mfl mcr mst mtu mfg mgr mme 0 (xs (Int32.toNatClampNeg 1)) (xs (Int32.toNatClampNeg 2)) (xs (Int32.toNatClampNeg 3)) 1 rfl rfl) (cwV 4 hts (kgV q811 q812 q813 q49 q814) rfl rfl rfl (by decide +kernel) ⟨(Nat.le_of_ble_eq_true rfl), (Nat.le_of_ble_eq_true rfl)⟩) (kpreV (ci := 25) (q0 := 0) hP hD hK hAN hT hN hS [0, 1] [] (by decide) rfl rfl rfl rfl rfl) rfl rfl hl.1 rfl (lv_room (Nat.le_of_ble_eq_true rfl)) dL_law_549 ⟨(Nat.le_of_ble_eq_true rfl), (Nat.le_of_ble_eq_true rfl)⟩) (ws := [(mo_, .inr (25, [.ref ti, .ref mfl, .ref mcr, .ref mst, .ref mtu, .int 1, .int 0, .int 1, .ref mfg, .ref mgr, .ref mme, .null, .int 0])), (mcr, .inr (5, [.int 0, .ref ade, .int 0])), (ou, .inl (alo, 1, .inr (.inl go12)))]) (wc := [(mo_, .inr (25, [.ref ti, .ref mfl, .ref mcr, .ref mst, .ref mtu, .int 1, .int 0, .int 1, .ref mfg, .ref mgr, .ref mme, .null, .int 0])), (mcr, .inr (5, [.int 0, .ref ade, .int 0]))]) (wr := [(ou, .inl (alo, 1, .inr (.inl go12)))]) hP hD hK hS hA [0, 1] [2] [0] rfl rfl (by decide) (by decide) rfl (fun r_ u17 H locs hw18 hP hD hK hS => ?_)
    obtain ⟨fs16, rfl⟩ : ∃ z_, z_ = u17 := ⟨_, rfl⟩
    have hP : va_P G vwCl [(ou, .inl (alo, 1, .inr (.inl go12))), (mo_, .inr (25, fs16))] H := hP
    have hD : va_D A [(ou, .inl (alo, 1, .inr (.inl go12))), (mo_, .inr (25, fs16))] := hD
    have hK : va_K G vwCl [(alo, .long)] s := hK
    refine W.widen (k := 164) (n := 21226) (Nat.le_of_ble_eq_true rfl) (Nat.le_of_ble_eq_true rfl) ?_
    have hf19 : fs16[12]? = some (.int (sp_m_addCrew (xs (Int32.toNatClampNeg 1)) (xs (Int32.toNatClampNeg 2)) (xs (Int32.toNatClampNeg 3)) 1)) := hw18.2
    obtain rfl : r_ = (sv_m_addCrew (xs (Int32.toNatClampNeg 1)) (xs (Int32.toNatClampNeg 2)) (xs (Int32.toNatClampNeg 3)) 1) := hw18.1
    refine lv_istore (lv' := [(7, .int (sv_m_addCrew (xs (Int32.toNatClampNeg 1)) (xs (Int32.toNatClampNeg 2)) (xs (Int32.toNatClampNeg 3)) 1)), (6, .int (sp_addCrew (xs (Int32.toNatClampNeg 1)) (xs (Int32.toNatClampNeg 2)) (xs (Int32.toNatClampNeg 3)) 1)), (5, .int 0), (4, .ref oud), (3, .ref ou), (2, .ref mo_), (1, .ref x), (0, .ref b)]) hx hb dL_law_552 hl (by decide) rfl (fun ls hl => ?_)
    refine lv_aload_n hx hb dL_law_554 rfl (lv_at hl 5 rfl) ?_
    refine ka_i (va_runV (As := []) (rest := []) ⟨hx, hb, hml, hown, hts⟩ (c_m_thrown l G N0 ade adB H.size mo_ fs16 (sp_m_addCrew (xs (Int32.toNatClampNeg 1)) (xs (Int32.toNatClampNeg 2)) (xs (Int32.toNatClampNeg 3)) 1) hf19) (cwV 0 hts (kgV q748 q749 q750 q49 q751) rfl rfl rfl (by decide +kernel) ⟨(Nat.le_of_ble_eq_true rfl), (Nat.le_of_ble_eq_true rfl)⟩) (kpreV (ci := 25) (q0 := 1) hP hD hK hAN hT hN hS [1] [] (by decide) rfl rfl rfl rfl rfl) rfl rfl hl.1 rfl (lv_room (Nat.le_of_ble_eq_true rfl)) dL_law_555 ⟨(Nat.le_of_ble_eq_true rfl), (Nat.le_of_ble_eq_true rfl)⟩) (ws := [(ou, .inl (alo, 1, .inr (.inl go12))), (mo_, .inr (25, fs16))]) (wc := [(mo_, .inr (25, fs16))]) (wr := [(ou, .inl (alo, 1, .inr (.inl go12)))]) hP hD hK hS hA [1] [0] [0] rfl rfl (by decide) (by decide) rfl (fun r_ u21 H locs hw22 hP hD hK hS => ?_)
    have hP : va_P G vwCl [(ou, .inl (alo, 1, .inr (.inl go12))), (mo_, .inr (25, fs16))] H := hP
    have hD : va_D A [(ou, .inl (alo, 1, .inr (.inl go12))), (mo_, .inr (25, fs16))] := hD
    have hK : va_K G vwCl [(alo, .long)] s := hK
    refine W.widen (k := 164) (n := 21226) (Nat.le_of_ble_eq_true rfl) (Nat.le_of_ble_eq_true rfl) ?_
    obtain rfl : r_ = (sp_m_addCrew (xs (Int32.toNatClampNeg 1)) (xs (Int32.toNatClampNeg 2)) (xs (Int32.toNatClampNeg 3)) 1) := hw22
    refine lv_iload hx hb dL_law_558 (lv_at hl 1 rfl) ?_
    refine lv_icmp_eq (tgt := 565) hx hb dL_law_560 (by decide) (fun _ => ?_) (fun h_ => absurd (tm_addCrew (xs (Int32.toNatClampNeg 1)) (xs (Int32.toNatClampNeg 2)) (xs (Int32.toNatClampNeg 3)) 1) h_)
    refine lv_iload hx hb dL_law_565 (lv_at hl 1 rfl) ?_
    refine lv_if_ne (tgt := 582) hx hb dL_law_567 (by decide) (fun c_567 => ?_) (fun c_567 => ?_)
    · refine lv_goto (tgt := 2435) hx hb dL_law_582 (by decide) ?_
      exact law_tail hl0 hx hb hr hml hown hts hX hbl hlocks hT hAN hA hN hbA hAs hS (Nat.le_of_ble_eq_true rfl) (Nat.le_of_ble_eq_true rfl) (lv_sub hl [2, 7] rfl)
    · refine lv_aload_n hx hb dL_law_570 rfl (lv_at hl 4 rfl) ?_
      refine lv_iconst (v := 0) hx hb dL_law_571 (by decide) ?_
      refine va_lald hx hb hK hP 0 0 rfl rfl (vin (by decide +kernel)) dL_law_572 ?_
      refine W.eq (g2 := F0 m 573 ls [.long (Int32.toInt64 (sv_m_addCrew (xs (Int32.toNatClampNeg 1)) (xs (Int32.toNatClampNeg 2)) (xs (Int32.toNatClampNeg 3)) 1))]) (congrArg (fun z_ => F0 m 573 ls (.long z_ :: [])) ((show go12 (Int32.toNatClampNeg 0) = (Int32.toInt64 (sv_m_addCrew (xs (Int32.toNatClampNeg 1)) (xs (Int32.toNatClampNeg 2)) (xs (Int32.toNatClampNeg 3)) 1)) from by rw [show Int32.toNatClampNeg 0 = 0 from by decide, hf15 c_567, tv_addCrew (xs (Int32.toNatClampNeg 1)) (xs (Int32.toNatClampNeg 2)) (xs (Int32.toNatClampNeg 3)) 1 c_567]))) ?_
      refine lv_iload hx hb dL_law_573 (lv_at hl 0 rfl) ?_
      refine lv_i2l (v := (Int32.toInt64 (sv_m_addCrew (xs (Int32.toNatClampNeg 1)) (xs (Int32.toNatClampNeg 2)) (xs (Int32.toNatClampNeg 3)) 1))) hx hb dL_law_575 rfl ?_
      refine W.lcmp hx hb dL_law_576 ?_
      refine lv_if_eq (tgt := 582) hx hb dL_law_577 (by decide) (fun _ => ?_) (fun h_ => absurd ((lg_cmp_eq _ _).mpr rfl) h_)
      refine lv_goto (tgt := 2435) hx hb dL_law_582 (by decide) ?_
      exact law_tail hl0 hx hb hr hml hown hts hX hbl hlocks hT hAN hA hN hbA hAs hS (Nat.le_of_ble_eq_true rfl) (Nat.le_of_ble_eq_true rfl) (lv_sub hl [2, 7] rfl)

set_option maxHeartbeats 4000000 in
set_option maxRecDepth 100000 in
theorem law_addStand {p : Program} {l : Launch} {e : Env} {s : State} {m : MethodId} {below : List Frame} {meth : Method} {c : Code} {b : Nat} {xs : Nat → Int32} {A : Nat → Prop} (hl0 : l.stackTraces = false) (hx : p.tables.exec = Jvm.exec) (hb : c.code = cL_law) (hr : meth.sig.returnType = ret) (hml : c.maxLocals = 9) (hown : s.vm.findClass RL = some m.cls) (hts : ∀ w ∈ lw_all, w.before #[Value.ref b] s = true) (hX : va_X b 7 xs s s.heap) (hbl : b < s.heap.size) (hlocks : meth.locks = false) {N0 ade : Nat} {adB : Nat → Nat} (hT : BT N0 ade adB s) (hAN : ∀ q, A q → KA N0 q) (hA : ∀ q, s.heap.size ≤ q → A q) (hN : N0 ≤ s.heap.size) (hbA : ¬ A b) (hAs : ∀ q, A q → s.heap.size ≤ q) {G : va_G} {x : Nat} {dy : Nat} {ag : Nat} {qch : Nat} {qsh : Nat} {qsc : Nat} {pl : Nat} {qfl : Nat} {qac : Nat} {qcr : Nat} {qfg : Nat} {qgr : Nat} {qme : Nat} {qsf : Nat} {qsb : Nat} {qtu : Nat} {asf : ClassId} {fsf : Nat → Int32} {asb : ClassId} {fsb : Nat → Int32} {ou : Nat} {alo : ClassId} {fo : Nat → Int64} {mo_ : Nat} {ti : Nat} {mfl : Nat} {mcr : Nat} {mst : Nat} {mtu : Nat} {mfg : Nat} {mgr : Nat} {mme : Nat} {oud : Nat}  {H : Heap} {locs : List Loc} (hP : va_P G vwCl [(x, .inr (17, [.ref pl, .ref dy, .ref ag, .ref qch, .ref qsh, .ref qsc, .int 0, .int 0])), (pl, .inr (16, [.ref qfl, .ref qac, .ref qcr, .ref qfg, .ref qgr, .ref qme, .ref qsf, .ref qsb, .ref qtu, .int 0, .int 0, .int 0, .int 0, .int 0, .int 0, .int 0, .int 0, .int (-1), .int 1])), (qsf, .inl (asf, 6, .inl fsf)), (qsb, .inl (asb, 6, .inl fsb)), (ou, .inl (alo, 1, .inr (.inl fo))), (mo_, .inr (25, [.ref ti, .ref mfl, .ref mcr, .ref mst, .ref mtu, .int 1, .int 0, .int 1, .ref mfg, .ref mgr, .ref mme, .null, .int 0])), (mst, .inr (5, [.int 0, .ref ade, .int 0]))] H) (hD : va_D A [(x, .inr (17, [.ref pl, .ref dy, .ref ag, .ref qch, .ref qsh, .ref qsc, .int 0, .int 0])), (pl, .inr (16, [.ref qfl, .ref qac, .ref qcr, .ref qfg, .ref qgr, .ref qme, .ref qsf, .ref qsb, .ref qtu, .int 0, .int 0, .int 0, .int 0, .int 0, .int 0, .int 0, .int 0, .int (-1), .int 1])), (qsf, .inl (asf, 6, .inl fsf)), (qsb, .inl (asb, 6, .inl fsb)), (ou, .inl (alo, 1, .inr (.inl fo))), (mo_, .inr (25, [.ref ti, .ref mfl, .ref mcr, .ref mst, .ref mtu, .int 1, .int 0, .int 1, .ref mfg, .ref mgr, .ref mme, .null, .int 0])), (mst, .inr (5, [.int 0, .ref ade, .int 0]))]) (hK : va_K G vwCl [(asf, .int), (asb, .boolean), (alo, .long)] s) (hS : va_S A s.heap H locs) {ls : Array Slot} (hl : lv_has ls 9 [(5, .int 0), (4, .ref oud), (3, .ref ou), (2, .ref mo_), (1, .ref x), (0, .ref b)]) : W p l e room_1 s m #[Value.ref b] below meth c H locs 160 21200 (lw_Z below #[Value.ref b] s) (F0 m 585 ls []) := by
  refine lv_aload_n hx hb dL_law_585 rfl (lv_at hl 4 rfl) ?_
  refine lv_aload_n hx hb dL_law_586 rfl (lv_at hl 5 rfl) ?_
  refine lv_iload hx hb dL_law_587 (lv_at hl 0 rfl) ?_
  refine lv_iconst (v := 1) hx hb dL_law_589 (by decide) ?_
  refine lv_iadd hx hb dL_law_590 ?_
  refine lv_topi (fun v_ e_ => ?_)
  obtain rfl : v_ = 1 := e_.trans (by decide)
  refine va_sld hx hb hX hbl hbA hS (vin (by decide +kernel)) dL_law_591 ?_
  refine lv_aload_n hx hb dL_law_592 rfl (lv_at hl 5 rfl) ?_
  refine lv_iload hx hb dL_law_593 (lv_at hl 0 rfl) ?_
  refine lv_iconst (v := 2) hx hb dL_law_595 (by decide) ?_
  refine lv_iadd hx hb dL_law_596 ?_
  refine lv_topi (fun v_ e_ => ?_)
  obtain rfl : v_ = 2 := e_.trans (by decide)
  refine va_sld hx hb hX hbl hbA hS (vin (by decide +kernel)) dL_law_597 ?_
  refine lv_if_eq (tgt := 605) hx hb dL_law_598 (by decide) (fun c_598 => ?_) (fun c_598 => ?_)
  · refine lv_iconst (v := 0) hx hb dL_law_605 (by decide) ?_
    refine lv_aload_n hx hb dL_law_606 rfl (lv_at hl 2 rfl) ?_
    refine ka_i (vx_runSW (As := [.ref x, .int (xs (Int32.toNatClampNeg 1)), .int 0, .ref ou]) (rest := []) ⟨hx, hb, hml, hown, hts⟩ (c_L_addStand l hl0 G N0 ade adB H.size x dy ag qch qsh qsc pl qfl qac qcr qfg qgr qme qsf qsb qtu asf fsf asb fsb (xs (Int32.toNatClampNeg 1)) 0 ou alo fo) (vx_cwSW 4 hts (kgS q490 q491 q35 q492) rfl rfl rfl (by decide +kernel) ⟨(Nat.le_of_ble_eq_true rfl), (Nat.le_of_ble_eq_true rfl)⟩) (kpreS hP hD hK hAN hT hN hS [0, 1, 2, 3, 4] [0, 1, 2] (by decide) rfl rfl) rfl rfl hl.1 rfl (lv_room (Nat.le_of_ble_eq_true rfl)) dL_law_607 ⟨(Nat.le_of_ble_eq_true rfl), (Nat.le_of_ble_eq_true rfl)⟩) (ws := [(x, .inr (17, [.ref pl, .ref dy, .ref ag, .ref qch, .ref qsh, .ref qsc, .int 0, .int 0])), (pl, .inr (16, [.ref qfl, .ref qac, .ref qcr, .ref qfg, .ref qgr, .ref qme, .ref qsf, .ref qsb, .ref qtu, .int 0, .int 0, .int 0, .int 0, .int 0, .int 0, .int 0, .int 0, .int (-1), .int 1])), (qsf, .inl (asf, 6, .inl fsf)), (qsb, .inl (asb, 6, .inl fsb)), (ou, .inl (alo, 1, .inr (.inl fo))), (mo_, .inr (25, [.ref ti, .ref mfl, .ref mcr, .ref mst, .ref mtu, .int 1, .int 0, .int 1, .ref mfg, .ref mgr, .ref mme, .null, .int 0])), (mst, .inr (5, [.int 0, .ref ade, .int 0]))]) (wc := [(x, .inr (17, [.ref pl, .ref dy, .ref ag, .ref qch, .ref qsh, .ref qsc, .int 0, .int 0])), (pl, .inr (16, [.ref qfl, .ref qac, .ref qcr, .ref qfg, .ref qgr, .ref qme, .ref qsf, .ref qsb, .ref qtu, .int 0, .int 0, .int 0, .int 0, .int 0, .int 0, .int 0, .int 0, .int (-1), .int 1])), (qsf, .inl (asf, 6, .inl fsf)), (qsb, .inl (asb, 6, .inl fsb)), (ou, .inl (alo, 1, .inr (.inl fo)))]) (wr := [(mo_, .inr (25, [.ref ti, .ref mfl, .ref mcr, .ref mst, .ref mtu, .int 1, .int 0, .int 1, .ref mfg, .ref mgr, .ref mme, .null, .int 0])), (mst, .inr (5, [.int 0, .ref ade, .int 0]))]) hP hD hK hS hA [0, 1, 2, 3, 4] [5, 6] [] rfl rfl (by decide) (by decide) rfl (fun r_ u2 H locs hw3 hP hD hK hS => ?_)
    obtain ⟨go1, rfl⟩ : ∃ z_, z_ = u2 := ⟨_, rfl⟩
    have hP : va_P G vwCl [(mo_, .inr (25, [.ref ti, .ref mfl, .ref mcr, .ref mst, .ref mtu, .int 1, .int 0, .int 1, .ref mfg, .ref mgr, .ref mme, .null, .int 0])), (mst, .inr (5, [.int 0, .ref ade, .int 0])), (ou, .inl (alo, 1, .inr (.inl go1)))] H := hP
    have hD : va_D A [(mo_, .inr (25, [.ref ti, .ref mfl, .ref mcr, .ref mst, .ref mtu, .int 1, .int 0, .int 1, .ref mfg, .ref mgr, .ref mme, .null, .int 0])), (mst, .inr (5, [.int 0, .ref ade, .int 0])), (ou, .inl (alo, 1, .inr (.inl go1)))] := hD
    have hK : va_K G vwCl [(alo, .long)] s := hK
    refine W.widen (k := 161) (n := 21206) (Nat.le_of_ble_eq_true rfl) (Nat.le_of_ble_eq_true rfl) ?_
    have hf4 : ((sp_addStand (xs (Int32.toNatClampNeg 1)) 0) = 0 → go1 0 = Int32.toInt64 (sv_addStand (xs (Int32.toNatClampNeg 1)) 0)) := hw3.2
    obtain rfl : r_ = (sp_addStand (xs (Int32.toNatClampNeg 1)) 0) := hw3.1
    refine lv_istore (lv' := [(6, .int (sp_addStand (xs (Int32.toNatClampNeg 1)) 0)), (5, .int 0), (4, .ref oud), (3, .ref ou), (2, .ref mo_), (1, .ref x), (0, .ref b)]) hx hb dL_law_610 hl (by decide) rfl (fun ls hl => ?_)
    refine lv_aload_n hx hb dL_law_612 rfl (lv_at hl 4 rfl) ?_
    refine lv_aload_n hx hb dL_law_613 rfl (lv_at hl 6 rfl) ?_
    refine lv_iload hx hb dL_law_614 (lv_at hl 1 rfl) ?_
    refine lv_iconst (v := 1) hx hb dL_law_616 (by decide) ?_
    refine lv_iadd hx hb dL_law_617 ?_
    refine lv_topi (fun v_ e_ => ?_)
    obtain rfl : v_ = 1 := e_.trans (by decide)
    refine va_sld hx hb hX hbl hbA hS (vin (by decide +kernel)) dL_law_618 ?_
    refine lv_aload_n hx hb dL_law_619 rfl (lv_at hl 6 rfl) ?_
    refine lv_iload hx hb dL_law_620 (lv_at hl 1 rfl) ?_
    refine lv_iconst (v := 2) hx hb dL_law_622 (by decide) ?_
    refine lv_iadd hx hb dL_law_623 ?_
    refine lv_topi (fun v_ e_ => ?_)
    obtain rfl : v_ = 2 := e_.trans (by decide)
    refine va_sld hx hb hX hbl hbA hS (vin (by decide +kernel)) dL_law_624 ?_
    refine lv_if_eq (tgt := 632) hx hb dL_law_625 (by decide) (fun _ => ?_) (fun h_ => absurd c_598 h_)
    refine lv_iconst (v := 0) hx hb dL_law_632 (by decide) ?_
    refine ka_i (va_runV (As := [.int (xs (Int32.toNatClampNeg 1)), .int 0]) (rest := []) ⟨hx, hb, hml, hown, hts⟩ (c_m_addStand l G N0 ade adB H.size mo_ ti mfl mcr mst mtu mfg mgr mme 0 (xs (Int32.toNatClampNeg 1)) 0) (cwV 2 hts (kgV q827 q828 q829 q49 q830) rfl rfl rfl (by decide +kernel) ⟨(Nat.le_of_ble_eq_true rfl), (Nat.le_of_ble_eq_true rfl)⟩) (kpreV (ci := 25) (q0 := 0) hP hD hK hAN hT hN hS [0, 1] [] (by decide) rfl rfl rfl rfl rfl) rfl rfl hl.1 rfl (lv_room (Nat.le_of_ble_eq_true rfl)) dL_law_633 ⟨(Nat.le_of_ble_eq_true rfl), (Nat.le_of_ble_eq_true rfl)⟩) (ws := [(mo_, .inr (25, [.ref ti, .ref mfl, .ref mcr, .ref mst, .ref mtu, .int 1, .int 0, .int 1, .ref mfg, .ref mgr, .ref mme, .null, .int 0])), (mst, .inr (5, [.int 0, .ref ade, .int 0])), (ou, .inl (alo, 1, .inr (.inl go1)))]) (wc := [(mo_, .inr (25, [.ref ti, .ref mfl, .ref mcr, .ref mst, .ref mtu, .int 1, .int 0, .int 1, .ref mfg, .ref mgr, .ref mme, .null, .int 0])), (mst, .inr (5, [.int 0, .ref ade, .int 0]))]) (wr := [(ou, .inl (alo, 1, .inr (.inl go1)))]) hP hD hK hS hA [0, 1] [2] [0] rfl rfl (by decide) (by decide) rfl (fun r_ u6 H locs hw7 hP hD hK hS => ?_)
    obtain ⟨fs5, rfl⟩ : ∃ z_, z_ = u6 := ⟨_, rfl⟩
    have hP : va_P G vwCl [(ou, .inl (alo, 1, .inr (.inl go1))), (mo_, .inr (25, fs5))] H := hP
    have hD : va_D A [(ou, .inl (alo, 1, .inr (.inl go1))), (mo_, .inr (25, fs5))] := hD
    have hK : va_K G vwCl [(alo, .long)] s := hK
    refine W.widen (k := 163) (n := 21218) (Nat.le_of_ble_eq_true rfl) (Nat.le_of_ble_eq_true rfl) ?_
    have hf8 : fs5[12]? = some (.int (sp_m_addStand (xs (Int32.toNatClampNeg 1)) 0)) := hw7.2
    obtain rfl : r_ = (sv_m_addStand (xs (Int32.toNatClampNeg 1)) 0) := hw7.1
    refine lv_istore (lv' := [(7, .int (sv_m_addStand (xs (Int32.toNatClampNeg 1)) 0)), (6, .int (sp_addStand (xs (Int32.toNatClampNeg 1)) 0)), (5, .int 0), (4, .ref oud), (3, .ref ou), (2, .ref mo_), (1, .ref x), (0, .ref b)]) hx hb dL_law_636 hl (by decide) rfl (fun ls hl => ?_)
    refine lv_aload_n hx hb dL_law_638 rfl (lv_at hl 5 rfl) ?_
    refine ka_i (va_runV (As := []) (rest := []) ⟨hx, hb, hml, hown, hts⟩ (c_m_thrown l G N0 ade adB H.size mo_ fs5 (sp_m_addStand (xs (Int32.toNatClampNeg 1)) 0) hf8) (cwV 0 hts (kgV q748 q749 q750 q49 q751) rfl rfl rfl (by decide +kernel) ⟨(Nat.le_of_ble_eq_true rfl), (Nat.le_of_ble_eq_true rfl)⟩) (kpreV (ci := 25) (q0 := 1) hP hD hK hAN hT hN hS [1] [] (by decide) rfl rfl rfl rfl rfl) rfl rfl hl.1 rfl (lv_room (Nat.le_of_ble_eq_true rfl)) dL_law_639 ⟨(Nat.le_of_ble_eq_true rfl), (Nat.le_of_ble_eq_true rfl)⟩) (ws := [(ou, .inl (alo, 1, .inr (.inl go1))), (mo_, .inr (25, fs5))]) (wc := [(mo_, .inr (25, fs5))]) (wr := [(ou, .inl (alo, 1, .inr (.inl go1)))]) hP hD hK hS hA [1] [0] [0] rfl rfl (by decide) (by decide) rfl (fun r_ u10 H locs hw11 hP hD hK hS => ?_)
    have hP : va_P G vwCl [(ou, .inl (alo, 1, .inr (.inl go1))), (mo_, .inr (25, fs5))] H := hP
    have hD : va_D A [(ou, .inl (alo, 1, .inr (.inl go1))), (mo_, .inr (25, fs5))] := hD
    have hK : va_K G vwCl [(alo, .long)] s := hK
    refine W.widen (k := 163) (n := 21218) (Nat.le_of_ble_eq_true rfl) (Nat.le_of_ble_eq_true rfl) ?_
    obtain rfl : r_ = (sp_m_addStand (xs (Int32.toNatClampNeg 1)) 0) := hw11
    refine lv_iload hx hb dL_law_642 (lv_at hl 1 rfl) ?_
    refine lv_icmp_eq (tgt := 649) hx hb dL_law_644 (by decide) (fun _ => ?_) (fun h_ => absurd (tm_addStand (xs (Int32.toNatClampNeg 1)) 0) h_)
    refine lv_iload hx hb dL_law_649 (lv_at hl 1 rfl) ?_
    refine lv_if_ne (tgt := 666) hx hb dL_law_651 (by decide) (fun c_651 => ?_) (fun c_651 => ?_)
    · refine lv_goto (tgt := 2435) hx hb dL_law_666 (by decide) ?_
      exact law_tail hl0 hx hb hr hml hown hts hX hbl hlocks hT hAN hA hN hbA hAs hS (Nat.le_of_ble_eq_true rfl) (Nat.le_of_ble_eq_true rfl) (lv_sub hl [2, 7] rfl)
    · refine lv_aload_n hx hb dL_law_654 rfl (lv_at hl 4 rfl) ?_
      refine lv_iconst (v := 0) hx hb dL_law_655 (by decide) ?_
      refine va_lald hx hb hK hP 0 0 rfl rfl (vin (by decide +kernel)) dL_law_656 ?_
      refine W.eq (g2 := F0 m 657 ls [.long (Int32.toInt64 (sv_m_addStand (xs (Int32.toNatClampNeg 1)) 0))]) (congrArg (fun z_ => F0 m 657 ls (.long z_ :: [])) ((show go1 (Int32.toNatClampNeg 0) = (Int32.toInt64 (sv_m_addStand (xs (Int32.toNatClampNeg 1)) 0)) from by rw [show Int32.toNatClampNeg 0 = 0 from by decide, hf4 c_651, tv_addStand (xs (Int32.toNatClampNeg 1)) 0 c_651]))) ?_
      refine lv_iload hx hb dL_law_657 (lv_at hl 0 rfl) ?_
      refine lv_i2l (v := (Int32.toInt64 (sv_m_addStand (xs (Int32.toNatClampNeg 1)) 0))) hx hb dL_law_659 rfl ?_
      refine W.lcmp hx hb dL_law_660 ?_
      refine lv_if_eq (tgt := 666) hx hb dL_law_661 (by decide) (fun _ => ?_) (fun h_ => absurd ((lg_cmp_eq _ _).mpr rfl) h_)
      refine lv_goto (tgt := 2435) hx hb dL_law_666 (by decide) ?_
      exact law_tail hl0 hx hb hr hml hown hts hX hbl hlocks hT hAN hA hN hbA hAs hS (Nat.le_of_ble_eq_true rfl) (Nat.le_of_ble_eq_true rfl) (lv_sub hl [2, 7] rfl)
  · refine lv_iconst (v := 1) hx hb dL_law_601 (by decide) ?_
    refine lv_goto (tgt := 606) hx hb dL_law_602 (by decide) ?_
    refine lv_aload_n hx hb dL_law_606 rfl (lv_at hl 2 rfl) ?_
    refine ka_i (vx_runSW (As := [.ref x, .int (xs (Int32.toNatClampNeg 1)), .int 1, .ref ou]) (rest := []) ⟨hx, hb, hml, hown, hts⟩ (c_L_addStand l hl0 G N0 ade adB H.size x dy ag qch qsh qsc pl qfl qac qcr qfg qgr qme qsf qsb qtu asf fsf asb fsb (xs (Int32.toNatClampNeg 1)) 1 ou alo fo) (vx_cwSW 4 hts (kgS q490 q491 q35 q492) rfl rfl rfl (by decide +kernel) ⟨(Nat.le_of_ble_eq_true rfl), (Nat.le_of_ble_eq_true rfl)⟩) (kpreS hP hD hK hAN hT hN hS [0, 1, 2, 3, 4] [0, 1, 2] (by decide) rfl rfl) rfl rfl hl.1 rfl (lv_room (Nat.le_of_ble_eq_true rfl)) dL_law_607 ⟨(Nat.le_of_ble_eq_true rfl), (Nat.le_of_ble_eq_true rfl)⟩) (ws := [(x, .inr (17, [.ref pl, .ref dy, .ref ag, .ref qch, .ref qsh, .ref qsc, .int 0, .int 0])), (pl, .inr (16, [.ref qfl, .ref qac, .ref qcr, .ref qfg, .ref qgr, .ref qme, .ref qsf, .ref qsb, .ref qtu, .int 0, .int 0, .int 0, .int 0, .int 0, .int 0, .int 0, .int 0, .int (-1), .int 1])), (qsf, .inl (asf, 6, .inl fsf)), (qsb, .inl (asb, 6, .inl fsb)), (ou, .inl (alo, 1, .inr (.inl fo))), (mo_, .inr (25, [.ref ti, .ref mfl, .ref mcr, .ref mst, .ref mtu, .int 1, .int 0, .int 1, .ref mfg, .ref mgr, .ref mme, .null, .int 0])), (mst, .inr (5, [.int 0, .ref ade, .int 0]))]) (wc := [(x, .inr (17, [.ref pl, .ref dy, .ref ag, .ref qch, .ref qsh, .ref qsc, .int 0, .int 0])), (pl, .inr (16, [.ref qfl, .ref qac, .ref qcr, .ref qfg, .ref qgr, .ref qme, .ref qsf, .ref qsb, .ref qtu, .int 0, .int 0, .int 0, .int 0, .int 0, .int 0, .int 0, .int 0, .int (-1), .int 1])), (qsf, .inl (asf, 6, .inl fsf)), (qsb, .inl (asb, 6, .inl fsb)), (ou, .inl (alo, 1, .inr (.inl fo)))]) (wr := [(mo_, .inr (25, [.ref ti, .ref mfl, .ref mcr, .ref mst, .ref mtu, .int 1, .int 0, .int 1, .ref mfg, .ref mgr, .ref mme, .null, .int 0])), (mst, .inr (5, [.int 0, .ref ade, .int 0]))]) hP hD hK hS hA [0, 1, 2, 3, 4] [5, 6] [] rfl rfl (by decide) (by decide) rfl (fun r_ u13 H locs hw14 hP hD hK hS => ?_)
    obtain ⟨go12, rfl⟩ : ∃ z_, z_ = u13 := ⟨_, rfl⟩
    have hP : va_P G vwCl [(mo_, .inr (25, [.ref ti, .ref mfl, .ref mcr, .ref mst, .ref mtu, .int 1, .int 0, .int 1, .ref mfg, .ref mgr, .ref mme, .null, .int 0])), (mst, .inr (5, [.int 0, .ref ade, .int 0])), (ou, .inl (alo, 1, .inr (.inl go12)))] H := hP
    have hD : va_D A [(mo_, .inr (25, [.ref ti, .ref mfl, .ref mcr, .ref mst, .ref mtu, .int 1, .int 0, .int 1, .ref mfg, .ref mgr, .ref mme, .null, .int 0])), (mst, .inr (5, [.int 0, .ref ade, .int 0])), (ou, .inl (alo, 1, .inr (.inl go12)))] := hD
    have hK : va_K G vwCl [(alo, .long)] s := hK
    refine W.widen (k := 161) (n := 21206) (Nat.le_of_ble_eq_true rfl) (Nat.le_of_ble_eq_true rfl) ?_
    have hf15 : ((sp_addStand (xs (Int32.toNatClampNeg 1)) 1) = 0 → go12 0 = Int32.toInt64 (sv_addStand (xs (Int32.toNatClampNeg 1)) 1)) := hw14.2
    obtain rfl : r_ = (sp_addStand (xs (Int32.toNatClampNeg 1)) 1) := hw14.1
    refine lv_istore (lv' := [(6, .int (sp_addStand (xs (Int32.toNatClampNeg 1)) 1)), (5, .int 0), (4, .ref oud), (3, .ref ou), (2, .ref mo_), (1, .ref x), (0, .ref b)]) hx hb dL_law_610 hl (by decide) rfl (fun ls hl => ?_)
    refine lv_aload_n hx hb dL_law_612 rfl (lv_at hl 4 rfl) ?_
    refine lv_aload_n hx hb dL_law_613 rfl (lv_at hl 6 rfl) ?_
    refine lv_iload hx hb dL_law_614 (lv_at hl 1 rfl) ?_
    refine lv_iconst (v := 1) hx hb dL_law_616 (by decide) ?_
    refine lv_iadd hx hb dL_law_617 ?_
    refine lv_topi (fun v_ e_ => ?_)
    obtain rfl : v_ = 1 := e_.trans (by decide)
    refine va_sld hx hb hX hbl hbA hS (vin (by decide +kernel)) dL_law_618 ?_
    refine lv_aload_n hx hb dL_law_619 rfl (lv_at hl 6 rfl) ?_
    refine lv_iload hx hb dL_law_620 (lv_at hl 1 rfl) ?_
    refine lv_iconst (v := 2) hx hb dL_law_622 (by decide) ?_
    refine lv_iadd hx hb dL_law_623 ?_
    refine lv_topi (fun v_ e_ => ?_)
    obtain rfl : v_ = 2 := e_.trans (by decide)
    refine va_sld hx hb hX hbl hbA hS (vin (by decide +kernel)) dL_law_624 ?_
    refine lv_if_eq (tgt := 632) hx hb dL_law_625 (by decide) (fun h_ => absurd h_ c_598) (fun _ => ?_)
    refine lv_iconst (v := 1) hx hb dL_law_628 (by decide) ?_
    refine lv_goto (tgt := 633) hx hb dL_law_629 (by decide) ?_
    refine ka_i (va_runV (As := [.int (xs (Int32.toNatClampNeg 1)), .int 1]) (rest := []) ⟨hx, hb, hml, hown, hts⟩ (c_m_addStand l G N0 ade adB H.size mo_ ti mfl mcr mst mtu mfg mgr mme 0 (xs (Int32.toNatClampNeg 1)) 1) (cwV 2 hts (kgV q827 q828 q829 q49 q830) rfl rfl rfl (by decide +kernel) ⟨(Nat.le_of_ble_eq_true rfl), (Nat.le_of_ble_eq_true rfl)⟩) (kpreV (ci := 25) (q0 := 0) hP hD hK hAN hT hN hS [0, 1] [] (by decide) rfl rfl rfl rfl rfl) rfl rfl hl.1 rfl (lv_room (Nat.le_of_ble_eq_true rfl)) dL_law_633 ⟨(Nat.le_of_ble_eq_true rfl), (Nat.le_of_ble_eq_true rfl)⟩) (ws := [(mo_, .inr (25, [.ref ti, .ref mfl, .ref mcr, .ref mst, .ref mtu, .int 1, .int 0, .int 1, .ref mfg, .ref mgr, .ref mme, .null, .int 0])), (mst, .inr (5, [.int 0, .ref ade, .int 0])), (ou, .inl (alo, 1, .inr (.inl go12)))]) (wc := [(mo_, .inr (25, [.ref ti, .ref mfl, .ref mcr, .ref mst, .ref mtu, .int 1, .int 0, .int 1, .ref mfg, .ref mgr, .ref mme, .null, .int 0])), (mst, .inr (5, [.int 0, .ref ade, .int 0]))]) (wr := [(ou, .inl (alo, 1, .inr (.inl go12)))]) hP hD hK hS hA [0, 1] [2] [0] rfl rfl (by decide) (by decide) rfl (fun r_ u17 H locs hw18 hP hD hK hS => ?_)
    obtain ⟨fs16, rfl⟩ : ∃ z_, z_ = u17 := ⟨_, rfl⟩
    have hP : va_P G vwCl [(ou, .inl (alo, 1, .inr (.inl go12))), (mo_, .inr (25, fs16))] H := hP
    have hD : va_D A [(ou, .inl (alo, 1, .inr (.inl go12))), (mo_, .inr (25, fs16))] := hD
    have hK : va_K G vwCl [(alo, .long)] s := hK
    refine W.widen (k := 163) (n := 21218) (Nat.le_of_ble_eq_true rfl) (Nat.le_of_ble_eq_true rfl) ?_
    have hf19 : fs16[12]? = some (.int (sp_m_addStand (xs (Int32.toNatClampNeg 1)) 1)) := hw18.2
    obtain rfl : r_ = (sv_m_addStand (xs (Int32.toNatClampNeg 1)) 1) := hw18.1
    refine lv_istore (lv' := [(7, .int (sv_m_addStand (xs (Int32.toNatClampNeg 1)) 1)), (6, .int (sp_addStand (xs (Int32.toNatClampNeg 1)) 1)), (5, .int 0), (4, .ref oud), (3, .ref ou), (2, .ref mo_), (1, .ref x), (0, .ref b)]) hx hb dL_law_636 hl (by decide) rfl (fun ls hl => ?_)
    refine lv_aload_n hx hb dL_law_638 rfl (lv_at hl 5 rfl) ?_
    refine ka_i (va_runV (As := []) (rest := []) ⟨hx, hb, hml, hown, hts⟩ (c_m_thrown l G N0 ade adB H.size mo_ fs16 (sp_m_addStand (xs (Int32.toNatClampNeg 1)) 1) hf19) (cwV 0 hts (kgV q748 q749 q750 q49 q751) rfl rfl rfl (by decide +kernel) ⟨(Nat.le_of_ble_eq_true rfl), (Nat.le_of_ble_eq_true rfl)⟩) (kpreV (ci := 25) (q0 := 1) hP hD hK hAN hT hN hS [1] [] (by decide) rfl rfl rfl rfl rfl) rfl rfl hl.1 rfl (lv_room (Nat.le_of_ble_eq_true rfl)) dL_law_639 ⟨(Nat.le_of_ble_eq_true rfl), (Nat.le_of_ble_eq_true rfl)⟩) (ws := [(ou, .inl (alo, 1, .inr (.inl go12))), (mo_, .inr (25, fs16))]) (wc := [(mo_, .inr (25, fs16))]) (wr := [(ou, .inl (alo, 1, .inr (.inl go12)))]) hP hD hK hS hA [1] [0] [0] rfl rfl (by decide) (by decide) rfl (fun r_ u21 H locs hw22 hP hD hK hS => ?_)
    have hP : va_P G vwCl [(ou, .inl (alo, 1, .inr (.inl go12))), (mo_, .inr (25, fs16))] H := hP
    have hD : va_D A [(ou, .inl (alo, 1, .inr (.inl go12))), (mo_, .inr (25, fs16))] := hD
    have hK : va_K G vwCl [(alo, .long)] s := hK
    refine W.widen (k := 163) (n := 21218) (Nat.le_of_ble_eq_true rfl) (Nat.le_of_ble_eq_true rfl) ?_
    obtain rfl : r_ = (sp_m_addStand (xs (Int32.toNatClampNeg 1)) 1) := hw22
    refine lv_iload hx hb dL_law_642 (lv_at hl 1 rfl) ?_
    refine lv_icmp_eq (tgt := 649) hx hb dL_law_644 (by decide) (fun _ => ?_) (fun h_ => absurd (tm_addStand (xs (Int32.toNatClampNeg 1)) 1) h_)
    refine lv_iload hx hb dL_law_649 (lv_at hl 1 rfl) ?_
    refine lv_if_ne (tgt := 666) hx hb dL_law_651 (by decide) (fun c_651 => ?_) (fun c_651 => ?_)
    · refine lv_goto (tgt := 2435) hx hb dL_law_666 (by decide) ?_
      exact law_tail hl0 hx hb hr hml hown hts hX hbl hlocks hT hAN hA hN hbA hAs hS (Nat.le_of_ble_eq_true rfl) (Nat.le_of_ble_eq_true rfl) (lv_sub hl [2, 7] rfl)
    · refine lv_aload_n hx hb dL_law_654 rfl (lv_at hl 4 rfl) ?_
      refine lv_iconst (v := 0) hx hb dL_law_655 (by decide) ?_
      refine va_lald hx hb hK hP 0 0 rfl rfl (vin (by decide +kernel)) dL_law_656 ?_
      refine W.eq (g2 := F0 m 657 ls [.long (Int32.toInt64 (sv_m_addStand (xs (Int32.toNatClampNeg 1)) 1))]) (congrArg (fun z_ => F0 m 657 ls (.long z_ :: [])) ((show go12 (Int32.toNatClampNeg 0) = (Int32.toInt64 (sv_m_addStand (xs (Int32.toNatClampNeg 1)) 1)) from by rw [show Int32.toNatClampNeg 0 = 0 from by decide, hf15 c_651, tv_addStand (xs (Int32.toNatClampNeg 1)) 1 c_651]))) ?_
      refine lv_iload hx hb dL_law_657 (lv_at hl 0 rfl) ?_
      refine lv_i2l (v := (Int32.toInt64 (sv_m_addStand (xs (Int32.toNatClampNeg 1)) 1))) hx hb dL_law_659 rfl ?_
      refine W.lcmp hx hb dL_law_660 ?_
      refine lv_if_eq (tgt := 666) hx hb dL_law_661 (by decide) (fun _ => ?_) (fun h_ => absurd ((lg_cmp_eq _ _).mpr rfl) h_)
      refine lv_goto (tgt := 2435) hx hb dL_law_666 (by decide) ?_
      exact law_tail hl0 hx hb hr hml hown hts hX hbl hlocks hT hAN hA hN hbA hAs hS (Nat.le_of_ble_eq_true rfl) (Nat.le_of_ble_eq_true rfl) (lv_sub hl [2, 7] rfl)

set_option maxHeartbeats 4000000 in
set_option maxRecDepth 100000 in
theorem law_turnRunway {p : Program} {l : Launch} {e : Env} {s : State} {m : MethodId} {below : List Frame} {meth : Method} {c : Code} {b : Nat} {xs : Nat → Int32} {A : Nat → Prop} (hl0 : l.stackTraces = false) (hx : p.tables.exec = Jvm.exec) (hb : c.code = cL_law) (hr : meth.sig.returnType = ret) (hml : c.maxLocals = 9) (hown : s.vm.findClass RL = some m.cls) (hts : ∀ w ∈ lw_all, w.before #[Value.ref b] s = true) (hX : va_X b 7 xs s s.heap) (hbl : b < s.heap.size) (hlocks : meth.locks = false) {N0 ade : Nat} {adB : Nat → Nat} (hT : BT N0 ade adB s) (hAN : ∀ q, A q → KA N0 q) (hA : ∀ q, s.heap.size ≤ q → A q) (hN : N0 ≤ s.heap.size) (hbA : ¬ A b) (hAs : ∀ q, A q → s.heap.size ≤ q) {G : va_G} {x : Nat} {dy : Nat} {ag : Nat} {qch : Nat} {qsh : Nat} {qsc : Nat} {pl : Nat} {qfl : Nat} {qac : Nat} {qcr : Nat} {qfg : Nat} {qgr : Nat} {qme : Nat} {qsf : Nat} {qsb : Nat} {qtu : Nat} {atu : ClassId} {ftu : Nat → Int32} {ou : Nat} {alo : ClassId} {fo : Nat → Int64} {mo_ : Nat} {ti : Nat} {mfl : Nat} {mcr : Nat} {mst : Nat} {mtu : Nat} {mfg : Nat} {mgr : Nat} {mme : Nat} {oud : Nat}  {H : Heap} {locs : List Loc} (hP : va_P G vwCl [(x, .inr (17, [.ref pl, .ref dy, .ref ag, .ref qch, .ref qsh, .ref qsc, .int 0, .int 0])), (pl, .inr (16, [.ref qfl, .ref qac, .ref qcr, .ref qfg, .ref qgr, .ref qme, .ref qsf, .ref qsb, .ref qtu, .int 0, .int 0, .int 0, .int 0, .int 0, .int 0, .int 0, .int 0, .int (-1), .int 1])), (qtu, .inl (atu, 3, .inl ftu)), (ou, .inl (alo, 1, .inr (.inl fo))), (mo_, .inr (25, [.ref ti, .ref mfl, .ref mcr, .ref mst, .ref mtu, .int 1, .int 0, .int 1, .ref mfg, .ref mgr, .ref mme, .null, .int 0])), (mtu, .inr (5, [.int 0, .ref ade, .int 0]))] H) (hD : va_D A [(x, .inr (17, [.ref pl, .ref dy, .ref ag, .ref qch, .ref qsh, .ref qsc, .int 0, .int 0])), (pl, .inr (16, [.ref qfl, .ref qac, .ref qcr, .ref qfg, .ref qgr, .ref qme, .ref qsf, .ref qsb, .ref qtu, .int 0, .int 0, .int 0, .int 0, .int 0, .int 0, .int 0, .int 0, .int (-1), .int 1])), (qtu, .inl (atu, 3, .inl ftu)), (ou, .inl (alo, 1, .inr (.inl fo))), (mo_, .inr (25, [.ref ti, .ref mfl, .ref mcr, .ref mst, .ref mtu, .int 1, .int 0, .int 1, .ref mfg, .ref mgr, .ref mme, .null, .int 0])), (mtu, .inr (5, [.int 0, .ref ade, .int 0]))]) (hK : va_K G vwCl [(atu, .int), (alo, .long)] s) (hS : va_S A s.heap H locs) {ls : Array Slot} (hl : lv_has ls 9 [(5, .int 0), (4, .ref oud), (3, .ref ou), (2, .ref mo_), (1, .ref x), (0, .ref b)]) : W p l e room_1 s m #[Value.ref b] below meth c H locs 160 21200 (lw_Z below #[Value.ref b] s) (F0 m 669 ls []) := by
  refine lv_aload_n hx hb dL_law_669 rfl (lv_at hl 4 rfl) ?_
  refine lv_aload_n hx hb dL_law_670 rfl (lv_at hl 5 rfl) ?_
  refine lv_iload hx hb dL_law_671 (lv_at hl 0 rfl) ?_
  refine lv_iconst (v := 1) hx hb dL_law_673 (by decide) ?_
  refine lv_iadd hx hb dL_law_674 ?_
  refine lv_topi (fun v_ e_ => ?_)
  obtain rfl : v_ = 1 := e_.trans (by decide)
  refine va_sld hx hb hX hbl hbA hS (vin (by decide +kernel)) dL_law_675 ?_
  refine lv_aload_n hx hb dL_law_676 rfl (lv_at hl 2 rfl) ?_
  refine ka_i (vx_runSW (As := [.ref x, .int (xs (Int32.toNatClampNeg 1)), .ref ou]) (rest := []) ⟨hx, hb, hml, hown, hts⟩ (c_L_turnRunway l hl0 G N0 ade adB H.size x dy ag qch qsh qsc pl qfl qac qcr qfg qgr qme qsf qsb qtu atu ftu (xs (Int32.toNatClampNeg 1)) ou alo fo) (vx_cwSW 3 hts (kgS q497 q498 q35 q499) rfl rfl rfl (by decide +kernel) ⟨(Nat.le_of_ble_eq_true rfl), (Nat.le_of_ble_eq_true rfl)⟩) (kpreS hP hD hK hAN hT hN hS [0, 1, 2, 3] [0, 1] (by decide) rfl rfl) rfl rfl hl.1 rfl (lv_room (Nat.le_of_ble_eq_true rfl)) dL_law_677 ⟨(Nat.le_of_ble_eq_true rfl), (Nat.le_of_ble_eq_true rfl)⟩) (ws := [(x, .inr (17, [.ref pl, .ref dy, .ref ag, .ref qch, .ref qsh, .ref qsc, .int 0, .int 0])), (pl, .inr (16, [.ref qfl, .ref qac, .ref qcr, .ref qfg, .ref qgr, .ref qme, .ref qsf, .ref qsb, .ref qtu, .int 0, .int 0, .int 0, .int 0, .int 0, .int 0, .int 0, .int 0, .int (-1), .int 1])), (qtu, .inl (atu, 3, .inl ftu)), (ou, .inl (alo, 1, .inr (.inl fo))), (mo_, .inr (25, [.ref ti, .ref mfl, .ref mcr, .ref mst, .ref mtu, .int 1, .int 0, .int 1, .ref mfg, .ref mgr, .ref mme, .null, .int 0])), (mtu, .inr (5, [.int 0, .ref ade, .int 0]))]) (wc := [(x, .inr (17, [.ref pl, .ref dy, .ref ag, .ref qch, .ref qsh, .ref qsc, .int 0, .int 0])), (pl, .inr (16, [.ref qfl, .ref qac, .ref qcr, .ref qfg, .ref qgr, .ref qme, .ref qsf, .ref qsb, .ref qtu, .int 0, .int 0, .int 0, .int 0, .int 0, .int 0, .int 0, .int 0, .int (-1), .int 1])), (qtu, .inl (atu, 3, .inl ftu)), (ou, .inl (alo, 1, .inr (.inl fo)))]) (wr := [(mo_, .inr (25, [.ref ti, .ref mfl, .ref mcr, .ref mst, .ref mtu, .int 1, .int 0, .int 1, .ref mfg, .ref mgr, .ref mme, .null, .int 0])), (mtu, .inr (5, [.int 0, .ref ade, .int 0]))]) hP hD hK hS hA [0, 1, 2, 3] [4, 5] [] rfl rfl (by decide) (by decide) rfl (fun r_ u2 H locs hw3 hP hD hK hS => ?_)
  obtain ⟨go1, rfl⟩ : ∃ z_, z_ = u2 := ⟨_, rfl⟩
  have hP : va_P G vwCl [(mo_, .inr (25, [.ref ti, .ref mfl, .ref mcr, .ref mst, .ref mtu, .int 1, .int 0, .int 1, .ref mfg, .ref mgr, .ref mme, .null, .int 0])), (mtu, .inr (5, [.int 0, .ref ade, .int 0])), (ou, .inl (alo, 1, .inr (.inl go1)))] H := hP
  have hD : va_D A [(mo_, .inr (25, [.ref ti, .ref mfl, .ref mcr, .ref mst, .ref mtu, .int 1, .int 0, .int 1, .ref mfg, .ref mgr, .ref mme, .null, .int 0])), (mtu, .inr (5, [.int 0, .ref ade, .int 0])), (ou, .inl (alo, 1, .inr (.inl go1)))] := hD
  have hK : va_K G vwCl [(alo, .long)] s := hK
  refine W.widen (k := 161) (n := 21206) (Nat.le_of_ble_eq_true rfl) (Nat.le_of_ble_eq_true rfl) ?_
  have hf4 : ((sp_turnRunway (xs (Int32.toNatClampNeg 1))) = 0 → go1 0 = Int32.toInt64 (sv_turnRunway (xs (Int32.toNatClampNeg 1)))) := hw3.2
  obtain rfl : r_ = (sp_turnRunway (xs (Int32.toNatClampNeg 1))) := hw3.1
  refine lv_istore (lv' := [(6, .int (sp_turnRunway (xs (Int32.toNatClampNeg 1)))), (5, .int 0), (4, .ref oud), (3, .ref ou), (2, .ref mo_), (1, .ref x), (0, .ref b)]) hx hb dL_law_680 hl (by decide) rfl (fun ls hl => ?_)
  refine lv_aload_n hx hb dL_law_682 rfl (lv_at hl 4 rfl) ?_
  refine lv_aload_n hx hb dL_law_683 rfl (lv_at hl 6 rfl) ?_
  refine lv_iload hx hb dL_law_684 (lv_at hl 1 rfl) ?_
  refine lv_iconst (v := 1) hx hb dL_law_686 (by decide) ?_
  refine lv_iadd hx hb dL_law_687 ?_
  refine lv_topi (fun v_ e_ => ?_)
  obtain rfl : v_ = 1 := e_.trans (by decide)
  refine va_sld hx hb hX hbl hbA hS (vin (by decide +kernel)) dL_law_688 ?_
  refine ka_i (va_runV (As := [.int (xs (Int32.toNatClampNeg 1))]) (rest := []) ⟨hx, hb, hml, hown, hts⟩ (c_m_turnRunway l G N0 ade adB H.size mo_ ti mfl mcr mst mtu mfg mgr mme 0 (xs (Int32.toNatClampNeg 1))) (cwV 1 hts (kgV q831 q832 q833 q49 q834) rfl rfl rfl (by decide +kernel) ⟨(Nat.le_of_ble_eq_true rfl), (Nat.le_of_ble_eq_true rfl)⟩) (kpreV (ci := 25) (q0 := 0) hP hD hK hAN hT hN hS [0, 1] [] (by decide) rfl rfl rfl rfl rfl) rfl rfl hl.1 rfl (lv_room (Nat.le_of_ble_eq_true rfl)) dL_law_689 ⟨(Nat.le_of_ble_eq_true rfl), (Nat.le_of_ble_eq_true rfl)⟩) (ws := [(mo_, .inr (25, [.ref ti, .ref mfl, .ref mcr, .ref mst, .ref mtu, .int 1, .int 0, .int 1, .ref mfg, .ref mgr, .ref mme, .null, .int 0])), (mtu, .inr (5, [.int 0, .ref ade, .int 0])), (ou, .inl (alo, 1, .inr (.inl go1)))]) (wc := [(mo_, .inr (25, [.ref ti, .ref mfl, .ref mcr, .ref mst, .ref mtu, .int 1, .int 0, .int 1, .ref mfg, .ref mgr, .ref mme, .null, .int 0])), (mtu, .inr (5, [.int 0, .ref ade, .int 0]))]) (wr := [(ou, .inl (alo, 1, .inr (.inl go1)))]) hP hD hK hS hA [0, 1] [2] [0] rfl rfl (by decide) (by decide) rfl (fun r_ u6 H locs hw7 hP hD hK hS => ?_)
  obtain ⟨fs5, rfl⟩ : ∃ z_, z_ = u6 := ⟨_, rfl⟩
  have hP : va_P G vwCl [(ou, .inl (alo, 1, .inr (.inl go1))), (mo_, .inr (25, fs5))] H := hP
  have hD : va_D A [(ou, .inl (alo, 1, .inr (.inl go1))), (mo_, .inr (25, fs5))] := hD
  have hK : va_K G vwCl [(alo, .long)] s := hK
  refine W.widen (k := 163) (n := 21217) (Nat.le_of_ble_eq_true rfl) (Nat.le_of_ble_eq_true rfl) ?_
  have hf8 : fs5[12]? = some (.int (sp_m_turnRunway (xs (Int32.toNatClampNeg 1)))) := hw7.2
  obtain rfl : r_ = (sv_m_turnRunway (xs (Int32.toNatClampNeg 1))) := hw7.1
  refine lv_istore (lv' := [(7, .int (sv_m_turnRunway (xs (Int32.toNatClampNeg 1)))), (6, .int (sp_turnRunway (xs (Int32.toNatClampNeg 1)))), (5, .int 0), (4, .ref oud), (3, .ref ou), (2, .ref mo_), (1, .ref x), (0, .ref b)]) hx hb dL_law_692 hl (by decide) rfl (fun ls hl => ?_)
  refine lv_aload_n hx hb dL_law_694 rfl (lv_at hl 5 rfl) ?_
  refine ka_i (va_runV (As := []) (rest := []) ⟨hx, hb, hml, hown, hts⟩ (c_m_thrown l G N0 ade adB H.size mo_ fs5 (sp_m_turnRunway (xs (Int32.toNatClampNeg 1))) hf8) (cwV 0 hts (kgV q748 q749 q750 q49 q751) rfl rfl rfl (by decide +kernel) ⟨(Nat.le_of_ble_eq_true rfl), (Nat.le_of_ble_eq_true rfl)⟩) (kpreV (ci := 25) (q0 := 1) hP hD hK hAN hT hN hS [1] [] (by decide) rfl rfl rfl rfl rfl) rfl rfl hl.1 rfl (lv_room (Nat.le_of_ble_eq_true rfl)) dL_law_695 ⟨(Nat.le_of_ble_eq_true rfl), (Nat.le_of_ble_eq_true rfl)⟩) (ws := [(ou, .inl (alo, 1, .inr (.inl go1))), (mo_, .inr (25, fs5))]) (wc := [(mo_, .inr (25, fs5))]) (wr := [(ou, .inl (alo, 1, .inr (.inl go1)))]) hP hD hK hS hA [1] [0] [0] rfl rfl (by decide) (by decide) rfl (fun r_ u10 H locs hw11 hP hD hK hS => ?_)
  have hP : va_P G vwCl [(ou, .inl (alo, 1, .inr (.inl go1))), (mo_, .inr (25, fs5))] H := hP
  have hD : va_D A [(ou, .inl (alo, 1, .inr (.inl go1))), (mo_, .inr (25, fs5))] := hD
  have hK : va_K G vwCl [(alo, .long)] s := hK
  refine W.widen (k := 163) (n := 21217) (Nat.le_of_ble_eq_true rfl) (Nat.le_of_ble_eq_true rfl) ?_
  obtain rfl : r_ = (sp_m_turnRunway (xs (Int32.toNatClampNeg 1))) := hw11
  refine lv_iload hx hb dL_law_698 (lv_at hl 1 rfl) ?_
  refine lv_icmp_eq (tgt := 705) hx hb dL_law_700 (by decide) (fun _ => ?_) (fun h_ => absurd (tm_turnRunway (xs (Int32.toNatClampNeg 1))) h_)
  refine lv_iload hx hb dL_law_705 (lv_at hl 1 rfl) ?_
  refine lv_if_ne (tgt := 722) hx hb dL_law_707 (by decide) (fun c_707 => ?_) (fun c_707 => ?_)
  · refine lv_goto (tgt := 2435) hx hb dL_law_722 (by decide) ?_
    exact law_tail hl0 hx hb hr hml hown hts hX hbl hlocks hT hAN hA hN hbA hAs hS (Nat.le_of_ble_eq_true rfl) (Nat.le_of_ble_eq_true rfl) (lv_sub hl [2, 7] rfl)
  · refine lv_aload_n hx hb dL_law_710 rfl (lv_at hl 4 rfl) ?_
    refine lv_iconst (v := 0) hx hb dL_law_711 (by decide) ?_
    refine va_lald hx hb hK hP 0 0 rfl rfl (vin (by decide +kernel)) dL_law_712 ?_
    refine W.eq (g2 := F0 m 713 ls [.long (Int32.toInt64 (sv_m_turnRunway (xs (Int32.toNatClampNeg 1))))]) (congrArg (fun z_ => F0 m 713 ls (.long z_ :: [])) ((show go1 (Int32.toNatClampNeg 0) = (Int32.toInt64 (sv_m_turnRunway (xs (Int32.toNatClampNeg 1)))) from by rw [show Int32.toNatClampNeg 0 = 0 from by decide, hf4 c_707, tv_turnRunway (xs (Int32.toNatClampNeg 1)) c_707]))) ?_
    refine lv_iload hx hb dL_law_713 (lv_at hl 0 rfl) ?_
    refine lv_i2l (v := (Int32.toInt64 (sv_m_turnRunway (xs (Int32.toNatClampNeg 1))))) hx hb dL_law_715 rfl ?_
    refine W.lcmp hx hb dL_law_716 ?_
    refine lv_if_eq (tgt := 722) hx hb dL_law_717 (by decide) (fun _ => ?_) (fun h_ => absurd ((lg_cmp_eq _ _).mpr rfl) h_)
    refine lv_goto (tgt := 2435) hx hb dL_law_722 (by decide) ?_
    exact law_tail hl0 hx hb hr hml hown hts hX hbl hlocks hT hAN hA hN hbA hAs hS (Nat.le_of_ble_eq_true rfl) (Nat.le_of_ble_eq_true rfl) (lv_sub hl [2, 7] rfl)

set_option maxHeartbeats 4000000 in
set_option maxRecDepth 100000 in
theorem law_ice {p : Program} {l : Launch} {e : Env} {s : State} {m : MethodId} {below : List Frame} {meth : Method} {c : Code} {b : Nat} {xs : Nat → Int32} {A : Nat → Prop} (hl0 : l.stackTraces = false) (hx : p.tables.exec = Jvm.exec) (hb : c.code = cL_law) (hr : meth.sig.returnType = ret) (hml : c.maxLocals = 9) (hown : s.vm.findClass RL = some m.cls) (hts : ∀ w ∈ lw_all, w.before #[Value.ref b] s = true) (hX : va_X b 7 xs s s.heap) (hbl : b < s.heap.size) (hlocks : meth.locks = false) {N0 ade : Nat} {adB : Nat → Nat} (hT : BT N0 ade adB s) (hAN : ∀ q, A q → KA N0 q) (hA : ∀ q, s.heap.size ≤ q → A q) (hN : N0 ≤ s.heap.size) (hbA : ¬ A b) (hAs : ∀ q, A q → s.heap.size ≤ q) {G : va_G} {x : Nat} {dy : Nat} {ag : Nat} {qch : Nat} {qsh : Nat} {qsc : Nat} {pl : Nat} {qfl : Nat} {qac : Nat} {qcr : Nat} {qfg : Nat} {qgr : Nat} {qme : Nat} {qsf : Nat} {qsb : Nat} {qtu : Nat} {ou : Nat} {alo : ClassId} {fo : Nat → Int64} {mo_ : Nat} {ti : Nat} {mfl : Nat} {mcr : Nat} {mst : Nat} {mtu : Nat} {mfg : Nat} {mgr : Nat} {mme : Nat} {oud : Nat}  {H : Heap} {locs : List Loc} (hP : va_P G vwCl [(x, .inr (17, [.ref pl, .ref dy, .ref ag, .ref qch, .ref qsh, .ref qsc, .int 0, .int 0])), (pl, .inr (16, [.ref qfl, .ref qac, .ref qcr, .ref qfg, .ref qgr, .ref qme, .ref qsf, .ref qsb, .ref qtu, .int 0, .int 0, .int 0, .int 0, .int 0, .int 0, .int 0, .int 0, .int (-1), .int 1])), (ou, .inl (alo, 1, .inr (.inl fo))), (mo_, .inr (25, [.ref ti, .ref mfl, .ref mcr, .ref mst, .ref mtu, .int 1, .int 0, .int 1, .ref mfg, .ref mgr, .ref mme, .null, .int 0]))] H) (hD : va_D A [(x, .inr (17, [.ref pl, .ref dy, .ref ag, .ref qch, .ref qsh, .ref qsc, .int 0, .int 0])), (pl, .inr (16, [.ref qfl, .ref qac, .ref qcr, .ref qfg, .ref qgr, .ref qme, .ref qsf, .ref qsb, .ref qtu, .int 0, .int 0, .int 0, .int 0, .int 0, .int 0, .int 0, .int 0, .int (-1), .int 1])), (ou, .inl (alo, 1, .inr (.inl fo))), (mo_, .inr (25, [.ref ti, .ref mfl, .ref mcr, .ref mst, .ref mtu, .int 1, .int 0, .int 1, .ref mfg, .ref mgr, .ref mme, .null, .int 0]))]) (hK : va_K G vwCl [(alo, .long)] s) (hS : va_S A s.heap H locs) {ls : Array Slot} (hl : lv_has ls 9 [(5, .int 0), (4, .ref oud), (3, .ref ou), (2, .ref mo_), (1, .ref x), (0, .ref b)]) : W p l e room_1 s m #[Value.ref b] below meth c H locs 160 21200 (lw_Z below #[Value.ref b] s) (F0 m 725 ls []) := by
  refine lv_aload_n hx hb dL_law_725 rfl (lv_at hl 4 rfl) ?_
  refine lv_aload_n hx hb dL_law_726 rfl (lv_at hl 5 rfl) ?_
  refine lv_iload hx hb dL_law_727 (lv_at hl 0 rfl) ?_
  refine lv_iconst (v := 1) hx hb dL_law_729 (by decide) ?_
  refine lv_iadd hx hb dL_law_730 ?_
  refine lv_topi (fun v_ e_ => ?_)
  obtain rfl : v_ = 1 := e_.trans (by decide)
  refine va_sld hx hb hX hbl hbA hS (vin (by decide +kernel)) dL_law_731 ?_
  refine lv_aload_n hx hb dL_law_732 rfl (lv_at hl 5 rfl) ?_
  refine lv_iload hx hb dL_law_733 (lv_at hl 0 rfl) ?_
  refine lv_iconst (v := 2) hx hb dL_law_735 (by decide) ?_
  refine lv_iadd hx hb dL_law_736 ?_
  refine lv_topi (fun v_ e_ => ?_)
  obtain rfl : v_ = 2 := e_.trans (by decide)
  refine va_sld hx hb hX hbl hbA hS (vin (by decide +kernel)) dL_law_737 ?_
  refine lv_aload_n hx hb dL_law_738 rfl (lv_at hl 2 rfl) ?_
  refine ka_i (vx_runSW (As := [.ref x, .int (xs (Int32.toNatClampNeg 1)), .int (xs (Int32.toNatClampNeg 2)), .ref ou]) (rest := []) ⟨hx, hb, hml, hown, hts⟩ (c_L_ice l hl0 G N0 ade adB H.size x dy ag qch qsh qsc pl qfl qac qcr qfg qgr qme qsf qsb qtu (xs (Int32.toNatClampNeg 1)) (xs (Int32.toNatClampNeg 2)) ou alo fo) (vx_cwSW 4 hts (kgS q504 q505 q35 q506) rfl rfl rfl (by decide +kernel) ⟨(Nat.le_of_ble_eq_true rfl), (Nat.le_of_ble_eq_true rfl)⟩) (kpreS hP hD hK hAN hT hN hS [0, 1, 2] [0] (by decide) rfl rfl) rfl rfl hl.1 rfl (lv_room (Nat.le_of_ble_eq_true rfl)) dL_law_739 ⟨(Nat.le_of_ble_eq_true rfl), (Nat.le_of_ble_eq_true rfl)⟩) (ws := [(x, .inr (17, [.ref pl, .ref dy, .ref ag, .ref qch, .ref qsh, .ref qsc, .int 0, .int 0])), (pl, .inr (16, [.ref qfl, .ref qac, .ref qcr, .ref qfg, .ref qgr, .ref qme, .ref qsf, .ref qsb, .ref qtu, .int 0, .int 0, .int 0, .int 0, .int 0, .int 0, .int 0, .int 0, .int (-1), .int 1])), (ou, .inl (alo, 1, .inr (.inl fo))), (mo_, .inr (25, [.ref ti, .ref mfl, .ref mcr, .ref mst, .ref mtu, .int 1, .int 0, .int 1, .ref mfg, .ref mgr, .ref mme, .null, .int 0]))]) (wc := [(x, .inr (17, [.ref pl, .ref dy, .ref ag, .ref qch, .ref qsh, .ref qsc, .int 0, .int 0])), (pl, .inr (16, [.ref qfl, .ref qac, .ref qcr, .ref qfg, .ref qgr, .ref qme, .ref qsf, .ref qsb, .ref qtu, .int 0, .int 0, .int 0, .int 0, .int 0, .int 0, .int 0, .int 0, .int (-1), .int 1])), (ou, .inl (alo, 1, .inr (.inl fo)))]) (wr := [(mo_, .inr (25, [.ref ti, .ref mfl, .ref mcr, .ref mst, .ref mtu, .int 1, .int 0, .int 1, .ref mfg, .ref mgr, .ref mme, .null, .int 0]))]) hP hD hK hS hA [0, 1, 2] [3] [] rfl rfl (by decide) (by decide) rfl (fun r_ u2 H locs hw3 hP hD hK hS => ?_)
  obtain ⟨go1, rfl⟩ : ∃ z_, z_ = u2 := ⟨_, rfl⟩
  have hP : va_P G vwCl [(mo_, .inr (25, [.ref ti, .ref mfl, .ref mcr, .ref mst, .ref mtu, .int 1, .int 0, .int 1, .ref mfg, .ref mgr, .ref mme, .null, .int 0])), (ou, .inl (alo, 1, .inr (.inl go1)))] H := hP
  have hD : va_D A [(mo_, .inr (25, [.ref ti, .ref mfl, .ref mcr, .ref mst, .ref mtu, .int 1, .int 0, .int 1, .ref mfg, .ref mgr, .ref mme, .null, .int 0])), (ou, .inl (alo, 1, .inr (.inl go1)))] := hD
  have hK : va_K G vwCl [(alo, .long)] s := hK
  refine W.widen (k := 161) (n := 21206) (Nat.le_of_ble_eq_true rfl) (Nat.le_of_ble_eq_true rfl) ?_
  have hf4 : ((sp_ice (xs (Int32.toNatClampNeg 1)) (xs (Int32.toNatClampNeg 2))) = 0 → go1 0 = Int32.toInt64 (sv_ice (xs (Int32.toNatClampNeg 1)) (xs (Int32.toNatClampNeg 2)))) := hw3.2
  obtain rfl : r_ = (sp_ice (xs (Int32.toNatClampNeg 1)) (xs (Int32.toNatClampNeg 2))) := hw3.1
  refine lv_istore (lv' := [(6, .int (sp_ice (xs (Int32.toNatClampNeg 1)) (xs (Int32.toNatClampNeg 2)))), (5, .int 0), (4, .ref oud), (3, .ref ou), (2, .ref mo_), (1, .ref x), (0, .ref b)]) hx hb dL_law_742 hl (by decide) rfl (fun ls hl => ?_)
  refine lv_aload_n hx hb dL_law_744 rfl (lv_at hl 4 rfl) ?_
  refine lv_aload_n hx hb dL_law_745 rfl (lv_at hl 6 rfl) ?_
  refine lv_iload hx hb dL_law_746 (lv_at hl 1 rfl) ?_
  refine lv_iconst (v := 1) hx hb dL_law_748 (by decide) ?_
  refine lv_iadd hx hb dL_law_749 ?_
  refine lv_topi (fun v_ e_ => ?_)
  obtain rfl : v_ = 1 := e_.trans (by decide)
  refine va_sld hx hb hX hbl hbA hS (vin (by decide +kernel)) dL_law_750 ?_
  refine lv_aload_n hx hb dL_law_751 rfl (lv_at hl 6 rfl) ?_
  refine lv_iload hx hb dL_law_752 (lv_at hl 1 rfl) ?_
  refine lv_iconst (v := 2) hx hb dL_law_754 (by decide) ?_
  refine lv_iadd hx hb dL_law_755 ?_
  refine lv_topi (fun v_ e_ => ?_)
  obtain rfl : v_ = 2 := e_.trans (by decide)
  refine va_sld hx hb hX hbl hbA hS (vin (by decide +kernel)) dL_law_756 ?_
  refine ka_i (va_runV (As := [.int (xs (Int32.toNatClampNeg 1)), .int (xs (Int32.toNatClampNeg 2))]) (rest := []) ⟨hx, hb, hml, hown, hts⟩ (c_m_ice l G N0 ade adB H.size mo_ ti mfl mcr mst mtu mfg mgr mme 0 (xs (Int32.toNatClampNeg 1)) (xs (Int32.toNatClampNeg 2))) (cwV 2 hts (kgV q851 q852 q853 q49 q854) rfl rfl rfl (by decide +kernel) ⟨(Nat.le_of_ble_eq_true rfl), (Nat.le_of_ble_eq_true rfl)⟩) (kpreV (ci := 25) (q0 := 0) hP hD hK hAN hT hN hS [0] [] (by decide) rfl rfl rfl rfl rfl) rfl rfl hl.1 rfl (lv_room (Nat.le_of_ble_eq_true rfl)) dL_law_757 ⟨(Nat.le_of_ble_eq_true rfl), (Nat.le_of_ble_eq_true rfl)⟩) (ws := [(mo_, .inr (25, [.ref ti, .ref mfl, .ref mcr, .ref mst, .ref mtu, .int 1, .int 0, .int 1, .ref mfg, .ref mgr, .ref mme, .null, .int 0])), (ou, .inl (alo, 1, .inr (.inl go1)))]) (wc := [(mo_, .inr (25, [.ref ti, .ref mfl, .ref mcr, .ref mst, .ref mtu, .int 1, .int 0, .int 1, .ref mfg, .ref mgr, .ref mme, .null, .int 0]))]) (wr := [(ou, .inl (alo, 1, .inr (.inl go1)))]) hP hD hK hS hA [0] [1] [0] rfl rfl (by decide) (by decide) rfl (fun r_ u6 H locs hw7 hP hD hK hS => ?_)
  obtain ⟨fs5, rfl⟩ : ∃ z_, z_ = u6 := ⟨_, rfl⟩
  have hP : va_P G vwCl [(ou, .inl (alo, 1, .inr (.inl go1))), (mo_, .inr (25, fs5))] H := hP
  have hD : va_D A [(ou, .inl (alo, 1, .inr (.inl go1))), (mo_, .inr (25, fs5))] := hD
  have hK : va_K G vwCl [(alo, .long)] s := hK
  refine W.widen (k := 161) (n := 21206) (Nat.le_of_ble_eq_true rfl) (Nat.le_of_ble_eq_true rfl) ?_
  have hf8 : fs5[12]? = some (.int (sp_m_ice (xs (Int32.toNatClampNeg 1)) (xs (Int32.toNatClampNeg 2)))) := hw7.2
  obtain rfl : r_ = (sv_m_ice (xs (Int32.toNatClampNeg 1)) (xs (Int32.toNatClampNeg 2))) := hw7.1
  refine lv_istore (lv' := [(7, .int (sv_m_ice (xs (Int32.toNatClampNeg 1)) (xs (Int32.toNatClampNeg 2)))), (6, .int (sp_ice (xs (Int32.toNatClampNeg 1)) (xs (Int32.toNatClampNeg 2)))), (5, .int 0), (4, .ref oud), (3, .ref ou), (2, .ref mo_), (1, .ref x), (0, .ref b)]) hx hb dL_law_760 hl (by decide) rfl (fun ls hl => ?_)
  refine lv_aload_n hx hb dL_law_762 rfl (lv_at hl 5 rfl) ?_
  refine ka_i (va_runV (As := []) (rest := []) ⟨hx, hb, hml, hown, hts⟩ (c_m_thrown l G N0 ade adB H.size mo_ fs5 (sp_m_ice (xs (Int32.toNatClampNeg 1)) (xs (Int32.toNatClampNeg 2))) hf8) (cwV 0 hts (kgV q748 q749 q750 q49 q751) rfl rfl rfl (by decide +kernel) ⟨(Nat.le_of_ble_eq_true rfl), (Nat.le_of_ble_eq_true rfl)⟩) (kpreV (ci := 25) (q0 := 1) hP hD hK hAN hT hN hS [1] [] (by decide) rfl rfl rfl rfl rfl) rfl rfl hl.1 rfl (lv_room (Nat.le_of_ble_eq_true rfl)) dL_law_763 ⟨(Nat.le_of_ble_eq_true rfl), (Nat.le_of_ble_eq_true rfl)⟩) (ws := [(ou, .inl (alo, 1, .inr (.inl go1))), (mo_, .inr (25, fs5))]) (wc := [(mo_, .inr (25, fs5))]) (wr := [(ou, .inl (alo, 1, .inr (.inl go1)))]) hP hD hK hS hA [1] [0] [0] rfl rfl (by decide) (by decide) rfl (fun r_ u10 H locs hw11 hP hD hK hS => ?_)
  have hP : va_P G vwCl [(ou, .inl (alo, 1, .inr (.inl go1))), (mo_, .inr (25, fs5))] H := hP
  have hD : va_D A [(ou, .inl (alo, 1, .inr (.inl go1))), (mo_, .inr (25, fs5))] := hD
  have hK : va_K G vwCl [(alo, .long)] s := hK
  refine W.widen (k := 161) (n := 21206) (Nat.le_of_ble_eq_true rfl) (Nat.le_of_ble_eq_true rfl) ?_
  obtain rfl : r_ = (sp_m_ice (xs (Int32.toNatClampNeg 1)) (xs (Int32.toNatClampNeg 2))) := hw11
  refine lv_iload hx hb dL_law_766 (lv_at hl 1 rfl) ?_
  refine lv_icmp_eq (tgt := 773) hx hb dL_law_768 (by decide) (fun _ => ?_) (fun h_ => absurd (tm_ice (xs (Int32.toNatClampNeg 1)) (xs (Int32.toNatClampNeg 2))) h_)
  refine lv_iload hx hb dL_law_773 (lv_at hl 1 rfl) ?_
  refine lv_if_ne (tgt := 790) hx hb dL_law_775 (by decide) (fun c_775 => ?_) (fun c_775 => ?_)
  · refine lv_goto (tgt := 2435) hx hb dL_law_790 (by decide) ?_
    exact law_tail hl0 hx hb hr hml hown hts hX hbl hlocks hT hAN hA hN hbA hAs hS (Nat.le_of_ble_eq_true rfl) (Nat.le_of_ble_eq_true rfl) (lv_sub hl [2, 7] rfl)
  · refine lv_aload_n hx hb dL_law_778 rfl (lv_at hl 4 rfl) ?_
    refine lv_iconst (v := 0) hx hb dL_law_779 (by decide) ?_
    refine va_lald hx hb hK hP 0 0 rfl rfl (vin (by decide +kernel)) dL_law_780 ?_
    refine W.eq (g2 := F0 m 781 ls [.long (Int32.toInt64 (sv_m_ice (xs (Int32.toNatClampNeg 1)) (xs (Int32.toNatClampNeg 2))))]) (congrArg (fun z_ => F0 m 781 ls (.long z_ :: [])) ((show go1 (Int32.toNatClampNeg 0) = (Int32.toInt64 (sv_m_ice (xs (Int32.toNatClampNeg 1)) (xs (Int32.toNatClampNeg 2)))) from by rw [show Int32.toNatClampNeg 0 = 0 from by decide, hf4 c_775, tv_ice (xs (Int32.toNatClampNeg 1)) (xs (Int32.toNatClampNeg 2)) c_775]))) ?_
    refine lv_iload hx hb dL_law_781 (lv_at hl 0 rfl) ?_
    refine lv_i2l (v := (Int32.toInt64 (sv_m_ice (xs (Int32.toNatClampNeg 1)) (xs (Int32.toNatClampNeg 2))))) hx hb dL_law_783 rfl ?_
    refine W.lcmp hx hb dL_law_784 ?_
    refine lv_if_eq (tgt := 790) hx hb dL_law_785 (by decide) (fun _ => ?_) (fun h_ => absurd ((lg_cmp_eq _ _).mpr rfl) h_)
    refine lv_goto (tgt := 2435) hx hb dL_law_790 (by decide) ?_
    exact law_tail hl0 hx hb hr hml hown hts hX hbl hlocks hT hAN hA hN hbA hAs hS (Nat.le_of_ble_eq_true rfl) (Nat.le_of_ble_eq_true rfl) (lv_sub hl [2, 7] rfl)

set_option maxHeartbeats 4000000 in
set_option maxRecDepth 100000 in
theorem law_setPads {p : Program} {l : Launch} {e : Env} {s : State} {m : MethodId} {below : List Frame} {meth : Method} {c : Code} {b : Nat} {xs : Nat → Int32} {A : Nat → Prop} (hl0 : l.stackTraces = false) (hx : p.tables.exec = Jvm.exec) (hb : c.code = cL_law) (hr : meth.sig.returnType = ret) (hml : c.maxLocals = 9) (hown : s.vm.findClass RL = some m.cls) (hts : ∀ w ∈ lw_all, w.before #[Value.ref b] s = true) (hX : va_X b 7 xs s s.heap) (hbl : b < s.heap.size) (hlocks : meth.locks = false) {N0 ade : Nat} {adB : Nat → Nat} (hT : BT N0 ade adB s) (hAN : ∀ q, A q → KA N0 q) (hA : ∀ q, s.heap.size ≤ q → A q) (hN : N0 ≤ s.heap.size) (hbA : ¬ A b) (hAs : ∀ q, A q → s.heap.size ≤ q) {G : va_G} {x : Nat} {dy : Nat} {ag : Nat} {qch : Nat} {qsh : Nat} {qsc : Nat} {pl : Nat} {qfl : Nat} {qac : Nat} {qcr : Nat} {qfg : Nat} {qgr : Nat} {qme : Nat} {qsf : Nat} {qsb : Nat} {qtu : Nat} {ou : Nat} {alo : ClassId} {fo : Nat → Int64} {mo_ : Nat} {ti : Nat} {mfl : Nat} {mcr : Nat} {mst : Nat} {mtu : Nat} {mfg : Nat} {mgr : Nat} {mme : Nat} {oud : Nat}  {H : Heap} {locs : List Loc} (hP : va_P G vwCl [(x, .inr (17, [.ref pl, .ref dy, .ref ag, .ref qch, .ref qsh, .ref qsc, .int 0, .int 0])), (pl, .inr (16, [.ref qfl, .ref qac, .ref qcr, .ref qfg, .ref qgr, .ref qme, .ref qsf, .ref qsb, .ref qtu, .int 0, .int 0, .int 0, .int 0, .int 0, .int 0, .int 0, .int 0, .int (-1), .int 1])), (ou, .inl (alo, 1, .inr (.inl fo))), (mo_, .inr (25, [.ref ti, .ref mfl, .ref mcr, .ref mst, .ref mtu, .int 1, .int 0, .int 1, .ref mfg, .ref mgr, .ref mme, .null, .int 0]))] H) (hD : va_D A [(x, .inr (17, [.ref pl, .ref dy, .ref ag, .ref qch, .ref qsh, .ref qsc, .int 0, .int 0])), (pl, .inr (16, [.ref qfl, .ref qac, .ref qcr, .ref qfg, .ref qgr, .ref qme, .ref qsf, .ref qsb, .ref qtu, .int 0, .int 0, .int 0, .int 0, .int 0, .int 0, .int 0, .int 0, .int (-1), .int 1])), (ou, .inl (alo, 1, .inr (.inl fo))), (mo_, .inr (25, [.ref ti, .ref mfl, .ref mcr, .ref mst, .ref mtu, .int 1, .int 0, .int 1, .ref mfg, .ref mgr, .ref mme, .null, .int 0]))]) (hK : va_K G vwCl [(alo, .long)] s) (hS : va_S A s.heap H locs) {ls : Array Slot} (hl : lv_has ls 9 [(5, .int 0), (4, .ref oud), (3, .ref ou), (2, .ref mo_), (1, .ref x), (0, .ref b)]) : W p l e room_1 s m #[Value.ref b] below meth c H locs 160 21200 (lw_Z below #[Value.ref b] s) (F0 m 793 ls []) := by
  refine lv_aload_n hx hb dL_law_793 rfl (lv_at hl 4 rfl) ?_
  refine lv_aload_n hx hb dL_law_794 rfl (lv_at hl 5 rfl) ?_
  refine lv_iload hx hb dL_law_795 (lv_at hl 0 rfl) ?_
  refine lv_iconst (v := 1) hx hb dL_law_797 (by decide) ?_
  refine lv_iadd hx hb dL_law_798 ?_
  refine lv_topi (fun v_ e_ => ?_)
  obtain rfl : v_ = 1 := e_.trans (by decide)
  refine va_sld hx hb hX hbl hbA hS (vin (by decide +kernel)) dL_law_799 ?_
  refine lv_aload_n hx hb dL_law_800 rfl (lv_at hl 2 rfl) ?_
  refine ka_i (vx_runSW (As := [.ref x, .int (xs (Int32.toNatClampNeg 1)), .ref ou]) (rest := []) ⟨hx, hb, hml, hown, hts⟩ (c_L_setPads l hl0 G N0 ade adB H.size x dy ag qch qsh qsc pl qfl qac qcr qfg qgr qme qsf qsb qtu (xs (Int32.toNatClampNeg 1)) ou alo fo) (vx_cwSW 3 hts (kgS q511 q512 q35 q513) rfl rfl rfl (by decide +kernel) ⟨(Nat.le_of_ble_eq_true rfl), (Nat.le_of_ble_eq_true rfl)⟩) (kpreS hP hD hK hAN hT hN hS [0, 1, 2] [0] (by decide) rfl rfl) rfl rfl hl.1 rfl (lv_room (Nat.le_of_ble_eq_true rfl)) dL_law_801 ⟨(Nat.le_of_ble_eq_true rfl), (Nat.le_of_ble_eq_true rfl)⟩) (ws := [(x, .inr (17, [.ref pl, .ref dy, .ref ag, .ref qch, .ref qsh, .ref qsc, .int 0, .int 0])), (pl, .inr (16, [.ref qfl, .ref qac, .ref qcr, .ref qfg, .ref qgr, .ref qme, .ref qsf, .ref qsb, .ref qtu, .int 0, .int 0, .int 0, .int 0, .int 0, .int 0, .int 0, .int 0, .int (-1), .int 1])), (ou, .inl (alo, 1, .inr (.inl fo))), (mo_, .inr (25, [.ref ti, .ref mfl, .ref mcr, .ref mst, .ref mtu, .int 1, .int 0, .int 1, .ref mfg, .ref mgr, .ref mme, .null, .int 0]))]) (wc := [(x, .inr (17, [.ref pl, .ref dy, .ref ag, .ref qch, .ref qsh, .ref qsc, .int 0, .int 0])), (pl, .inr (16, [.ref qfl, .ref qac, .ref qcr, .ref qfg, .ref qgr, .ref qme, .ref qsf, .ref qsb, .ref qtu, .int 0, .int 0, .int 0, .int 0, .int 0, .int 0, .int 0, .int 0, .int (-1), .int 1])), (ou, .inl (alo, 1, .inr (.inl fo)))]) (wr := [(mo_, .inr (25, [.ref ti, .ref mfl, .ref mcr, .ref mst, .ref mtu, .int 1, .int 0, .int 1, .ref mfg, .ref mgr, .ref mme, .null, .int 0]))]) hP hD hK hS hA [0, 1, 2] [3] [] rfl rfl (by decide) (by decide) rfl (fun r_ u2 H locs hw3 hP hD hK hS => ?_)
  obtain ⟨go1, rfl⟩ : ∃ z_, z_ = u2 := ⟨_, rfl⟩
  have hP : va_P G vwCl [(mo_, .inr (25, [.ref ti, .ref mfl, .ref mcr, .ref mst, .ref mtu, .int 1, .int 0, .int 1, .ref mfg, .ref mgr, .ref mme, .null, .int 0])), (ou, .inl (alo, 1, .inr (.inl go1)))] H := hP
  have hD : va_D A [(mo_, .inr (25, [.ref ti, .ref mfl, .ref mcr, .ref mst, .ref mtu, .int 1, .int 0, .int 1, .ref mfg, .ref mgr, .ref mme, .null, .int 0])), (ou, .inl (alo, 1, .inr (.inl go1)))] := hD
  have hK : va_K G vwCl [(alo, .long)] s := hK
  refine W.widen (k := 161) (n := 21206) (Nat.le_of_ble_eq_true rfl) (Nat.le_of_ble_eq_true rfl) ?_
  have hf4 : ((sp_setPads (xs (Int32.toNatClampNeg 1))) = 0 → go1 0 = Int32.toInt64 (sv_setPads (xs (Int32.toNatClampNeg 1)))) := hw3.2
  obtain rfl : r_ = (sp_setPads (xs (Int32.toNatClampNeg 1))) := hw3.1
  refine lv_istore (lv' := [(6, .int (sp_setPads (xs (Int32.toNatClampNeg 1)))), (5, .int 0), (4, .ref oud), (3, .ref ou), (2, .ref mo_), (1, .ref x), (0, .ref b)]) hx hb dL_law_804 hl (by decide) rfl (fun ls hl => ?_)
  refine lv_aload_n hx hb dL_law_806 rfl (lv_at hl 4 rfl) ?_
  refine lv_aload_n hx hb dL_law_807 rfl (lv_at hl 6 rfl) ?_
  refine lv_iload hx hb dL_law_808 (lv_at hl 1 rfl) ?_
  refine lv_iconst (v := 1) hx hb dL_law_810 (by decide) ?_
  refine lv_iadd hx hb dL_law_811 ?_
  refine lv_topi (fun v_ e_ => ?_)
  obtain rfl : v_ = 1 := e_.trans (by decide)
  refine va_sld hx hb hX hbl hbA hS (vin (by decide +kernel)) dL_law_812 ?_
  refine ka_i (va_runV (As := [.int (xs (Int32.toNatClampNeg 1))]) (rest := []) ⟨hx, hb, hml, hown, hts⟩ (c_m_setPads l G N0 ade adB H.size mo_ ti mfl mcr mst mtu mfg mgr mme 0 (xs (Int32.toNatClampNeg 1))) (cwV 1 hts (kgV q855 q856 q857 q49 q858) rfl rfl rfl (by decide +kernel) ⟨(Nat.le_of_ble_eq_true rfl), (Nat.le_of_ble_eq_true rfl)⟩) (kpreV (ci := 25) (q0 := 0) hP hD hK hAN hT hN hS [0] [] (by decide) rfl rfl rfl rfl rfl) rfl rfl hl.1 rfl (lv_room (Nat.le_of_ble_eq_true rfl)) dL_law_813 ⟨(Nat.le_of_ble_eq_true rfl), (Nat.le_of_ble_eq_true rfl)⟩) (ws := [(mo_, .inr (25, [.ref ti, .ref mfl, .ref mcr, .ref mst, .ref mtu, .int 1, .int 0, .int 1, .ref mfg, .ref mgr, .ref mme, .null, .int 0])), (ou, .inl (alo, 1, .inr (.inl go1)))]) (wc := [(mo_, .inr (25, [.ref ti, .ref mfl, .ref mcr, .ref mst, .ref mtu, .int 1, .int 0, .int 1, .ref mfg, .ref mgr, .ref mme, .null, .int 0]))]) (wr := [(ou, .inl (alo, 1, .inr (.inl go1)))]) hP hD hK hS hA [0] [1] [0] rfl rfl (by decide) (by decide) rfl (fun r_ u6 H locs hw7 hP hD hK hS => ?_)
  obtain ⟨fs5, rfl⟩ : ∃ z_, z_ = u6 := ⟨_, rfl⟩
  have hP : va_P G vwCl [(ou, .inl (alo, 1, .inr (.inl go1))), (mo_, .inr (25, fs5))] H := hP
  have hD : va_D A [(ou, .inl (alo, 1, .inr (.inl go1))), (mo_, .inr (25, fs5))] := hD
  have hK : va_K G vwCl [(alo, .long)] s := hK
  refine W.widen (k := 161) (n := 21206) (Nat.le_of_ble_eq_true rfl) (Nat.le_of_ble_eq_true rfl) ?_
  have hf8 : fs5[12]? = some (.int (sp_m_setPads (xs (Int32.toNatClampNeg 1)))) := hw7.2
  obtain rfl : r_ = (sv_m_setPads (xs (Int32.toNatClampNeg 1))) := hw7.1
  refine lv_istore (lv' := [(7, .int (sv_m_setPads (xs (Int32.toNatClampNeg 1)))), (6, .int (sp_setPads (xs (Int32.toNatClampNeg 1)))), (5, .int 0), (4, .ref oud), (3, .ref ou), (2, .ref mo_), (1, .ref x), (0, .ref b)]) hx hb dL_law_816 hl (by decide) rfl (fun ls hl => ?_)
  refine lv_aload_n hx hb dL_law_818 rfl (lv_at hl 5 rfl) ?_
  refine ka_i (va_runV (As := []) (rest := []) ⟨hx, hb, hml, hown, hts⟩ (c_m_thrown l G N0 ade adB H.size mo_ fs5 (sp_m_setPads (xs (Int32.toNatClampNeg 1))) hf8) (cwV 0 hts (kgV q748 q749 q750 q49 q751) rfl rfl rfl (by decide +kernel) ⟨(Nat.le_of_ble_eq_true rfl), (Nat.le_of_ble_eq_true rfl)⟩) (kpreV (ci := 25) (q0 := 1) hP hD hK hAN hT hN hS [1] [] (by decide) rfl rfl rfl rfl rfl) rfl rfl hl.1 rfl (lv_room (Nat.le_of_ble_eq_true rfl)) dL_law_819 ⟨(Nat.le_of_ble_eq_true rfl), (Nat.le_of_ble_eq_true rfl)⟩) (ws := [(ou, .inl (alo, 1, .inr (.inl go1))), (mo_, .inr (25, fs5))]) (wc := [(mo_, .inr (25, fs5))]) (wr := [(ou, .inl (alo, 1, .inr (.inl go1)))]) hP hD hK hS hA [1] [0] [0] rfl rfl (by decide) (by decide) rfl (fun r_ u10 H locs hw11 hP hD hK hS => ?_)
  have hP : va_P G vwCl [(ou, .inl (alo, 1, .inr (.inl go1))), (mo_, .inr (25, fs5))] H := hP
  have hD : va_D A [(ou, .inl (alo, 1, .inr (.inl go1))), (mo_, .inr (25, fs5))] := hD
  have hK : va_K G vwCl [(alo, .long)] s := hK
  refine W.widen (k := 161) (n := 21206) (Nat.le_of_ble_eq_true rfl) (Nat.le_of_ble_eq_true rfl) ?_
  obtain rfl : r_ = (sp_m_setPads (xs (Int32.toNatClampNeg 1))) := hw11
  refine lv_iload hx hb dL_law_822 (lv_at hl 1 rfl) ?_
  refine lv_icmp_eq (tgt := 829) hx hb dL_law_824 (by decide) (fun _ => ?_) (fun h_ => absurd (tm_setPads (xs (Int32.toNatClampNeg 1))) h_)
  refine lv_iload hx hb dL_law_829 (lv_at hl 1 rfl) ?_
  refine lv_if_ne (tgt := 846) hx hb dL_law_831 (by decide) (fun c_831 => ?_) (fun c_831 => ?_)
  · refine lv_goto (tgt := 2435) hx hb dL_law_846 (by decide) ?_
    exact law_tail hl0 hx hb hr hml hown hts hX hbl hlocks hT hAN hA hN hbA hAs hS (Nat.le_of_ble_eq_true rfl) (Nat.le_of_ble_eq_true rfl) (lv_sub hl [2, 7] rfl)
  · refine lv_aload_n hx hb dL_law_834 rfl (lv_at hl 4 rfl) ?_
    refine lv_iconst (v := 0) hx hb dL_law_835 (by decide) ?_
    refine va_lald hx hb hK hP 0 0 rfl rfl (vin (by decide +kernel)) dL_law_836 ?_
    refine W.eq (g2 := F0 m 837 ls [.long (Int32.toInt64 (sv_m_setPads (xs (Int32.toNatClampNeg 1))))]) (congrArg (fun z_ => F0 m 837 ls (.long z_ :: [])) ((show go1 (Int32.toNatClampNeg 0) = (Int32.toInt64 (sv_m_setPads (xs (Int32.toNatClampNeg 1)))) from by rw [show Int32.toNatClampNeg 0 = 0 from by decide, hf4 c_831, tv_setPads (xs (Int32.toNatClampNeg 1)) c_831]))) ?_
    refine lv_iload hx hb dL_law_837 (lv_at hl 0 rfl) ?_
    refine lv_i2l (v := (Int32.toInt64 (sv_m_setPads (xs (Int32.toNatClampNeg 1))))) hx hb dL_law_839 rfl ?_
    refine W.lcmp hx hb dL_law_840 ?_
    refine lv_if_eq (tgt := 846) hx hb dL_law_841 (by decide) (fun _ => ?_) (fun h_ => absurd ((lg_cmp_eq _ _).mpr rfl) h_)
    refine lv_goto (tgt := 2435) hx hb dL_law_846 (by decide) ?_
    exact law_tail hl0 hx hb hr hml hown hts hX hbl hlocks hT hAN hA hN hbA hAs hS (Nat.le_of_ble_eq_true rfl) (Nat.le_of_ble_eq_true rfl) (lv_sub hl [2, 7] rfl)

set_option maxHeartbeats 4000000 in
set_option maxRecDepth 100000 in
theorem law_addFlight {p : Program} {l : Launch} {e : Env} {s : State} {m : MethodId} {below : List Frame} {meth : Method} {c : Code} {b : Nat} {xs : Nat → Int32} {A : Nat → Prop} (hl0 : l.stackTraces = false) (hx : p.tables.exec = Jvm.exec) (hb : c.code = cL_law) (hr : meth.sig.returnType = ret) (hml : c.maxLocals = 9) (hown : s.vm.findClass RL = some m.cls) (hts : ∀ w ∈ lw_all, w.before #[Value.ref b] s = true) (hX : va_X b 7 xs s s.heap) (hbl : b < s.heap.size) (hlocks : meth.locks = false) {N0 ade : Nat} {adB : Nat → Nat} (hT : BT N0 ade adB s) (hAN : ∀ q, A q → KA N0 q) (hA : ∀ q, s.heap.size ≤ q → A q) (hN : N0 ≤ s.heap.size) (hbA : ¬ A b) (hAs : ∀ q, A q → s.heap.size ≤ q) {G : va_G} {x : Nat} {dy : Nat} {ag : Nat} {qch : Nat} {qsh : Nat} {qsc : Nat} {pl : Nat} {qfl : Nat} {qac : Nat} {qcr : Nat} {qfg : Nat} {qgr : Nat} {qme : Nat} {qsf : Nat} {qsb : Nat} {qtu : Nat} {ou : Nat} {alo : ClassId} {fo : Nat → Int64} {mo_ : Nat} {ti : Nat} {mfl : Nat} {mcr : Nat} {mst : Nat} {mtu : Nat} {mfg : Nat} {mgr : Nat} {mme : Nat} {oud : Nat}  {H : Heap} {locs : List Loc} (hP : va_P G vwCl [(x, .inr (17, [.ref pl, .ref dy, .ref ag, .ref qch, .ref qsh, .ref qsc, .int 0, .int 0])), (pl, .inr (16, [.ref qfl, .ref qac, .ref qcr, .ref qfg, .ref qgr, .ref qme, .ref qsf, .ref qsb, .ref qtu, .int 0, .int 0, .int 0, .int 0, .int 0, .int 0, .int 0, .int 0, .int (-1), .int 1])), (ou, .inl (alo, 1, .inr (.inl fo))), (mo_, .inr (25, [.ref ti, .ref mfl, .ref mcr, .ref mst, .ref mtu, .int 1, .int 0, .int 1, .ref mfg, .ref mgr, .ref mme, .null, .int 0])), (mfl, .inr (5, [.int 0, .ref ade, .int 0])), (mcr, .inr (5, [.int 0, .ref ade, .int 0])), (mfg, .inr (5, [.int 0, .ref ade, .int 0]))] H) (hD : va_D A [(x, .inr (17, [.ref pl, .ref dy, .ref ag, .ref qch, .ref qsh, .ref qsc, .int 0, .int 0])), (pl, .inr (16, [.ref qfl, .ref qac, .ref qcr, .ref qfg, .ref qgr, .ref qme, .ref qsf, .ref qsb, .ref qtu, .int 0, .int 0, .int 0, .int 0, .int 0, .int 0, .int 0, .int 0, .int (-1), .int 1])), (ou, .inl (alo, 1, .inr (.inl fo))), (mo_, .inr (25, [.ref ti, .ref mfl, .ref mcr, .ref mst, .ref mtu, .int 1, .int 0, .int 1, .ref mfg, .ref mgr, .ref mme, .null, .int 0])), (mfl, .inr (5, [.int 0, .ref ade, .int 0])), (mcr, .inr (5, [.int 0, .ref ade, .int 0])), (mfg, .inr (5, [.int 0, .ref ade, .int 0]))]) (hK : va_K G vwCl [(alo, .long)] s) (hS : va_S A s.heap H locs) {ls : Array Slot} (hl : lv_has ls 9 [(5, .int 0), (4, .ref oud), (3, .ref ou), (2, .ref mo_), (1, .ref x), (0, .ref b)]) : W p l e room_1 s m #[Value.ref b] below meth c H locs 160 21200 (lw_Z below #[Value.ref b] s) (F0 m 849 ls []) := by
  refine lv_aload_n hx hb dL_law_849 rfl (lv_at hl 4 rfl) ?_
  refine lv_aload_n hx hb dL_law_850 rfl (lv_at hl 5 rfl) ?_
  refine lv_iload hx hb dL_law_851 (lv_at hl 0 rfl) ?_
  refine lv_iconst (v := 1) hx hb dL_law_853 (by decide) ?_
  refine lv_iadd hx hb dL_law_854 ?_
  refine lv_topi (fun v_ e_ => ?_)
  obtain rfl : v_ = 1 := e_.trans (by decide)
  refine va_sld hx hb hX hbl hbA hS (vin (by decide +kernel)) dL_law_855 ?_
  refine lv_aload_n hx hb dL_law_856 rfl (lv_at hl 5 rfl) ?_
  refine lv_iload hx hb dL_law_857 (lv_at hl 0 rfl) ?_
  refine lv_iconst (v := 2) hx hb dL_law_859 (by decide) ?_
  refine lv_iadd hx hb dL_law_860 ?_
  refine lv_topi (fun v_ e_ => ?_)
  obtain rfl : v_ = 2 := e_.trans (by decide)
  refine va_sld hx hb hX hbl hbA hS (vin (by decide +kernel)) dL_law_861 ?_
  refine lv_aload_n hx hb dL_law_862 rfl (lv_at hl 5 rfl) ?_
  refine lv_iload hx hb dL_law_863 (lv_at hl 0 rfl) ?_
  refine lv_iconst (v := 3) hx hb dL_law_865 (by decide) ?_
  refine W.eq (g2 := F0 m 866 ls [.int 3, .int 0, .ref b, .int (xs (Int32.toNatClampNeg 2)), .int (xs (Int32.toNatClampNeg 1)), .ref x]) rfl ?_
  refine lv_iadd hx hb dL_law_866 ?_
  refine lv_topi (fun v_ e_ => ?_)
  obtain rfl : v_ = 3 := e_.trans (by decide)
  refine va_sld hx hb hX hbl hbA hS (vin (by decide +kernel)) dL_law_867 ?_
  refine lv_aload_n hx hb dL_law_868 rfl (lv_at hl 5 rfl) ?_
  refine lv_iload hx hb dL_law_869 (lv_at hl 0 rfl) ?_
  refine lv_iconst (v := 4) hx hb dL_law_871 (by decide) ?_
  refine lv_iadd hx hb dL_law_872 ?_
  refine lv_topi (fun v_ e_ => ?_)
  obtain rfl : v_ = 4 := e_.trans (by decide)
  refine va_sld hx hb hX hbl hbA hS (vin (by decide +kernel)) dL_law_873 ?_
  refine lv_aload_n hx hb dL_law_874 rfl (lv_at hl 5 rfl) ?_
  refine lv_iload hx hb dL_law_875 (lv_at hl 0 rfl) ?_
  refine lv_iconst (v := 5) hx hb dL_law_877 (by decide) ?_
  refine lv_iadd hx hb dL_law_878 ?_
  refine lv_topi (fun v_ e_ => ?_)
  obtain rfl : v_ = 5 := e_.trans (by decide)
  refine va_sld hx hb hX hbl hbA hS (vin (by decide +kernel)) dL_law_879 ?_
  refine lv_aload_n hx hb dL_law_880 rfl (lv_at hl 2 rfl) ?_
  refine ka_i (vx_runSW (As := [.ref x, .int (xs (Int32.toNatClampNeg 1)), .int (xs (Int32.toNatClampNeg 2)), .int (xs (Int32.toNatClampNeg 3)), .int (xs (Int32.toNatClampNeg 4)), .int (xs (Int32.toNatClampNeg 5)), .ref ou]) (rest := []) ⟨hx, hb, hml, hown, hts⟩ (c_L_addFlight l hl0 G N0 ade adB H.size x dy ag qch qsh qsc pl qfl qac qcr qfg qgr qme qsf qsb qtu (xs (Int32.toNatClampNeg 1)) (xs (Int32.toNatClampNeg 2)) (xs (Int32.toNatClampNeg 3)) (xs (Int32.toNatClampNeg 4)) (xs (Int32.toNatClampNeg 5)) ou alo fo) (vx_cwSW 7 hts (kgS q518 q519 q35 q520) rfl rfl rfl (by decide +kernel) ⟨(Nat.le_of_ble_eq_true rfl), (Nat.le_of_ble_eq_true rfl)⟩) (kpreS hP hD hK hAN hT hN hS [0, 1, 2] [0] (by decide) rfl rfl) rfl rfl hl.1 rfl (lv_room (Nat.le_of_ble_eq_true rfl)) dL_law_881 ⟨(Nat.le_of_ble_eq_true rfl), (Nat.le_of_ble_eq_true rfl)⟩) (ws := [(x, .inr (17, [.ref pl, .ref dy, .ref ag, .ref qch, .ref qsh, .ref qsc, .int 0, .int 0])), (pl, .inr (16, [.ref qfl, .ref qac, .ref qcr, .ref qfg, .ref qgr, .ref qme, .ref qsf, .ref qsb, .ref qtu, .int 0, .int 0, .int 0, .int 0, .int 0, .int 0, .int 0, .int 0, .int (-1), .int 1])), (ou, .inl (alo, 1, .inr (.inl fo))), (mo_, .inr (25, [.ref ti, .ref mfl, .ref mcr, .ref mst, .ref mtu, .int 1, .int 0, .int 1, .ref mfg, .ref mgr, .ref mme, .null, .int 0])), (mfl, .inr (5, [.int 0, .ref ade, .int 0])), (mcr, .inr (5, [.int 0, .ref ade, .int 0])), (mfg, .inr (5, [.int 0, .ref ade, .int 0]))]) (wc := [(x, .inr (17, [.ref pl, .ref dy, .ref ag, .ref qch, .ref qsh, .ref qsc, .int 0, .int 0])), (pl, .inr (16, [.ref qfl, .ref qac, .ref qcr, .ref qfg, .ref qgr, .ref qme, .ref qsf, .ref qsb, .ref qtu, .int 0, .int 0, .int 0, .int 0, .int 0, .int 0, .int 0, .int 0, .int (-1), .int 1])), (ou, .inl (alo, 1, .inr (.inl fo)))]) (wr := [(mo_, .inr (25, [.ref ti, .ref mfl, .ref mcr, .ref mst, .ref mtu, .int 1, .int 0, .int 1, .ref mfg, .ref mgr, .ref mme, .null, .int 0])), (mfl, .inr (5, [.int 0, .ref ade, .int 0])), (mcr, .inr (5, [.int 0, .ref ade, .int 0])), (mfg, .inr (5, [.int 0, .ref ade, .int 0]))]) hP hD hK hS hA [0, 1, 2] [3, 4, 5, 6] [] rfl rfl (by decide) (by decide) rfl (fun r_ u1 H locs hw2 hP hD hK hS => ?_)
  have hP : va_P G vwCl [(mo_, .inr (25, [.ref ti, .ref mfl, .ref mcr, .ref mst, .ref mtu, .int 1, .int 0, .int 1, .ref mfg, .ref mgr, .ref mme, .null, .int 0])), (mfl, .inr (5, [.int 0, .ref ade, .int 0])), (mcr, .inr (5, [.int 0, .ref ade, .int 0])), (mfg, .inr (5, [.int 0, .ref ade, .int 0]))] H := hP
  have hD : va_D A [(mo_, .inr (25, [.ref ti, .ref mfl, .ref mcr, .ref mst, .ref mtu, .int 1, .int 0, .int 1, .ref mfg, .ref mgr, .ref mme, .null, .int 0])), (mfl, .inr (5, [.int 0, .ref ade, .int 0])), (mcr, .inr (5, [.int 0, .ref ade, .int 0])), (mfg, .inr (5, [.int 0, .ref ade, .int 0]))] := hD
  have hK : va_K G vwCl [] s := hK
  refine W.widen (k := 163) (n := 21218) (Nat.le_of_ble_eq_true rfl) (Nat.le_of_ble_eq_true rfl) ?_
  obtain rfl : r_ = 1 := hw2
  refine lv_istore (lv' := [(6, .int 1), (5, .int 0), (4, .ref oud), (3, .ref ou), (2, .ref mo_), (1, .ref x), (0, .ref b)]) hx hb dL_law_884 hl (by decide) rfl (fun ls hl => ?_)
  refine lv_aload_n hx hb dL_law_886 rfl (lv_at hl 4 rfl) ?_
  refine lv_aload_n hx hb dL_law_887 rfl (lv_at hl 6 rfl) ?_
  refine lv_iload hx hb dL_law_888 (lv_at hl 1 rfl) ?_
  refine lv_iconst (v := 1) hx hb dL_law_890 (by decide) ?_
  refine lv_iadd hx hb dL_law_891 ?_
  refine lv_topi (fun v_ e_ => ?_)
  obtain rfl : v_ = 1 := e_.trans (by decide)
  refine va_sld hx hb hX hbl hbA hS (vin (by decide +kernel)) dL_law_892 ?_
  refine lv_aload_n hx hb dL_law_893 rfl (lv_at hl 6 rfl) ?_
  refine lv_iload hx hb dL_law_894 (lv_at hl 1 rfl) ?_
  refine lv_iconst (v := 2) hx hb dL_law_896 (by decide) ?_
  refine lv_iadd hx hb dL_law_897 ?_
  refine lv_topi (fun v_ e_ => ?_)
  obtain rfl : v_ = 2 := e_.trans (by decide)
  refine va_sld hx hb hX hbl hbA hS (vin (by decide +kernel)) dL_law_898 ?_
  refine lv_aload_n hx hb dL_law_899 rfl (lv_at hl 6 rfl) ?_
  refine lv_iload hx hb dL_law_900 (lv_at hl 1 rfl) ?_
  refine W.eq (g2 := F0 m 902 ls [.int 0, .ref b, .int (xs (Int32.toNatClampNeg 2)), .int (xs (Int32.toNatClampNeg 1)), .ref mo_]) rfl ?_
  refine lv_iconst (v := 3) hx hb dL_law_902 (by decide) ?_
  refine lv_iadd hx hb dL_law_903 ?_
  refine lv_topi (fun v_ e_ => ?_)
  obtain rfl : v_ = 3 := e_.trans (by decide)
  refine va_sld hx hb hX hbl hbA hS (vin (by decide +kernel)) dL_law_904 ?_
  refine lv_aload_n hx hb dL_law_905 rfl (lv_at hl 6 rfl) ?_
  refine lv_iload hx hb dL_law_906 (lv_at hl 1 rfl) ?_
  refine lv_iconst (v := 4) hx hb dL_law_908 (by decide) ?_
  refine lv_iadd hx hb dL_law_909 ?_
  refine lv_topi (fun v_ e_ => ?_)
  obtain rfl : v_ = 4 := e_.trans (by decide)
  refine va_sld hx hb hX hbl hbA hS (vin (by decide +kernel)) dL_law_910 ?_
  refine lv_aload_n hx hb dL_law_911 rfl (lv_at hl 6 rfl) ?_
  refine lv_iload hx hb dL_law_912 (lv_at hl 1 rfl) ?_
  refine lv_iconst (v := 5) hx hb dL_law_914 (by decide) ?_
  refine lv_iadd hx hb dL_law_915 ?_
  refine lv_topi (fun v_ e_ => ?_)
  obtain rfl : v_ = 5 := e_.trans (by decide)
  refine va_sld hx hb hX hbl hbA hS (vin (by decide +kernel)) dL_law_916 ?_
  refine ka_i (va_runV (As := [.int (xs (Int32.toNatClampNeg 1)), .int (xs (Int32.toNatClampNeg 2)), .int (xs (Int32.toNatClampNeg 3)), .int (xs (Int32.toNatClampNeg 4)), .int (xs (Int32.toNatClampNeg 5))]) (rest := []) ⟨hx, hb, hml, hown, hts⟩ (c_m_addFlight l G N0 ade adB H.size mo_ ti mfl mcr mst mtu mfg mgr mme 0 (xs (Int32.toNatClampNeg 1)) (xs (Int32.toNatClampNeg 2)) (xs (Int32.toNatClampNeg 3)) (xs (Int32.toNatClampNeg 4)) (xs (Int32.toNatClampNeg 5))) (cwV 5 hts (kgV q859 q860 q861 q49 q862) rfl rfl rfl (by decide +kernel) ⟨(Nat.le_of_ble_eq_true rfl), (Nat.le_of_ble_eq_true rfl)⟩) (kpreV (ci := 25) (q0 := 0) hP hD hK hAN hT hN hS [0, 1, 2, 3] [] (by decide) rfl rfl rfl rfl rfl) rfl rfl hl.1 rfl (lv_room (Nat.le_of_ble_eq_true rfl)) dL_law_917 ⟨(Nat.le_of_ble_eq_true rfl), (Nat.le_of_ble_eq_true rfl)⟩) (ws := [(mo_, .inr (25, [.ref ti, .ref mfl, .ref mcr, .ref mst, .ref mtu, .int 1, .int 0, .int 1, .ref mfg, .ref mgr, .ref mme, .null, .int 0])), (mfl, .inr (5, [.int 0, .ref ade, .int 0])), (mcr, .inr (5, [.int 0, .ref ade, .int 0])), (mfg, .inr (5, [.int 0, .ref ade, .int 0]))]) (wc := [(mo_, .inr (25, [.ref ti, .ref mfl, .ref mcr, .ref mst, .ref mtu, .int 1, .int 0, .int 1, .ref mfg, .ref mgr, .ref mme, .null, .int 0])), (mfl, .inr (5, [.int 0, .ref ade, .int 0])), (mcr, .inr (5, [.int 0, .ref ade, .int 0])), (mfg, .inr (5, [.int 0, .ref ade, .int 0]))]) (wr := []) hP hD hK hS hA [0, 1, 2, 3] [] [] rfl rfl (by decide) (by decide) rfl (fun r_ u4 H locs hw5 hP hD hK hS => ?_)
  obtain ⟨fs3, rfl⟩ : ∃ z_, z_ = u4 := ⟨_, rfl⟩
  have hP : va_P G vwCl [(mo_, .inr (25, fs3))] H := hP
  have hD : va_D A [(mo_, .inr (25, fs3))] := hD
  have hK : va_K G vwCl [] s := hK
  refine W.widen (k := 163) (n := 21218) (Nat.le_of_ble_eq_true rfl) (Nat.le_of_ble_eq_true rfl) ?_
  have hf6 : fs3[12]? = some (.int (sp_m_addFlight (xs (Int32.toNatClampNeg 1)) (xs (Int32.toNatClampNeg 2)) (xs (Int32.toNatClampNeg 3)) (xs (Int32.toNatClampNeg 4)) (xs (Int32.toNatClampNeg 5)))) := hw5.2
  obtain rfl : r_ = (sv_m_addFlight (xs (Int32.toNatClampNeg 1)) (xs (Int32.toNatClampNeg 2)) (xs (Int32.toNatClampNeg 3)) (xs (Int32.toNatClampNeg 4)) (xs (Int32.toNatClampNeg 5))) := hw5.1
  refine lv_istore (lv' := [(7, .int (sv_m_addFlight (xs (Int32.toNatClampNeg 1)) (xs (Int32.toNatClampNeg 2)) (xs (Int32.toNatClampNeg 3)) (xs (Int32.toNatClampNeg 4)) (xs (Int32.toNatClampNeg 5)))), (6, .int 1), (5, .int 0), (4, .ref oud), (3, .ref ou), (2, .ref mo_), (1, .ref x), (0, .ref b)]) hx hb dL_law_920 hl (by decide) rfl (fun ls hl => ?_)
  refine lv_aload_n hx hb dL_law_922 rfl (lv_at hl 5 rfl) ?_
  refine ka_i (va_runV (As := []) (rest := []) ⟨hx, hb, hml, hown, hts⟩ (c_m_thrown l G N0 ade adB H.size mo_ fs3 (sp_m_addFlight (xs (Int32.toNatClampNeg 1)) (xs (Int32.toNatClampNeg 2)) (xs (Int32.toNatClampNeg 3)) (xs (Int32.toNatClampNeg 4)) (xs (Int32.toNatClampNeg 5))) hf6) (cwV 0 hts (kgV q748 q749 q750 q49 q751) rfl rfl rfl (by decide +kernel) ⟨(Nat.le_of_ble_eq_true rfl), (Nat.le_of_ble_eq_true rfl)⟩) (kpreV (ci := 25) (q0 := 0) hP hD hK hAN hT hN hS [0] [] (by decide) rfl rfl rfl rfl rfl) rfl rfl hl.1 rfl (lv_room (Nat.le_of_ble_eq_true rfl)) dL_law_923 ⟨(Nat.le_of_ble_eq_true rfl), (Nat.le_of_ble_eq_true rfl)⟩) (ws := [(mo_, .inr (25, fs3))]) (wc := [(mo_, .inr (25, fs3))]) (wr := []) hP hD hK hS hA [0] [] [] rfl rfl (by decide) (by decide) rfl (fun r_ u8 H locs hw9 hP hD hK hS => ?_)
  have hP : va_P G vwCl [(mo_, .inr (25, fs3))] H := hP
  have hD : va_D A [(mo_, .inr (25, fs3))] := hD
  have hK : va_K G vwCl [] s := hK
  refine W.widen (k := 163) (n := 21218) (Nat.le_of_ble_eq_true rfl) (Nat.le_of_ble_eq_true rfl) ?_
  obtain rfl : r_ = (sp_m_addFlight (xs (Int32.toNatClampNeg 1)) (xs (Int32.toNatClampNeg 2)) (xs (Int32.toNatClampNeg 3)) (xs (Int32.toNatClampNeg 4)) (xs (Int32.toNatClampNeg 5))) := hw9
  refine lv_iload hx hb dL_law_926 (lv_at hl 1 rfl) ?_
  refine lv_icmp_eq (tgt := 933) hx hb dL_law_928 (by decide) (fun _ => ?_) (fun h_ => absurd (tm_addFlight (xs (Int32.toNatClampNeg 1)) (xs (Int32.toNatClampNeg 2)) (xs (Int32.toNatClampNeg 3)) (xs (Int32.toNatClampNeg 4)) (xs (Int32.toNatClampNeg 5))) h_)
  refine lv_iload hx hb dL_law_933 (lv_at hl 1 rfl) ?_
  refine lv_if_ne (tgt := 950) hx hb dL_law_935 (by decide) (fun _ => ?_) (fun h_ => absurd h_ (by decide))
  refine lv_goto (tgt := 2435) hx hb dL_law_950 (by decide) ?_
  exact law_tail hl0 hx hb hr hml hown hts hX hbl hlocks hT hAN hA hN hbA hAs hS (Nat.le_of_ble_eq_true rfl) (Nat.le_of_ble_eq_true rfl) (lv_sub hl [2, 7] rfl)

set_option maxHeartbeats 4000000 in
set_option maxRecDepth 100000 in
theorem law_slot {p : Program} {l : Launch} {e : Env} {s : State} {m : MethodId} {below : List Frame} {meth : Method} {c : Code} {b : Nat} {xs : Nat → Int32} {A : Nat → Prop} (hl0 : l.stackTraces = false) (hx : p.tables.exec = Jvm.exec) (hb : c.code = cL_law) (hr : meth.sig.returnType = ret) (hml : c.maxLocals = 9) (hown : s.vm.findClass RL = some m.cls) (hts : ∀ w ∈ lw_all, w.before #[Value.ref b] s = true) (hX : va_X b 7 xs s s.heap) (hbl : b < s.heap.size) (hlocks : meth.locks = false) {N0 ade : Nat} {adB : Nat → Nat} (hT : BT N0 ade adB s) (hAN : ∀ q, A q → KA N0 q) (hA : ∀ q, s.heap.size ≤ q → A q) (hN : N0 ≤ s.heap.size) (hbA : ¬ A b) (hAs : ∀ q, A q → s.heap.size ≤ q) {G : va_G} {x : Nat} {dy : Nat} {ag : Nat} {qch : Nat} {qsh : Nat} {qsc : Nat} {pl : Nat} {qfl : Nat} {qac : Nat} {qcr : Nat} {qfg : Nat} {qgr : Nat} {qme : Nat} {qsf : Nat} {qsb : Nat} {qtu : Nat} {ou : Nat} {alo : ClassId} {fo : Nat → Int64} {mo_ : Nat} {ti : Nat} {mfl : Nat} {mcr : Nat} {mst : Nat} {mtu : Nat} {mfg : Nat} {mgr : Nat} {mme : Nat} {oud : Nat}  {H : Heap} {locs : List Loc} (hP : va_P G vwCl [(x, .inr (17, [.ref pl, .ref dy, .ref ag, .ref qch, .ref qsh, .ref qsc, .int 0, .int 0])), (pl, .inr (16, [.ref qfl, .ref qac, .ref qcr, .ref qfg, .ref qgr, .ref qme, .ref qsf, .ref qsb, .ref qtu, .int 0, .int 0, .int 0, .int 0, .int 0, .int 0, .int 0, .int 0, .int (-1), .int 1])), (ou, .inl (alo, 1, .inr (.inl fo))), (mo_, .inr (25, [.ref ti, .ref mfl, .ref mcr, .ref mst, .ref mtu, .int 1, .int 0, .int 1, .ref mfg, .ref mgr, .ref mme, .null, .int 0])), (mfg, .inr (5, [.int 0, .ref ade, .int 0]))] H) (hD : va_D A [(x, .inr (17, [.ref pl, .ref dy, .ref ag, .ref qch, .ref qsh, .ref qsc, .int 0, .int 0])), (pl, .inr (16, [.ref qfl, .ref qac, .ref qcr, .ref qfg, .ref qgr, .ref qme, .ref qsf, .ref qsb, .ref qtu, .int 0, .int 0, .int 0, .int 0, .int 0, .int 0, .int 0, .int 0, .int (-1), .int 1])), (ou, .inl (alo, 1, .inr (.inl fo))), (mo_, .inr (25, [.ref ti, .ref mfl, .ref mcr, .ref mst, .ref mtu, .int 1, .int 0, .int 1, .ref mfg, .ref mgr, .ref mme, .null, .int 0])), (mfg, .inr (5, [.int 0, .ref ade, .int 0]))]) (hK : va_K G vwCl [(alo, .long)] s) (hS : va_S A s.heap H locs) {ls : Array Slot} (hl : lv_has ls 9 [(5, .int 0), (4, .ref oud), (3, .ref ou), (2, .ref mo_), (1, .ref x), (0, .ref b)]) : W p l e room_1 s m #[Value.ref b] below meth c H locs 160 21200 (lw_Z below #[Value.ref b] s) (F0 m 953 ls []) := by
  refine lv_aload_n hx hb dL_law_953 rfl (lv_at hl 4 rfl) ?_
  refine lv_aload_n hx hb dL_law_954 rfl (lv_at hl 5 rfl) ?_
  refine lv_iload hx hb dL_law_955 (lv_at hl 0 rfl) ?_
  refine lv_iconst (v := 1) hx hb dL_law_957 (by decide) ?_
  refine lv_iadd hx hb dL_law_958 ?_
  refine lv_topi (fun v_ e_ => ?_)
  obtain rfl : v_ = 1 := e_.trans (by decide)
  refine va_sld hx hb hX hbl hbA hS (vin (by decide +kernel)) dL_law_959 ?_
  refine lv_aload_n hx hb dL_law_960 rfl (lv_at hl 5 rfl) ?_
  refine lv_iload hx hb dL_law_961 (lv_at hl 0 rfl) ?_
  refine lv_iconst (v := 2) hx hb dL_law_963 (by decide) ?_
  refine lv_iadd hx hb dL_law_964 ?_
  refine lv_topi (fun v_ e_ => ?_)
  obtain rfl : v_ = 2 := e_.trans (by decide)
  refine va_sld hx hb hX hbl hbA hS (vin (by decide +kernel)) dL_law_965 ?_
  refine lv_aload_n hx hb dL_law_966 rfl (lv_at hl 2 rfl) ?_
  refine ka_i (vx_runSW (As := [.ref x, .int (xs (Int32.toNatClampNeg 1)), .int (xs (Int32.toNatClampNeg 2)), .ref ou]) (rest := []) ⟨hx, hb, hml, hown, hts⟩ (c_L_slot l hl0 G N0 ade adB H.size x dy ag qch qsh qsc pl qfl qac qcr qfg qgr qme qsf qsb qtu (xs (Int32.toNatClampNeg 1)) (xs (Int32.toNatClampNeg 2)) ou alo fo) (vx_cwSW 4 hts (kgS q525 q526 q35 q527) rfl rfl rfl (by decide +kernel) ⟨(Nat.le_of_ble_eq_true rfl), (Nat.le_of_ble_eq_true rfl)⟩) (kpreS hP hD hK hAN hT hN hS [0, 1, 2] [0] (by decide) rfl rfl) rfl rfl hl.1 rfl (lv_room (Nat.le_of_ble_eq_true rfl)) dL_law_967 ⟨(Nat.le_of_ble_eq_true rfl), (Nat.le_of_ble_eq_true rfl)⟩) (ws := [(x, .inr (17, [.ref pl, .ref dy, .ref ag, .ref qch, .ref qsh, .ref qsc, .int 0, .int 0])), (pl, .inr (16, [.ref qfl, .ref qac, .ref qcr, .ref qfg, .ref qgr, .ref qme, .ref qsf, .ref qsb, .ref qtu, .int 0, .int 0, .int 0, .int 0, .int 0, .int 0, .int 0, .int 0, .int (-1), .int 1])), (ou, .inl (alo, 1, .inr (.inl fo))), (mo_, .inr (25, [.ref ti, .ref mfl, .ref mcr, .ref mst, .ref mtu, .int 1, .int 0, .int 1, .ref mfg, .ref mgr, .ref mme, .null, .int 0])), (mfg, .inr (5, [.int 0, .ref ade, .int 0]))]) (wc := [(x, .inr (17, [.ref pl, .ref dy, .ref ag, .ref qch, .ref qsh, .ref qsc, .int 0, .int 0])), (pl, .inr (16, [.ref qfl, .ref qac, .ref qcr, .ref qfg, .ref qgr, .ref qme, .ref qsf, .ref qsb, .ref qtu, .int 0, .int 0, .int 0, .int 0, .int 0, .int 0, .int 0, .int 0, .int (-1), .int 1])), (ou, .inl (alo, 1, .inr (.inl fo)))]) (wr := [(mo_, .inr (25, [.ref ti, .ref mfl, .ref mcr, .ref mst, .ref mtu, .int 1, .int 0, .int 1, .ref mfg, .ref mgr, .ref mme, .null, .int 0])), (mfg, .inr (5, [.int 0, .ref ade, .int 0]))]) hP hD hK hS hA [0, 1, 2] [3, 4] [] rfl rfl (by decide) (by decide) rfl (fun r_ u1 H locs hw2 hP hD hK hS => ?_)
  have hP : va_P G vwCl [(mo_, .inr (25, [.ref ti, .ref mfl, .ref mcr, .ref mst, .ref mtu, .int 1, .int 0, .int 1, .ref mfg, .ref mgr, .ref mme, .null, .int 0])), (mfg, .inr (5, [.int 0, .ref ade, .int 0]))] H := hP
  have hD : va_D A [(mo_, .inr (25, [.ref ti, .ref mfl, .ref mcr, .ref mst, .ref mtu, .int 1, .int 0, .int 1, .ref mfg, .ref mgr, .ref mme, .null, .int 0])), (mfg, .inr (5, [.int 0, .ref ade, .int 0]))] := hD
  have hK : va_K G vwCl [] s := hK
  refine W.widen (k := 161) (n := 21206) (Nat.le_of_ble_eq_true rfl) (Nat.le_of_ble_eq_true rfl) ?_
  obtain rfl : r_ = 1 := hw2
  refine lv_istore (lv' := [(6, .int 1), (5, .int 0), (4, .ref oud), (3, .ref ou), (2, .ref mo_), (1, .ref x), (0, .ref b)]) hx hb dL_law_970 hl (by decide) rfl (fun ls hl => ?_)
  refine lv_aload_n hx hb dL_law_972 rfl (lv_at hl 4 rfl) ?_
  refine lv_aload_n hx hb dL_law_973 rfl (lv_at hl 6 rfl) ?_
  refine lv_iload hx hb dL_law_974 (lv_at hl 1 rfl) ?_
  refine lv_iconst (v := 1) hx hb dL_law_976 (by decide) ?_
  refine lv_iadd hx hb dL_law_977 ?_
  refine lv_topi (fun v_ e_ => ?_)
  obtain rfl : v_ = 1 := e_.trans (by decide)
  refine va_sld hx hb hX hbl hbA hS (vin (by decide +kernel)) dL_law_978 ?_
  refine lv_aload_n hx hb dL_law_979 rfl (lv_at hl 6 rfl) ?_
  refine lv_iload hx hb dL_law_980 (lv_at hl 1 rfl) ?_
  refine lv_iconst (v := 2) hx hb dL_law_982 (by decide) ?_
  refine lv_iadd hx hb dL_law_983 ?_
  refine lv_topi (fun v_ e_ => ?_)
  obtain rfl : v_ = 2 := e_.trans (by decide)
  refine va_sld hx hb hX hbl hbA hS (vin (by decide +kernel)) dL_law_984 ?_
  refine ka_i (va_runV (As := [.int (xs (Int32.toNatClampNeg 1)), .int (xs (Int32.toNatClampNeg 2))]) (rest := []) ⟨hx, hb, hml, hown, hts⟩ (c_m_slot l G N0 ade adB H.size mo_ ti mfl mcr mst mtu mfg mgr mme 0 (xs (Int32.toNatClampNeg 1)) (xs (Int32.toNatClampNeg 2))) (cwV 2 hts (kgV q866 q867 q868 q49 q869) rfl rfl rfl (by decide +kernel) ⟨(Nat.le_of_ble_eq_true rfl), (Nat.le_of_ble_eq_true rfl)⟩) (kpreV (ci := 25) (q0 := 0) hP hD hK hAN hT hN hS [0, 1] [] (by decide) rfl rfl rfl rfl rfl) rfl rfl hl.1 rfl (lv_room (Nat.le_of_ble_eq_true rfl)) dL_law_985 ⟨(Nat.le_of_ble_eq_true rfl), (Nat.le_of_ble_eq_true rfl)⟩) (ws := [(mo_, .inr (25, [.ref ti, .ref mfl, .ref mcr, .ref mst, .ref mtu, .int 1, .int 0, .int 1, .ref mfg, .ref mgr, .ref mme, .null, .int 0])), (mfg, .inr (5, [.int 0, .ref ade, .int 0]))]) (wc := [(mo_, .inr (25, [.ref ti, .ref mfl, .ref mcr, .ref mst, .ref mtu, .int 1, .int 0, .int 1, .ref mfg, .ref mgr, .ref mme, .null, .int 0])), (mfg, .inr (5, [.int 0, .ref ade, .int 0]))]) (wr := []) hP hD hK hS hA [0, 1] [] [] rfl rfl (by decide) (by decide) rfl (fun r_ u4 H locs hw5 hP hD hK hS => ?_)
  obtain ⟨fs3, rfl⟩ : ∃ z_, z_ = u4 := ⟨_, rfl⟩
  have hP : va_P G vwCl [(mo_, .inr (25, fs3))] H := hP
  have hD : va_D A [(mo_, .inr (25, fs3))] := hD
  have hK : va_K G vwCl [] s := hK
  refine W.widen (k := 161) (n := 21206) (Nat.le_of_ble_eq_true rfl) (Nat.le_of_ble_eq_true rfl) ?_
  have hf6 : fs3[12]? = some (.int (sp_m_slot (xs (Int32.toNatClampNeg 1)) (xs (Int32.toNatClampNeg 2)))) := hw5.2
  obtain rfl : r_ = (sv_m_slot (xs (Int32.toNatClampNeg 1)) (xs (Int32.toNatClampNeg 2))) := hw5.1
  refine lv_istore (lv' := [(7, .int (sv_m_slot (xs (Int32.toNatClampNeg 1)) (xs (Int32.toNatClampNeg 2)))), (6, .int 1), (5, .int 0), (4, .ref oud), (3, .ref ou), (2, .ref mo_), (1, .ref x), (0, .ref b)]) hx hb dL_law_988 hl (by decide) rfl (fun ls hl => ?_)
  refine lv_aload_n hx hb dL_law_990 rfl (lv_at hl 5 rfl) ?_
  refine ka_i (va_runV (As := []) (rest := []) ⟨hx, hb, hml, hown, hts⟩ (c_m_thrown l G N0 ade adB H.size mo_ fs3 (sp_m_slot (xs (Int32.toNatClampNeg 1)) (xs (Int32.toNatClampNeg 2))) hf6) (cwV 0 hts (kgV q748 q749 q750 q49 q751) rfl rfl rfl (by decide +kernel) ⟨(Nat.le_of_ble_eq_true rfl), (Nat.le_of_ble_eq_true rfl)⟩) (kpreV (ci := 25) (q0 := 0) hP hD hK hAN hT hN hS [0] [] (by decide) rfl rfl rfl rfl rfl) rfl rfl hl.1 rfl (lv_room (Nat.le_of_ble_eq_true rfl)) dL_law_991 ⟨(Nat.le_of_ble_eq_true rfl), (Nat.le_of_ble_eq_true rfl)⟩) (ws := [(mo_, .inr (25, fs3))]) (wc := [(mo_, .inr (25, fs3))]) (wr := []) hP hD hK hS hA [0] [] [] rfl rfl (by decide) (by decide) rfl (fun r_ u8 H locs hw9 hP hD hK hS => ?_)
  have hP : va_P G vwCl [(mo_, .inr (25, fs3))] H := hP
  have hD : va_D A [(mo_, .inr (25, fs3))] := hD
  have hK : va_K G vwCl [] s := hK
  refine W.widen (k := 161) (n := 21206) (Nat.le_of_ble_eq_true rfl) (Nat.le_of_ble_eq_true rfl) ?_
  obtain rfl : r_ = (sp_m_slot (xs (Int32.toNatClampNeg 1)) (xs (Int32.toNatClampNeg 2))) := hw9
  refine lv_iload hx hb dL_law_994 (lv_at hl 1 rfl) ?_
  refine lv_icmp_eq (tgt := 1001) hx hb dL_law_996 (by decide) (fun _ => ?_) (fun h_ => absurd (show (sp_m_slot (xs (Int32.toNatClampNeg 1)) (xs (Int32.toNatClampNeg 2))) = 1 from rfl) h_)
  refine lv_iload hx hb dL_law_1001 (lv_at hl 1 rfl) ?_
  refine lv_if_ne (tgt := 1018) hx hb dL_law_1003 (by decide) (fun _ => ?_) (fun h_ => absurd h_ (by decide))
  refine lv_goto (tgt := 2435) hx hb dL_law_1018 (by decide) ?_
  exact law_tail hl0 hx hb hr hml hown hts hX hbl hlocks hT hAN hA hN hbA hAs hS (Nat.le_of_ble_eq_true rfl) (Nat.le_of_ble_eq_true rfl) (lv_sub hl [2, 7] rfl)

set_option maxHeartbeats 4000000 in
set_option maxRecDepth 100000 in
theorem law_trade {p : Program} {l : Launch} {e : Env} {s : State} {m : MethodId} {below : List Frame} {meth : Method} {c : Code} {b : Nat} {xs : Nat → Int32} {A : Nat → Prop} (hl0 : l.stackTraces = false) (hx : p.tables.exec = Jvm.exec) (hb : c.code = cL_law) (hr : meth.sig.returnType = ret) (hml : c.maxLocals = 9) (hown : s.vm.findClass RL = some m.cls) (hts : ∀ w ∈ lw_all, w.before #[Value.ref b] s = true) (hX : va_X b 7 xs s s.heap) (hbl : b < s.heap.size) (hlocks : meth.locks = false) {N0 ade : Nat} {adB : Nat → Nat} (hT : BT N0 ade adB s) (hAN : ∀ q, A q → KA N0 q) (hA : ∀ q, s.heap.size ≤ q → A q) (hN : N0 ≤ s.heap.size) (hbA : ¬ A b) (hAs : ∀ q, A q → s.heap.size ≤ q) {G : va_G} {x : Nat} {dy : Nat} {ag : Nat} {qch : Nat} {qsh : Nat} {qsc : Nat} {pl : Nat} {qfl : Nat} {qac : Nat} {qcr : Nat} {qfg : Nat} {qgr : Nat} {qme : Nat} {qsf : Nat} {qsb : Nat} {qtu : Nat} {ou : Nat} {alo : ClassId} {fo : Nat → Int64} {mo_ : Nat} {ti : Nat} {mfl : Nat} {mcr : Nat} {mst : Nat} {mtu : Nat} {mfg : Nat} {mgr : Nat} {mme : Nat} {oud : Nat}  {H : Heap} {locs : List Loc} (hP : va_P G vwCl [(x, .inr (17, [.ref pl, .ref dy, .ref ag, .ref qch, .ref qsh, .ref qsc, .int 0, .int 0])), (pl, .inr (16, [.ref qfl, .ref qac, .ref qcr, .ref qfg, .ref qgr, .ref qme, .ref qsf, .ref qsb, .ref qtu, .int 0, .int 0, .int 0, .int 0, .int 0, .int 0, .int 0, .int 0, .int (-1), .int 1])), (ou, .inl (alo, 1, .inr (.inl fo))), (mo_, .inr (25, [.ref ti, .ref mfl, .ref mcr, .ref mst, .ref mtu, .int 1, .int 0, .int 1, .ref mfg, .ref mgr, .ref mme, .null, .int 0])), (mfg, .inr (5, [.int 0, .ref ade, .int 0]))] H) (hD : va_D A [(x, .inr (17, [.ref pl, .ref dy, .ref ag, .ref qch, .ref qsh, .ref qsc, .int 0, .int 0])), (pl, .inr (16, [.ref qfl, .ref qac, .ref qcr, .ref qfg, .ref qgr, .ref qme, .ref qsf, .ref qsb, .ref qtu, .int 0, .int 0, .int 0, .int 0, .int 0, .int 0, .int 0, .int 0, .int (-1), .int 1])), (ou, .inl (alo, 1, .inr (.inl fo))), (mo_, .inr (25, [.ref ti, .ref mfl, .ref mcr, .ref mst, .ref mtu, .int 1, .int 0, .int 1, .ref mfg, .ref mgr, .ref mme, .null, .int 0])), (mfg, .inr (5, [.int 0, .ref ade, .int 0]))]) (hK : va_K G vwCl [(alo, .long)] s) (hS : va_S A s.heap H locs) {ls : Array Slot} (hl : lv_has ls 9 [(5, .int 0), (4, .ref oud), (3, .ref ou), (2, .ref mo_), (1, .ref x), (0, .ref b)]) : W p l e room_1 s m #[Value.ref b] below meth c H locs 160 21200 (lw_Z below #[Value.ref b] s) (F0 m 1021 ls []) := by
  refine lv_aload_n hx hb dL_law_1021 rfl (lv_at hl 4 rfl) ?_
  refine lv_aload_n hx hb dL_law_1022 rfl (lv_at hl 5 rfl) ?_
  refine lv_iload hx hb dL_law_1023 (lv_at hl 0 rfl) ?_
  refine lv_iconst (v := 1) hx hb dL_law_1025 (by decide) ?_
  refine lv_iadd hx hb dL_law_1026 ?_
  refine lv_topi (fun v_ e_ => ?_)
  obtain rfl : v_ = 1 := e_.trans (by decide)
  refine va_sld hx hb hX hbl hbA hS (vin (by decide +kernel)) dL_law_1027 ?_
  refine lv_aload_n hx hb dL_law_1028 rfl (lv_at hl 5 rfl) ?_
  refine lv_iload hx hb dL_law_1029 (lv_at hl 0 rfl) ?_
  refine lv_iconst (v := 2) hx hb dL_law_1031 (by decide) ?_
  refine lv_iadd hx hb dL_law_1032 ?_
  refine lv_topi (fun v_ e_ => ?_)
  obtain rfl : v_ = 2 := e_.trans (by decide)
  refine va_sld hx hb hX hbl hbA hS (vin (by decide +kernel)) dL_law_1033 ?_
  refine lv_aload_n hx hb dL_law_1034 rfl (lv_at hl 2 rfl) ?_
  refine ka_i (vx_runSW (As := [.ref x, .int (xs (Int32.toNatClampNeg 1)), .int (xs (Int32.toNatClampNeg 2)), .ref ou]) (rest := []) ⟨hx, hb, hml, hown, hts⟩ (c_L_trade l hl0 G N0 ade adB H.size x dy ag qch qsh qsc pl qfl qac qcr qfg qgr qme qsf qsb qtu (xs (Int32.toNatClampNeg 1)) (xs (Int32.toNatClampNeg 2)) ou alo fo) (vx_cwSW 4 hts (kgS q542 q543 q35 q544) rfl rfl rfl (by decide +kernel) ⟨(Nat.le_of_ble_eq_true rfl), (Nat.le_of_ble_eq_true rfl)⟩) (kpreS hP hD hK hAN hT hN hS [0, 1, 2] [0] (by decide) rfl rfl) rfl rfl hl.1 rfl (lv_room (Nat.le_of_ble_eq_true rfl)) dL_law_1035 ⟨(Nat.le_of_ble_eq_true rfl), (Nat.le_of_ble_eq_true rfl)⟩) (ws := [(x, .inr (17, [.ref pl, .ref dy, .ref ag, .ref qch, .ref qsh, .ref qsc, .int 0, .int 0])), (pl, .inr (16, [.ref qfl, .ref qac, .ref qcr, .ref qfg, .ref qgr, .ref qme, .ref qsf, .ref qsb, .ref qtu, .int 0, .int 0, .int 0, .int 0, .int 0, .int 0, .int 0, .int 0, .int (-1), .int 1])), (ou, .inl (alo, 1, .inr (.inl fo))), (mo_, .inr (25, [.ref ti, .ref mfl, .ref mcr, .ref mst, .ref mtu, .int 1, .int 0, .int 1, .ref mfg, .ref mgr, .ref mme, .null, .int 0])), (mfg, .inr (5, [.int 0, .ref ade, .int 0]))]) (wc := [(x, .inr (17, [.ref pl, .ref dy, .ref ag, .ref qch, .ref qsh, .ref qsc, .int 0, .int 0])), (pl, .inr (16, [.ref qfl, .ref qac, .ref qcr, .ref qfg, .ref qgr, .ref qme, .ref qsf, .ref qsb, .ref qtu, .int 0, .int 0, .int 0, .int 0, .int 0, .int 0, .int 0, .int 0, .int (-1), .int 1])), (ou, .inl (alo, 1, .inr (.inl fo)))]) (wr := [(mo_, .inr (25, [.ref ti, .ref mfl, .ref mcr, .ref mst, .ref mtu, .int 1, .int 0, .int 1, .ref mfg, .ref mgr, .ref mme, .null, .int 0])), (mfg, .inr (5, [.int 0, .ref ade, .int 0]))]) hP hD hK hS hA [0, 1, 2] [3, 4] [] rfl rfl (by decide) (by decide) rfl (fun r_ u1 H locs hw2 hP hD hK hS => ?_)
  have hP : va_P G vwCl [(mo_, .inr (25, [.ref ti, .ref mfl, .ref mcr, .ref mst, .ref mtu, .int 1, .int 0, .int 1, .ref mfg, .ref mgr, .ref mme, .null, .int 0])), (mfg, .inr (5, [.int 0, .ref ade, .int 0]))] H := hP
  have hD : va_D A [(mo_, .inr (25, [.ref ti, .ref mfl, .ref mcr, .ref mst, .ref mtu, .int 1, .int 0, .int 1, .ref mfg, .ref mgr, .ref mme, .null, .int 0])), (mfg, .inr (5, [.int 0, .ref ade, .int 0]))] := hD
  have hK : va_K G vwCl [] s := hK
  refine W.widen (k := 161) (n := 21206) (Nat.le_of_ble_eq_true rfl) (Nat.le_of_ble_eq_true rfl) ?_
  obtain rfl : r_ = 1 := hw2
  refine lv_istore (lv' := [(6, .int 1), (5, .int 0), (4, .ref oud), (3, .ref ou), (2, .ref mo_), (1, .ref x), (0, .ref b)]) hx hb dL_law_1038 hl (by decide) rfl (fun ls hl => ?_)
  refine lv_aload_n hx hb dL_law_1040 rfl (lv_at hl 4 rfl) ?_
  refine lv_aload_n hx hb dL_law_1041 rfl (lv_at hl 6 rfl) ?_
  refine lv_iload hx hb dL_law_1042 (lv_at hl 1 rfl) ?_
  refine lv_iconst (v := 1) hx hb dL_law_1044 (by decide) ?_
  refine lv_iadd hx hb dL_law_1045 ?_
  refine lv_topi (fun v_ e_ => ?_)
  obtain rfl : v_ = 1 := e_.trans (by decide)
  refine va_sld hx hb hX hbl hbA hS (vin (by decide +kernel)) dL_law_1046 ?_
  refine lv_aload_n hx hb dL_law_1047 rfl (lv_at hl 6 rfl) ?_
  refine lv_iload hx hb dL_law_1048 (lv_at hl 1 rfl) ?_
  refine lv_iconst (v := 2) hx hb dL_law_1050 (by decide) ?_
  refine lv_iadd hx hb dL_law_1051 ?_
  refine lv_topi (fun v_ e_ => ?_)
  obtain rfl : v_ = 2 := e_.trans (by decide)
  refine va_sld hx hb hX hbl hbA hS (vin (by decide +kernel)) dL_law_1052 ?_
  refine ka_i (va_runV (As := [.int (xs (Int32.toNatClampNeg 1)), .int (xs (Int32.toNatClampNeg 2))]) (rest := []) ⟨hx, hb, hml, hown, hts⟩ (c_m_trade l G N0 ade adB H.size mo_ ti mfl mcr mst mtu mfg mgr mme 0 (xs (Int32.toNatClampNeg 1)) (xs (Int32.toNatClampNeg 2))) (cwV 2 hts (kgV q873 q874 q875 q49 q876) rfl rfl rfl (by decide +kernel) ⟨(Nat.le_of_ble_eq_true rfl), (Nat.le_of_ble_eq_true rfl)⟩) (kpreV (ci := 25) (q0 := 0) hP hD hK hAN hT hN hS [0, 1] [] (by decide) rfl rfl rfl rfl rfl) rfl rfl hl.1 rfl (lv_room (Nat.le_of_ble_eq_true rfl)) dL_law_1053 ⟨(Nat.le_of_ble_eq_true rfl), (Nat.le_of_ble_eq_true rfl)⟩) (ws := [(mo_, .inr (25, [.ref ti, .ref mfl, .ref mcr, .ref mst, .ref mtu, .int 1, .int 0, .int 1, .ref mfg, .ref mgr, .ref mme, .null, .int 0])), (mfg, .inr (5, [.int 0, .ref ade, .int 0]))]) (wc := [(mo_, .inr (25, [.ref ti, .ref mfl, .ref mcr, .ref mst, .ref mtu, .int 1, .int 0, .int 1, .ref mfg, .ref mgr, .ref mme, .null, .int 0])), (mfg, .inr (5, [.int 0, .ref ade, .int 0]))]) (wr := []) hP hD hK hS hA [0, 1] [] [] rfl rfl (by decide) (by decide) rfl (fun r_ u4 H locs hw5 hP hD hK hS => ?_)
  obtain ⟨fs3, rfl⟩ : ∃ z_, z_ = u4 := ⟨_, rfl⟩
  have hP : va_P G vwCl [(mo_, .inr (25, fs3))] H := hP
  have hD : va_D A [(mo_, .inr (25, fs3))] := hD
  have hK : va_K G vwCl [] s := hK
  refine W.widen (k := 161) (n := 21206) (Nat.le_of_ble_eq_true rfl) (Nat.le_of_ble_eq_true rfl) ?_
  have hf6 : fs3[12]? = some (.int (sp_m_trade (xs (Int32.toNatClampNeg 1)) (xs (Int32.toNatClampNeg 2)))) := hw5.2
  obtain rfl : r_ = (sv_m_trade (xs (Int32.toNatClampNeg 1)) (xs (Int32.toNatClampNeg 2))) := hw5.1
  refine lv_istore (lv' := [(7, .int (sv_m_trade (xs (Int32.toNatClampNeg 1)) (xs (Int32.toNatClampNeg 2)))), (6, .int 1), (5, .int 0), (4, .ref oud), (3, .ref ou), (2, .ref mo_), (1, .ref x), (0, .ref b)]) hx hb dL_law_1056 hl (by decide) rfl (fun ls hl => ?_)
  refine lv_aload_n hx hb dL_law_1058 rfl (lv_at hl 5 rfl) ?_
  refine ka_i (va_runV (As := []) (rest := []) ⟨hx, hb, hml, hown, hts⟩ (c_m_thrown l G N0 ade adB H.size mo_ fs3 (sp_m_trade (xs (Int32.toNatClampNeg 1)) (xs (Int32.toNatClampNeg 2))) hf6) (cwV 0 hts (kgV q748 q749 q750 q49 q751) rfl rfl rfl (by decide +kernel) ⟨(Nat.le_of_ble_eq_true rfl), (Nat.le_of_ble_eq_true rfl)⟩) (kpreV (ci := 25) (q0 := 0) hP hD hK hAN hT hN hS [0] [] (by decide) rfl rfl rfl rfl rfl) rfl rfl hl.1 rfl (lv_room (Nat.le_of_ble_eq_true rfl)) dL_law_1059 ⟨(Nat.le_of_ble_eq_true rfl), (Nat.le_of_ble_eq_true rfl)⟩) (ws := [(mo_, .inr (25, fs3))]) (wc := [(mo_, .inr (25, fs3))]) (wr := []) hP hD hK hS hA [0] [] [] rfl rfl (by decide) (by decide) rfl (fun r_ u8 H locs hw9 hP hD hK hS => ?_)
  have hP : va_P G vwCl [(mo_, .inr (25, fs3))] H := hP
  have hD : va_D A [(mo_, .inr (25, fs3))] := hD
  have hK : va_K G vwCl [] s := hK
  refine W.widen (k := 161) (n := 21206) (Nat.le_of_ble_eq_true rfl) (Nat.le_of_ble_eq_true rfl) ?_
  obtain rfl : r_ = (sp_m_trade (xs (Int32.toNatClampNeg 1)) (xs (Int32.toNatClampNeg 2))) := hw9
  refine lv_iload hx hb dL_law_1062 (lv_at hl 1 rfl) ?_
  refine lv_icmp_eq (tgt := 1069) hx hb dL_law_1064 (by decide) (fun _ => ?_) (fun h_ => absurd (show (sp_m_trade (xs (Int32.toNatClampNeg 1)) (xs (Int32.toNatClampNeg 2))) = 1 from rfl) h_)
  refine lv_iload hx hb dL_law_1069 (lv_at hl 1 rfl) ?_
  refine lv_if_ne (tgt := 1086) hx hb dL_law_1071 (by decide) (fun _ => ?_) (fun h_ => absurd h_ (by decide))
  refine lv_goto (tgt := 2435) hx hb dL_law_1086 (by decide) ?_
  exact law_tail hl0 hx hb hr hml hown hts hX hbl hlocks hT hAN hA hN hbA hAs hS (Nat.le_of_ble_eq_true rfl) (Nat.le_of_ble_eq_true rfl) (lv_sub hl [2, 7] rfl)

set_option maxHeartbeats 4000000 in
set_option maxRecDepth 100000 in
theorem law_hold {p : Program} {l : Launch} {e : Env} {s : State} {m : MethodId} {below : List Frame} {meth : Method} {c : Code} {b : Nat} {xs : Nat → Int32} {A : Nat → Prop} (hl0 : l.stackTraces = false) (hx : p.tables.exec = Jvm.exec) (hb : c.code = cL_law) (hr : meth.sig.returnType = ret) (hml : c.maxLocals = 9) (hown : s.vm.findClass RL = some m.cls) (hts : ∀ w ∈ lw_all, w.before #[Value.ref b] s = true) (hX : va_X b 7 xs s s.heap) (hbl : b < s.heap.size) (hlocks : meth.locks = false) {N0 ade : Nat} {adB : Nat → Nat} (hT : BT N0 ade adB s) (hAN : ∀ q, A q → KA N0 q) (hA : ∀ q, s.heap.size ≤ q → A q) (hN : N0 ≤ s.heap.size) (hbA : ¬ A b) (hAs : ∀ q, A q → s.heap.size ≤ q) {G : va_G} {x : Nat} {dy : Nat} {ag : Nat} {qch : Nat} {qsh : Nat} {qsc : Nat} {pl : Nat} {qfl : Nat} {qac : Nat} {qcr : Nat} {qfg : Nat} {qgr : Nat} {qme : Nat} {qsf : Nat} {qsb : Nat} {qtu : Nat} {ou : Nat} {alo : ClassId} {fo : Nat → Int64} {mo_ : Nat} {ti : Nat} {mfl : Nat} {mcr : Nat} {mst : Nat} {mtu : Nat} {mfg : Nat} {mgr : Nat} {mme : Nat} {oud : Nat}  {H : Heap} {locs : List Loc} (hP : va_P G vwCl [(x, .inr (17, [.ref pl, .ref dy, .ref ag, .ref qch, .ref qsh, .ref qsc, .int 0, .int 0])), (pl, .inr (16, [.ref qfl, .ref qac, .ref qcr, .ref qfg, .ref qgr, .ref qme, .ref qsf, .ref qsb, .ref qtu, .int 0, .int 0, .int 0, .int 0, .int 0, .int 0, .int 0, .int 0, .int (-1), .int 1])), (ou, .inl (alo, 1, .inr (.inl fo))), (mo_, .inr (25, [.ref ti, .ref mfl, .ref mcr, .ref mst, .ref mtu, .int 1, .int 0, .int 1, .ref mfg, .ref mgr, .ref mme, .null, .int 0])), (mfg, .inr (5, [.int 0, .ref ade, .int 0]))] H) (hD : va_D A [(x, .inr (17, [.ref pl, .ref dy, .ref ag, .ref qch, .ref qsh, .ref qsc, .int 0, .int 0])), (pl, .inr (16, [.ref qfl, .ref qac, .ref qcr, .ref qfg, .ref qgr, .ref qme, .ref qsf, .ref qsb, .ref qtu, .int 0, .int 0, .int 0, .int 0, .int 0, .int 0, .int 0, .int 0, .int (-1), .int 1])), (ou, .inl (alo, 1, .inr (.inl fo))), (mo_, .inr (25, [.ref ti, .ref mfl, .ref mcr, .ref mst, .ref mtu, .int 1, .int 0, .int 1, .ref mfg, .ref mgr, .ref mme, .null, .int 0])), (mfg, .inr (5, [.int 0, .ref ade, .int 0]))]) (hK : va_K G vwCl [(alo, .long)] s) (hS : va_S A s.heap H locs) {ls : Array Slot} (hl : lv_has ls 9 [(5, .int 0), (4, .ref oud), (3, .ref ou), (2, .ref mo_), (1, .ref x), (0, .ref b)]) : W p l e room_1 s m #[Value.ref b] below meth c H locs 160 21200 (lw_Z below #[Value.ref b] s) (F0 m 1089 ls []) := by
  refine lv_aload_n hx hb dL_law_1089 rfl (lv_at hl 4 rfl) ?_
  refine lv_aload_n hx hb dL_law_1090 rfl (lv_at hl 5 rfl) ?_
  refine lv_iload hx hb dL_law_1091 (lv_at hl 0 rfl) ?_
  refine lv_iconst (v := 1) hx hb dL_law_1093 (by decide) ?_
  refine lv_iadd hx hb dL_law_1094 ?_
  refine lv_topi (fun v_ e_ => ?_)
  obtain rfl : v_ = 1 := e_.trans (by decide)
  refine va_sld hx hb hX hbl hbA hS (vin (by decide +kernel)) dL_law_1095 ?_
  refine lv_aload_n hx hb dL_law_1096 rfl (lv_at hl 5 rfl) ?_
  refine lv_iload hx hb dL_law_1097 (lv_at hl 0 rfl) ?_
  refine lv_iconst (v := 2) hx hb dL_law_1099 (by decide) ?_
  refine lv_iadd hx hb dL_law_1100 ?_
  refine lv_topi (fun v_ e_ => ?_)
  obtain rfl : v_ = 2 := e_.trans (by decide)
  refine va_sld hx hb hX hbl hbA hS (vin (by decide +kernel)) dL_law_1101 ?_
  refine lv_aload_n hx hb dL_law_1102 rfl (lv_at hl 2 rfl) ?_
  refine ka_i (vx_runSW (As := [.ref x, .int (xs (Int32.toNatClampNeg 1)), .int (xs (Int32.toNatClampNeg 2)), .ref ou]) (rest := []) ⟨hx, hb, hml, hown, hts⟩ (c_L_hold l hl0 G N0 ade adB H.size x dy ag qch qsh qsc pl qfl qac qcr qfg qgr qme qsf qsb qtu (xs (Int32.toNatClampNeg 1)) (xs (Int32.toNatClampNeg 2)) ou alo fo) (vx_cwSW 4 hts (kgS q549 q550 q35 q551) rfl rfl rfl (by decide +kernel) ⟨(Nat.le_of_ble_eq_true rfl), (Nat.le_of_ble_eq_true rfl)⟩) (kpreS hP hD hK hAN hT hN hS [0, 1, 2] [0] (by decide) rfl rfl) rfl rfl hl.1 rfl (lv_room (Nat.le_of_ble_eq_true rfl)) dL_law_1103 ⟨(Nat.le_of_ble_eq_true rfl), (Nat.le_of_ble_eq_true rfl)⟩) (ws := [(x, .inr (17, [.ref pl, .ref dy, .ref ag, .ref qch, .ref qsh, .ref qsc, .int 0, .int 0])), (pl, .inr (16, [.ref qfl, .ref qac, .ref qcr, .ref qfg, .ref qgr, .ref qme, .ref qsf, .ref qsb, .ref qtu, .int 0, .int 0, .int 0, .int 0, .int 0, .int 0, .int 0, .int 0, .int (-1), .int 1])), (ou, .inl (alo, 1, .inr (.inl fo))), (mo_, .inr (25, [.ref ti, .ref mfl, .ref mcr, .ref mst, .ref mtu, .int 1, .int 0, .int 1, .ref mfg, .ref mgr, .ref mme, .null, .int 0])), (mfg, .inr (5, [.int 0, .ref ade, .int 0]))]) (wc := [(x, .inr (17, [.ref pl, .ref dy, .ref ag, .ref qch, .ref qsh, .ref qsc, .int 0, .int 0])), (pl, .inr (16, [.ref qfl, .ref qac, .ref qcr, .ref qfg, .ref qgr, .ref qme, .ref qsf, .ref qsb, .ref qtu, .int 0, .int 0, .int 0, .int 0, .int 0, .int 0, .int 0, .int 0, .int (-1), .int 1])), (ou, .inl (alo, 1, .inr (.inl fo)))]) (wr := [(mo_, .inr (25, [.ref ti, .ref mfl, .ref mcr, .ref mst, .ref mtu, .int 1, .int 0, .int 1, .ref mfg, .ref mgr, .ref mme, .null, .int 0])), (mfg, .inr (5, [.int 0, .ref ade, .int 0]))]) hP hD hK hS hA [0, 1, 2] [3, 4] [] rfl rfl (by decide) (by decide) rfl (fun r_ u1 H locs hw2 hP hD hK hS => ?_)
  have hP : va_P G vwCl [(mo_, .inr (25, [.ref ti, .ref mfl, .ref mcr, .ref mst, .ref mtu, .int 1, .int 0, .int 1, .ref mfg, .ref mgr, .ref mme, .null, .int 0])), (mfg, .inr (5, [.int 0, .ref ade, .int 0]))] H := hP
  have hD : va_D A [(mo_, .inr (25, [.ref ti, .ref mfl, .ref mcr, .ref mst, .ref mtu, .int 1, .int 0, .int 1, .ref mfg, .ref mgr, .ref mme, .null, .int 0])), (mfg, .inr (5, [.int 0, .ref ade, .int 0]))] := hD
  have hK : va_K G vwCl [] s := hK
  refine W.widen (k := 161) (n := 21206) (Nat.le_of_ble_eq_true rfl) (Nat.le_of_ble_eq_true rfl) ?_
  obtain rfl : r_ = 1 := hw2
  refine lv_istore (lv' := [(6, .int 1), (5, .int 0), (4, .ref oud), (3, .ref ou), (2, .ref mo_), (1, .ref x), (0, .ref b)]) hx hb dL_law_1106 hl (by decide) rfl (fun ls hl => ?_)
  refine lv_aload_n hx hb dL_law_1108 rfl (lv_at hl 4 rfl) ?_
  refine lv_aload_n hx hb dL_law_1109 rfl (lv_at hl 6 rfl) ?_
  refine lv_iload hx hb dL_law_1110 (lv_at hl 1 rfl) ?_
  refine lv_iconst (v := 1) hx hb dL_law_1112 (by decide) ?_
  refine lv_iadd hx hb dL_law_1113 ?_
  refine lv_topi (fun v_ e_ => ?_)
  obtain rfl : v_ = 1 := e_.trans (by decide)
  refine va_sld hx hb hX hbl hbA hS (vin (by decide +kernel)) dL_law_1114 ?_
  refine lv_aload_n hx hb dL_law_1115 rfl (lv_at hl 6 rfl) ?_
  refine lv_iload hx hb dL_law_1116 (lv_at hl 1 rfl) ?_
  refine lv_iconst (v := 2) hx hb dL_law_1118 (by decide) ?_
  refine lv_iadd hx hb dL_law_1119 ?_
  refine lv_topi (fun v_ e_ => ?_)
  obtain rfl : v_ = 2 := e_.trans (by decide)
  refine va_sld hx hb hX hbl hbA hS (vin (by decide +kernel)) dL_law_1120 ?_
  refine ka_i (va_runV (As := [.int (xs (Int32.toNatClampNeg 1)), .int (xs (Int32.toNatClampNeg 2))]) (rest := []) ⟨hx, hb, hml, hown, hts⟩ (c_m_hold l G N0 ade adB H.size mo_ ti mfl mcr mst mtu mfg mgr mme 0 (xs (Int32.toNatClampNeg 1)) (xs (Int32.toNatClampNeg 2))) (cwV 2 hts (kgV q877 q878 q879 q49 q880) rfl rfl rfl (by decide +kernel) ⟨(Nat.le_of_ble_eq_true rfl), (Nat.le_of_ble_eq_true rfl)⟩) (kpreV (ci := 25) (q0 := 0) hP hD hK hAN hT hN hS [0, 1] [] (by decide) rfl rfl rfl rfl rfl) rfl rfl hl.1 rfl (lv_room (Nat.le_of_ble_eq_true rfl)) dL_law_1121 ⟨(Nat.le_of_ble_eq_true rfl), (Nat.le_of_ble_eq_true rfl)⟩) (ws := [(mo_, .inr (25, [.ref ti, .ref mfl, .ref mcr, .ref mst, .ref mtu, .int 1, .int 0, .int 1, .ref mfg, .ref mgr, .ref mme, .null, .int 0])), (mfg, .inr (5, [.int 0, .ref ade, .int 0]))]) (wc := [(mo_, .inr (25, [.ref ti, .ref mfl, .ref mcr, .ref mst, .ref mtu, .int 1, .int 0, .int 1, .ref mfg, .ref mgr, .ref mme, .null, .int 0])), (mfg, .inr (5, [.int 0, .ref ade, .int 0]))]) (wr := []) hP hD hK hS hA [0, 1] [] [] rfl rfl (by decide) (by decide) rfl (fun r_ u4 H locs hw5 hP hD hK hS => ?_)
  obtain ⟨fs3, rfl⟩ : ∃ z_, z_ = u4 := ⟨_, rfl⟩
  have hP : va_P G vwCl [(mo_, .inr (25, fs3))] H := hP
  have hD : va_D A [(mo_, .inr (25, fs3))] := hD
  have hK : va_K G vwCl [] s := hK
  refine W.widen (k := 161) (n := 21206) (Nat.le_of_ble_eq_true rfl) (Nat.le_of_ble_eq_true rfl) ?_
  have hf6 : fs3[12]? = some (.int (sp_m_hold (xs (Int32.toNatClampNeg 1)) (xs (Int32.toNatClampNeg 2)))) := hw5.2
  obtain rfl : r_ = (sv_m_hold (xs (Int32.toNatClampNeg 1)) (xs (Int32.toNatClampNeg 2))) := hw5.1
  refine lv_istore (lv' := [(7, .int (sv_m_hold (xs (Int32.toNatClampNeg 1)) (xs (Int32.toNatClampNeg 2)))), (6, .int 1), (5, .int 0), (4, .ref oud), (3, .ref ou), (2, .ref mo_), (1, .ref x), (0, .ref b)]) hx hb dL_law_1124 hl (by decide) rfl (fun ls hl => ?_)
  refine lv_aload_n hx hb dL_law_1126 rfl (lv_at hl 5 rfl) ?_
  refine ka_i (va_runV (As := []) (rest := []) ⟨hx, hb, hml, hown, hts⟩ (c_m_thrown l G N0 ade adB H.size mo_ fs3 (sp_m_hold (xs (Int32.toNatClampNeg 1)) (xs (Int32.toNatClampNeg 2))) hf6) (cwV 0 hts (kgV q748 q749 q750 q49 q751) rfl rfl rfl (by decide +kernel) ⟨(Nat.le_of_ble_eq_true rfl), (Nat.le_of_ble_eq_true rfl)⟩) (kpreV (ci := 25) (q0 := 0) hP hD hK hAN hT hN hS [0] [] (by decide) rfl rfl rfl rfl rfl) rfl rfl hl.1 rfl (lv_room (Nat.le_of_ble_eq_true rfl)) dL_law_1127 ⟨(Nat.le_of_ble_eq_true rfl), (Nat.le_of_ble_eq_true rfl)⟩) (ws := [(mo_, .inr (25, fs3))]) (wc := [(mo_, .inr (25, fs3))]) (wr := []) hP hD hK hS hA [0] [] [] rfl rfl (by decide) (by decide) rfl (fun r_ u8 H locs hw9 hP hD hK hS => ?_)
  have hP : va_P G vwCl [(mo_, .inr (25, fs3))] H := hP
  have hD : va_D A [(mo_, .inr (25, fs3))] := hD
  have hK : va_K G vwCl [] s := hK
  refine W.widen (k := 161) (n := 21206) (Nat.le_of_ble_eq_true rfl) (Nat.le_of_ble_eq_true rfl) ?_
  obtain rfl : r_ = (sp_m_hold (xs (Int32.toNatClampNeg 1)) (xs (Int32.toNatClampNeg 2))) := hw9
  refine lv_iload hx hb dL_law_1130 (lv_at hl 1 rfl) ?_
  refine lv_icmp_eq (tgt := 1137) hx hb dL_law_1132 (by decide) (fun _ => ?_) (fun h_ => absurd (show (sp_m_hold (xs (Int32.toNatClampNeg 1)) (xs (Int32.toNatClampNeg 2))) = 1 from rfl) h_)
  refine lv_iload hx hb dL_law_1137 (lv_at hl 1 rfl) ?_
  refine lv_if_ne (tgt := 1154) hx hb dL_law_1139 (by decide) (fun _ => ?_) (fun h_ => absurd h_ (by decide))
  refine lv_goto (tgt := 2435) hx hb dL_law_1154 (by decide) ?_
  exact law_tail hl0 hx hb hr hml hown hts hX hbl hlocks hT hAN hA hN hbA hAs hS (Nat.le_of_ble_eq_true rfl) (Nat.le_of_ble_eq_true rfl) (lv_sub hl [2, 7] rfl)

set_option maxHeartbeats 4000000 in
set_option maxRecDepth 100000 in
theorem law_waitFor {p : Program} {l : Launch} {e : Env} {s : State} {m : MethodId} {below : List Frame} {meth : Method} {c : Code} {b : Nat} {xs : Nat → Int32} {A : Nat → Prop} (hl0 : l.stackTraces = false) (hx : p.tables.exec = Jvm.exec) (hb : c.code = cL_law) (hr : meth.sig.returnType = ret) (hml : c.maxLocals = 9) (hown : s.vm.findClass RL = some m.cls) (hts : ∀ w ∈ lw_all, w.before #[Value.ref b] s = true) (hX : va_X b 7 xs s s.heap) (hbl : b < s.heap.size) (hlocks : meth.locks = false) {N0 ade : Nat} {adB : Nat → Nat} (hT : BT N0 ade adB s) (hAN : ∀ q, A q → KA N0 q) (hA : ∀ q, s.heap.size ≤ q → A q) (hN : N0 ≤ s.heap.size) (hbA : ¬ A b) (hAs : ∀ q, A q → s.heap.size ≤ q) {G : va_G} {x : Nat} {dy : Nat} {ag : Nat} {qch : Nat} {qsh : Nat} {qsc : Nat} {pl : Nat} {qfl : Nat} {qac : Nat} {qcr : Nat} {qfg : Nat} {qgr : Nat} {qme : Nat} {qsf : Nat} {qsb : Nat} {qtu : Nat} {ou : Nat} {alo : ClassId} {fo : Nat → Int64} {mo_ : Nat} {ti : Nat} {mfl : Nat} {mcr : Nat} {mst : Nat} {mtu : Nat} {mfg : Nat} {mgr : Nat} {mme : Nat} {oud : Nat}  {H : Heap} {locs : List Loc} (hP : va_P G vwCl [(x, .inr (17, [.ref pl, .ref dy, .ref ag, .ref qch, .ref qsh, .ref qsc, .int 0, .int 0])), (pl, .inr (16, [.ref qfl, .ref qac, .ref qcr, .ref qfg, .ref qgr, .ref qme, .ref qsf, .ref qsb, .ref qtu, .int 0, .int 0, .int 0, .int 0, .int 0, .int 0, .int 0, .int 0, .int (-1), .int 1])), (ou, .inl (alo, 1, .inr (.inl fo))), (mo_, .inr (25, [.ref ti, .ref mfl, .ref mcr, .ref mst, .ref mtu, .int 1, .int 0, .int 1, .ref mfg, .ref mgr, .ref mme, .null, .int 0])), (mfg, .inr (5, [.int 0, .ref ade, .int 0]))] H) (hD : va_D A [(x, .inr (17, [.ref pl, .ref dy, .ref ag, .ref qch, .ref qsh, .ref qsc, .int 0, .int 0])), (pl, .inr (16, [.ref qfl, .ref qac, .ref qcr, .ref qfg, .ref qgr, .ref qme, .ref qsf, .ref qsb, .ref qtu, .int 0, .int 0, .int 0, .int 0, .int 0, .int 0, .int 0, .int 0, .int (-1), .int 1])), (ou, .inl (alo, 1, .inr (.inl fo))), (mo_, .inr (25, [.ref ti, .ref mfl, .ref mcr, .ref mst, .ref mtu, .int 1, .int 0, .int 1, .ref mfg, .ref mgr, .ref mme, .null, .int 0])), (mfg, .inr (5, [.int 0, .ref ade, .int 0]))]) (hK : va_K G vwCl [(alo, .long)] s) (hS : va_S A s.heap H locs) {ls : Array Slot} (hl : lv_has ls 9 [(5, .int 0), (4, .ref oud), (3, .ref ou), (2, .ref mo_), (1, .ref x), (0, .ref b)]) : W p l e room_1 s m #[Value.ref b] below meth c H locs 160 21200 (lw_Z below #[Value.ref b] s) (F0 m 1157 ls []) := by
  refine lv_aload_n hx hb dL_law_1157 rfl (lv_at hl 4 rfl) ?_
  refine lv_aload_n hx hb dL_law_1158 rfl (lv_at hl 5 rfl) ?_
  refine lv_iload hx hb dL_law_1159 (lv_at hl 0 rfl) ?_
  refine lv_iconst (v := 1) hx hb dL_law_1161 (by decide) ?_
  refine lv_iadd hx hb dL_law_1162 ?_
  refine lv_topi (fun v_ e_ => ?_)
  obtain rfl : v_ = 1 := e_.trans (by decide)
  refine va_sld hx hb hX hbl hbA hS (vin (by decide +kernel)) dL_law_1163 ?_
  refine lv_aload_n hx hb dL_law_1164 rfl (lv_at hl 5 rfl) ?_
  refine lv_iload hx hb dL_law_1165 (lv_at hl 0 rfl) ?_
  refine lv_iconst (v := 2) hx hb dL_law_1167 (by decide) ?_
  refine lv_iadd hx hb dL_law_1168 ?_
  refine lv_topi (fun v_ e_ => ?_)
  obtain rfl : v_ = 2 := e_.trans (by decide)
  refine va_sld hx hb hX hbl hbA hS (vin (by decide +kernel)) dL_law_1169 ?_
  refine lv_aload_n hx hb dL_law_1170 rfl (lv_at hl 2 rfl) ?_
  refine ka_i (vx_runSW (As := [.ref x, .int (xs (Int32.toNatClampNeg 1)), .int (xs (Int32.toNatClampNeg 2)), .ref ou]) (rest := []) ⟨hx, hb, hml, hown, hts⟩ (c_L_waitFor l hl0 G N0 ade adB H.size x dy ag qch qsh qsc pl qfl qac qcr qfg qgr qme qsf qsb qtu (xs (Int32.toNatClampNeg 1)) (xs (Int32.toNatClampNeg 2)) ou alo fo) (vx_cwSW 4 hts (kgS q556 q557 q35 q558) rfl rfl rfl (by decide +kernel) ⟨(Nat.le_of_ble_eq_true rfl), (Nat.le_of_ble_eq_true rfl)⟩) (kpreS hP hD hK hAN hT hN hS [0, 1, 2] [0] (by decide) rfl rfl) rfl rfl hl.1 rfl (lv_room (Nat.le_of_ble_eq_true rfl)) dL_law_1171 ⟨(Nat.le_of_ble_eq_true rfl), (Nat.le_of_ble_eq_true rfl)⟩) (ws := [(x, .inr (17, [.ref pl, .ref dy, .ref ag, .ref qch, .ref qsh, .ref qsc, .int 0, .int 0])), (pl, .inr (16, [.ref qfl, .ref qac, .ref qcr, .ref qfg, .ref qgr, .ref qme, .ref qsf, .ref qsb, .ref qtu, .int 0, .int 0, .int 0, .int 0, .int 0, .int 0, .int 0, .int 0, .int (-1), .int 1])), (ou, .inl (alo, 1, .inr (.inl fo))), (mo_, .inr (25, [.ref ti, .ref mfl, .ref mcr, .ref mst, .ref mtu, .int 1, .int 0, .int 1, .ref mfg, .ref mgr, .ref mme, .null, .int 0])), (mfg, .inr (5, [.int 0, .ref ade, .int 0]))]) (wc := [(x, .inr (17, [.ref pl, .ref dy, .ref ag, .ref qch, .ref qsh, .ref qsc, .int 0, .int 0])), (pl, .inr (16, [.ref qfl, .ref qac, .ref qcr, .ref qfg, .ref qgr, .ref qme, .ref qsf, .ref qsb, .ref qtu, .int 0, .int 0, .int 0, .int 0, .int 0, .int 0, .int 0, .int 0, .int (-1), .int 1])), (ou, .inl (alo, 1, .inr (.inl fo)))]) (wr := [(mo_, .inr (25, [.ref ti, .ref mfl, .ref mcr, .ref mst, .ref mtu, .int 1, .int 0, .int 1, .ref mfg, .ref mgr, .ref mme, .null, .int 0])), (mfg, .inr (5, [.int 0, .ref ade, .int 0]))]) hP hD hK hS hA [0, 1, 2] [3, 4] [] rfl rfl (by decide) (by decide) rfl (fun r_ u1 H locs hw2 hP hD hK hS => ?_)
  have hP : va_P G vwCl [(mo_, .inr (25, [.ref ti, .ref mfl, .ref mcr, .ref mst, .ref mtu, .int 1, .int 0, .int 1, .ref mfg, .ref mgr, .ref mme, .null, .int 0])), (mfg, .inr (5, [.int 0, .ref ade, .int 0]))] H := hP
  have hD : va_D A [(mo_, .inr (25, [.ref ti, .ref mfl, .ref mcr, .ref mst, .ref mtu, .int 1, .int 0, .int 1, .ref mfg, .ref mgr, .ref mme, .null, .int 0])), (mfg, .inr (5, [.int 0, .ref ade, .int 0]))] := hD
  have hK : va_K G vwCl [] s := hK
  refine W.widen (k := 161) (n := 21206) (Nat.le_of_ble_eq_true rfl) (Nat.le_of_ble_eq_true rfl) ?_
  obtain rfl : r_ = 1 := hw2
  refine lv_istore (lv' := [(6, .int 1), (5, .int 0), (4, .ref oud), (3, .ref ou), (2, .ref mo_), (1, .ref x), (0, .ref b)]) hx hb dL_law_1174 hl (by decide) rfl (fun ls hl => ?_)
  refine lv_aload_n hx hb dL_law_1176 rfl (lv_at hl 4 rfl) ?_
  refine lv_aload_n hx hb dL_law_1177 rfl (lv_at hl 6 rfl) ?_
  refine lv_iload hx hb dL_law_1178 (lv_at hl 1 rfl) ?_
  refine lv_iconst (v := 1) hx hb dL_law_1180 (by decide) ?_
  refine lv_iadd hx hb dL_law_1181 ?_
  refine lv_topi (fun v_ e_ => ?_)
  obtain rfl : v_ = 1 := e_.trans (by decide)
  refine va_sld hx hb hX hbl hbA hS (vin (by decide +kernel)) dL_law_1182 ?_
  refine lv_aload_n hx hb dL_law_1183 rfl (lv_at hl 6 rfl) ?_
  refine lv_iload hx hb dL_law_1184 (lv_at hl 1 rfl) ?_
  refine lv_iconst (v := 2) hx hb dL_law_1186 (by decide) ?_
  refine lv_iadd hx hb dL_law_1187 ?_
  refine lv_topi (fun v_ e_ => ?_)
  obtain rfl : v_ = 2 := e_.trans (by decide)
  refine va_sld hx hb hX hbl hbA hS (vin (by decide +kernel)) dL_law_1188 ?_
  refine ka_i (va_runV (As := [.int (xs (Int32.toNatClampNeg 1)), .int (xs (Int32.toNatClampNeg 2))]) (rest := []) ⟨hx, hb, hml, hown, hts⟩ (c_m_waitFor l G N0 ade adB H.size mo_ ti mfl mcr mst mtu mfg mgr mme 0 (xs (Int32.toNatClampNeg 1)) (xs (Int32.toNatClampNeg 2))) (cwV 2 hts (kgV q882 q883 q884 q49 q885) rfl rfl rfl (by decide +kernel) ⟨(Nat.le_of_ble_eq_true rfl), (Nat.le_of_ble_eq_true rfl)⟩) (kpreV (ci := 25) (q0 := 0) hP hD hK hAN hT hN hS [0, 1] [] (by decide) rfl rfl rfl rfl rfl) rfl rfl hl.1 rfl (lv_room (Nat.le_of_ble_eq_true rfl)) dL_law_1189 ⟨(Nat.le_of_ble_eq_true rfl), (Nat.le_of_ble_eq_true rfl)⟩) (ws := [(mo_, .inr (25, [.ref ti, .ref mfl, .ref mcr, .ref mst, .ref mtu, .int 1, .int 0, .int 1, .ref mfg, .ref mgr, .ref mme, .null, .int 0])), (mfg, .inr (5, [.int 0, .ref ade, .int 0]))]) (wc := [(mo_, .inr (25, [.ref ti, .ref mfl, .ref mcr, .ref mst, .ref mtu, .int 1, .int 0, .int 1, .ref mfg, .ref mgr, .ref mme, .null, .int 0])), (mfg, .inr (5, [.int 0, .ref ade, .int 0]))]) (wr := []) hP hD hK hS hA [0, 1] [] [] rfl rfl (by decide) (by decide) rfl (fun r_ u4 H locs hw5 hP hD hK hS => ?_)
  obtain ⟨fs3, rfl⟩ : ∃ z_, z_ = u4 := ⟨_, rfl⟩
  have hP : va_P G vwCl [(mo_, .inr (25, fs3))] H := hP
  have hD : va_D A [(mo_, .inr (25, fs3))] := hD
  have hK : va_K G vwCl [] s := hK
  refine W.widen (k := 161) (n := 21206) (Nat.le_of_ble_eq_true rfl) (Nat.le_of_ble_eq_true rfl) ?_
  have hf6 : fs3[12]? = some (.int (sp_m_waitFor (xs (Int32.toNatClampNeg 1)) (xs (Int32.toNatClampNeg 2)))) := hw5.2
  obtain rfl : r_ = (sv_m_waitFor (xs (Int32.toNatClampNeg 1)) (xs (Int32.toNatClampNeg 2))) := hw5.1
  refine lv_istore (lv' := [(7, .int (sv_m_waitFor (xs (Int32.toNatClampNeg 1)) (xs (Int32.toNatClampNeg 2)))), (6, .int 1), (5, .int 0), (4, .ref oud), (3, .ref ou), (2, .ref mo_), (1, .ref x), (0, .ref b)]) hx hb dL_law_1192 hl (by decide) rfl (fun ls hl => ?_)
  refine lv_aload_n hx hb dL_law_1194 rfl (lv_at hl 5 rfl) ?_
  refine ka_i (va_runV (As := []) (rest := []) ⟨hx, hb, hml, hown, hts⟩ (c_m_thrown l G N0 ade adB H.size mo_ fs3 (sp_m_waitFor (xs (Int32.toNatClampNeg 1)) (xs (Int32.toNatClampNeg 2))) hf6) (cwV 0 hts (kgV q748 q749 q750 q49 q751) rfl rfl rfl (by decide +kernel) ⟨(Nat.le_of_ble_eq_true rfl), (Nat.le_of_ble_eq_true rfl)⟩) (kpreV (ci := 25) (q0 := 0) hP hD hK hAN hT hN hS [0] [] (by decide) rfl rfl rfl rfl rfl) rfl rfl hl.1 rfl (lv_room (Nat.le_of_ble_eq_true rfl)) dL_law_1195 ⟨(Nat.le_of_ble_eq_true rfl), (Nat.le_of_ble_eq_true rfl)⟩) (ws := [(mo_, .inr (25, fs3))]) (wc := [(mo_, .inr (25, fs3))]) (wr := []) hP hD hK hS hA [0] [] [] rfl rfl (by decide) (by decide) rfl (fun r_ u8 H locs hw9 hP hD hK hS => ?_)
  have hP : va_P G vwCl [(mo_, .inr (25, fs3))] H := hP
  have hD : va_D A [(mo_, .inr (25, fs3))] := hD
  have hK : va_K G vwCl [] s := hK
  refine W.widen (k := 161) (n := 21206) (Nat.le_of_ble_eq_true rfl) (Nat.le_of_ble_eq_true rfl) ?_
  obtain rfl : r_ = (sp_m_waitFor (xs (Int32.toNatClampNeg 1)) (xs (Int32.toNatClampNeg 2))) := hw9
  refine lv_iload hx hb dL_law_1198 (lv_at hl 1 rfl) ?_
  refine lv_icmp_eq (tgt := 1205) hx hb dL_law_1200 (by decide) (fun _ => ?_) (fun h_ => absurd (show (sp_m_waitFor (xs (Int32.toNatClampNeg 1)) (xs (Int32.toNatClampNeg 2))) = 1 from rfl) h_)
  refine lv_iload hx hb dL_law_1205 (lv_at hl 1 rfl) ?_
  refine lv_if_ne (tgt := 1222) hx hb dL_law_1207 (by decide) (fun _ => ?_) (fun h_ => absurd h_ (by decide))
  refine lv_goto (tgt := 2435) hx hb dL_law_1222 (by decide) ?_
  exact law_tail hl0 hx hb hr hml hown hts hX hbl hlocks hT hAN hA hN hbA hAs hS (Nat.le_of_ble_eq_true rfl) (Nat.le_of_ble_eq_true rfl) (lv_sub hl [2, 7] rfl)

set_option maxHeartbeats 4000000 in
set_option maxRecDepth 100000 in
theorem law_swap {p : Program} {l : Launch} {e : Env} {s : State} {m : MethodId} {below : List Frame} {meth : Method} {c : Code} {b : Nat} {xs : Nat → Int32} {A : Nat → Prop} (hl0 : l.stackTraces = false) (hx : p.tables.exec = Jvm.exec) (hb : c.code = cL_law) (hr : meth.sig.returnType = ret) (hml : c.maxLocals = 9) (hown : s.vm.findClass RL = some m.cls) (hts : ∀ w ∈ lw_all, w.before #[Value.ref b] s = true) (hX : va_X b 7 xs s s.heap) (hbl : b < s.heap.size) (hlocks : meth.locks = false) {N0 ade : Nat} {adB : Nat → Nat} (hT : BT N0 ade adB s) (hAN : ∀ q, A q → KA N0 q) (hA : ∀ q, s.heap.size ≤ q → A q) (hN : N0 ≤ s.heap.size) (hbA : ¬ A b) (hAs : ∀ q, A q → s.heap.size ≤ q) {G : va_G} {x : Nat} {dy : Nat} {ag : Nat} {qch : Nat} {qsh : Nat} {qsc : Nat} {pl : Nat} {qfl : Nat} {qac : Nat} {qcr : Nat} {qfg : Nat} {qgr : Nat} {qme : Nat} {qsf : Nat} {qsb : Nat} {qtu : Nat} {ou : Nat} {alo : ClassId} {fo : Nat → Int64} {mo_ : Nat} {ti : Nat} {mfl : Nat} {mcr : Nat} {mst : Nat} {mtu : Nat} {mfg : Nat} {mgr : Nat} {mme : Nat} {oud : Nat}  {H : Heap} {locs : List Loc} (hP : va_P G vwCl [(x, .inr (17, [.ref pl, .ref dy, .ref ag, .ref qch, .ref qsh, .ref qsc, .int 0, .int 0])), (pl, .inr (16, [.ref qfl, .ref qac, .ref qcr, .ref qfg, .ref qgr, .ref qme, .ref qsf, .ref qsb, .ref qtu, .int 0, .int 0, .int 0, .int 0, .int 0, .int 0, .int 0, .int 0, .int (-1), .int 1])), (ou, .inl (alo, 1, .inr (.inl fo))), (mo_, .inr (25, [.ref ti, .ref mfl, .ref mcr, .ref mst, .ref mtu, .int 1, .int 0, .int 1, .ref mfg, .ref mgr, .ref mme, .null, .int 0])), (mfg, .inr (5, [.int 0, .ref ade, .int 0]))] H) (hD : va_D A [(x, .inr (17, [.ref pl, .ref dy, .ref ag, .ref qch, .ref qsh, .ref qsc, .int 0, .int 0])), (pl, .inr (16, [.ref qfl, .ref qac, .ref qcr, .ref qfg, .ref qgr, .ref qme, .ref qsf, .ref qsb, .ref qtu, .int 0, .int 0, .int 0, .int 0, .int 0, .int 0, .int 0, .int 0, .int (-1), .int 1])), (ou, .inl (alo, 1, .inr (.inl fo))), (mo_, .inr (25, [.ref ti, .ref mfl, .ref mcr, .ref mst, .ref mtu, .int 1, .int 0, .int 1, .ref mfg, .ref mgr, .ref mme, .null, .int 0])), (mfg, .inr (5, [.int 0, .ref ade, .int 0]))]) (hK : va_K G vwCl [(alo, .long)] s) (hS : va_S A s.heap H locs) {ls : Array Slot} (hl : lv_has ls 9 [(5, .int 0), (4, .ref oud), (3, .ref ou), (2, .ref mo_), (1, .ref x), (0, .ref b)]) : W p l e room_1 s m #[Value.ref b] below meth c H locs 160 21200 (lw_Z below #[Value.ref b] s) (F0 m 1225 ls []) := by
  refine lv_aload_n hx hb dL_law_1225 rfl (lv_at hl 4 rfl) ?_
  refine lv_aload_n hx hb dL_law_1226 rfl (lv_at hl 5 rfl) ?_
  refine lv_iload hx hb dL_law_1227 (lv_at hl 0 rfl) ?_
  refine lv_iconst (v := 1) hx hb dL_law_1229 (by decide) ?_
  refine lv_iadd hx hb dL_law_1230 ?_
  refine lv_topi (fun v_ e_ => ?_)
  obtain rfl : v_ = 1 := e_.trans (by decide)
  refine va_sld hx hb hX hbl hbA hS (vin (by decide +kernel)) dL_law_1231 ?_
  refine lv_aload_n hx hb dL_law_1232 rfl (lv_at hl 5 rfl) ?_
  refine lv_iload hx hb dL_law_1233 (lv_at hl 0 rfl) ?_
  refine lv_iconst (v := 2) hx hb dL_law_1235 (by decide) ?_
  refine lv_iadd hx hb dL_law_1236 ?_
  refine lv_topi (fun v_ e_ => ?_)
  obtain rfl : v_ = 2 := e_.trans (by decide)
  refine va_sld hx hb hX hbl hbA hS (vin (by decide +kernel)) dL_law_1237 ?_
  refine lv_aload_n hx hb dL_law_1238 rfl (lv_at hl 2 rfl) ?_
  refine ka_i (vx_runSW (As := [.ref x, .int (xs (Int32.toNatClampNeg 1)), .int (xs (Int32.toNatClampNeg 2)), .ref ou]) (rest := []) ⟨hx, hb, hml, hown, hts⟩ (c_L_swap l hl0 G N0 ade adB H.size x dy ag qch qsh qsc pl qfl qac qcr qfg qgr qme qsf qsb qtu (xs (Int32.toNatClampNeg 1)) (xs (Int32.toNatClampNeg 2)) ou alo fo) (vx_cwSW 4 hts (kgS q563 q564 q35 q565) rfl rfl rfl (by decide +kernel) ⟨(Nat.le_of_ble_eq_true rfl), (Nat.le_of_ble_eq_true rfl)⟩) (kpreS hP hD hK hAN hT hN hS [0, 1, 2] [0] (by decide) rfl rfl) rfl rfl hl.1 rfl (lv_room (Nat.le_of_ble_eq_true rfl)) dL_law_1239 ⟨(Nat.le_of_ble_eq_true rfl), (Nat.le_of_ble_eq_true rfl)⟩) (ws := [(x, .inr (17, [.ref pl, .ref dy, .ref ag, .ref qch, .ref qsh, .ref qsc, .int 0, .int 0])), (pl, .inr (16, [.ref qfl, .ref qac, .ref qcr, .ref qfg, .ref qgr, .ref qme, .ref qsf, .ref qsb, .ref qtu, .int 0, .int 0, .int 0, .int 0, .int 0, .int 0, .int 0, .int 0, .int (-1), .int 1])), (ou, .inl (alo, 1, .inr (.inl fo))), (mo_, .inr (25, [.ref ti, .ref mfl, .ref mcr, .ref mst, .ref mtu, .int 1, .int 0, .int 1, .ref mfg, .ref mgr, .ref mme, .null, .int 0])), (mfg, .inr (5, [.int 0, .ref ade, .int 0]))]) (wc := [(x, .inr (17, [.ref pl, .ref dy, .ref ag, .ref qch, .ref qsh, .ref qsc, .int 0, .int 0])), (pl, .inr (16, [.ref qfl, .ref qac, .ref qcr, .ref qfg, .ref qgr, .ref qme, .ref qsf, .ref qsb, .ref qtu, .int 0, .int 0, .int 0, .int 0, .int 0, .int 0, .int 0, .int 0, .int (-1), .int 1])), (ou, .inl (alo, 1, .inr (.inl fo)))]) (wr := [(mo_, .inr (25, [.ref ti, .ref mfl, .ref mcr, .ref mst, .ref mtu, .int 1, .int 0, .int 1, .ref mfg, .ref mgr, .ref mme, .null, .int 0])), (mfg, .inr (5, [.int 0, .ref ade, .int 0]))]) hP hD hK hS hA [0, 1, 2] [3, 4] [] rfl rfl (by decide) (by decide) rfl (fun r_ u1 H locs hw2 hP hD hK hS => ?_)
  have hP : va_P G vwCl [(mo_, .inr (25, [.ref ti, .ref mfl, .ref mcr, .ref mst, .ref mtu, .int 1, .int 0, .int 1, .ref mfg, .ref mgr, .ref mme, .null, .int 0])), (mfg, .inr (5, [.int 0, .ref ade, .int 0]))] H := hP
  have hD : va_D A [(mo_, .inr (25, [.ref ti, .ref mfl, .ref mcr, .ref mst, .ref mtu, .int 1, .int 0, .int 1, .ref mfg, .ref mgr, .ref mme, .null, .int 0])), (mfg, .inr (5, [.int 0, .ref ade, .int 0]))] := hD
  have hK : va_K G vwCl [] s := hK
  refine W.widen (k := 161) (n := 21206) (Nat.le_of_ble_eq_true rfl) (Nat.le_of_ble_eq_true rfl) ?_
  obtain rfl : r_ = 1 := hw2
  refine lv_istore (lv' := [(6, .int 1), (5, .int 0), (4, .ref oud), (3, .ref ou), (2, .ref mo_), (1, .ref x), (0, .ref b)]) hx hb dL_law_1242 hl (by decide) rfl (fun ls hl => ?_)
  refine lv_aload_n hx hb dL_law_1244 rfl (lv_at hl 4 rfl) ?_
  refine lv_aload_n hx hb dL_law_1245 rfl (lv_at hl 6 rfl) ?_
  refine lv_iload hx hb dL_law_1246 (lv_at hl 1 rfl) ?_
  refine lv_iconst (v := 1) hx hb dL_law_1248 (by decide) ?_
  refine lv_iadd hx hb dL_law_1249 ?_
  refine lv_topi (fun v_ e_ => ?_)
  obtain rfl : v_ = 1 := e_.trans (by decide)
  refine va_sld hx hb hX hbl hbA hS (vin (by decide +kernel)) dL_law_1250 ?_
  refine lv_aload_n hx hb dL_law_1251 rfl (lv_at hl 6 rfl) ?_
  refine lv_iload hx hb dL_law_1252 (lv_at hl 1 rfl) ?_
  refine lv_iconst (v := 2) hx hb dL_law_1254 (by decide) ?_
  refine lv_iadd hx hb dL_law_1255 ?_
  refine lv_topi (fun v_ e_ => ?_)
  obtain rfl : v_ = 2 := e_.trans (by decide)
  refine va_sld hx hb hX hbl hbA hS (vin (by decide +kernel)) dL_law_1256 ?_
  refine ka_i (va_runV (As := [.int (xs (Int32.toNatClampNeg 1)), .int (xs (Int32.toNatClampNeg 2))]) (rest := []) ⟨hx, hb, hml, hown, hts⟩ (c_m_swap l G N0 ade adB H.size mo_ ti mfl mcr mst mtu mfg mgr mme 0 (xs (Int32.toNatClampNeg 1)) (xs (Int32.toNatClampNeg 2))) (cwV 2 hts (kgV q887 q888 q889 q49 q890) rfl rfl rfl (by decide +kernel) ⟨(Nat.le_of_ble_eq_true rfl), (Nat.le_of_ble_eq_true rfl)⟩) (kpreV (ci := 25) (q0 := 0) hP hD hK hAN hT hN hS [0, 1] [] (by decide) rfl rfl rfl rfl rfl) rfl rfl hl.1 rfl (lv_room (Nat.le_of_ble_eq_true rfl)) dL_law_1257 ⟨(Nat.le_of_ble_eq_true rfl), (Nat.le_of_ble_eq_true rfl)⟩) (ws := [(mo_, .inr (25, [.ref ti, .ref mfl, .ref mcr, .ref mst, .ref mtu, .int 1, .int 0, .int 1, .ref mfg, .ref mgr, .ref mme, .null, .int 0])), (mfg, .inr (5, [.int 0, .ref ade, .int 0]))]) (wc := [(mo_, .inr (25, [.ref ti, .ref mfl, .ref mcr, .ref mst, .ref mtu, .int 1, .int 0, .int 1, .ref mfg, .ref mgr, .ref mme, .null, .int 0])), (mfg, .inr (5, [.int 0, .ref ade, .int 0]))]) (wr := []) hP hD hK hS hA [0, 1] [] [] rfl rfl (by decide) (by decide) rfl (fun r_ u4 H locs hw5 hP hD hK hS => ?_)
  obtain ⟨fs3, rfl⟩ : ∃ z_, z_ = u4 := ⟨_, rfl⟩
  have hP : va_P G vwCl [(mo_, .inr (25, fs3))] H := hP
  have hD : va_D A [(mo_, .inr (25, fs3))] := hD
  have hK : va_K G vwCl [] s := hK
  refine W.widen (k := 161) (n := 21206) (Nat.le_of_ble_eq_true rfl) (Nat.le_of_ble_eq_true rfl) ?_
  have hf6 : fs3[12]? = some (.int (sp_m_swap (xs (Int32.toNatClampNeg 1)) (xs (Int32.toNatClampNeg 2)))) := hw5.2
  obtain rfl : r_ = (sv_m_swap (xs (Int32.toNatClampNeg 1)) (xs (Int32.toNatClampNeg 2))) := hw5.1
  refine lv_istore (lv' := [(7, .int (sv_m_swap (xs (Int32.toNatClampNeg 1)) (xs (Int32.toNatClampNeg 2)))), (6, .int 1), (5, .int 0), (4, .ref oud), (3, .ref ou), (2, .ref mo_), (1, .ref x), (0, .ref b)]) hx hb dL_law_1260 hl (by decide) rfl (fun ls hl => ?_)
  refine lv_aload_n hx hb dL_law_1262 rfl (lv_at hl 5 rfl) ?_
  refine ka_i (va_runV (As := []) (rest := []) ⟨hx, hb, hml, hown, hts⟩ (c_m_thrown l G N0 ade adB H.size mo_ fs3 (sp_m_swap (xs (Int32.toNatClampNeg 1)) (xs (Int32.toNatClampNeg 2))) hf6) (cwV 0 hts (kgV q748 q749 q750 q49 q751) rfl rfl rfl (by decide +kernel) ⟨(Nat.le_of_ble_eq_true rfl), (Nat.le_of_ble_eq_true rfl)⟩) (kpreV (ci := 25) (q0 := 0) hP hD hK hAN hT hN hS [0] [] (by decide) rfl rfl rfl rfl rfl) rfl rfl hl.1 rfl (lv_room (Nat.le_of_ble_eq_true rfl)) dL_law_1263 ⟨(Nat.le_of_ble_eq_true rfl), (Nat.le_of_ble_eq_true rfl)⟩) (ws := [(mo_, .inr (25, fs3))]) (wc := [(mo_, .inr (25, fs3))]) (wr := []) hP hD hK hS hA [0] [] [] rfl rfl (by decide) (by decide) rfl (fun r_ u8 H locs hw9 hP hD hK hS => ?_)
  have hP : va_P G vwCl [(mo_, .inr (25, fs3))] H := hP
  have hD : va_D A [(mo_, .inr (25, fs3))] := hD
  have hK : va_K G vwCl [] s := hK
  refine W.widen (k := 161) (n := 21206) (Nat.le_of_ble_eq_true rfl) (Nat.le_of_ble_eq_true rfl) ?_
  obtain rfl : r_ = (sp_m_swap (xs (Int32.toNatClampNeg 1)) (xs (Int32.toNatClampNeg 2))) := hw9
  refine lv_iload hx hb dL_law_1266 (lv_at hl 1 rfl) ?_
  refine lv_icmp_eq (tgt := 1273) hx hb dL_law_1268 (by decide) (fun _ => ?_) (fun h_ => absurd (show (sp_m_swap (xs (Int32.toNatClampNeg 1)) (xs (Int32.toNatClampNeg 2))) = 1 from rfl) h_)
  refine lv_iload hx hb dL_law_1273 (lv_at hl 1 rfl) ?_
  refine lv_if_ne (tgt := 1290) hx hb dL_law_1275 (by decide) (fun _ => ?_) (fun h_ => absurd h_ (by decide))
  refine lv_goto (tgt := 2435) hx hb dL_law_1290 (by decide) ?_
  exact law_tail hl0 hx hb hr hml hown hts hX hbl hlocks hT hAN hA hN hbA hAs hS (Nat.le_of_ble_eq_true rfl) (Nat.le_of_ble_eq_true rfl) (lv_sub hl [2, 7] rfl)

set_option maxHeartbeats 4000000 in
set_option maxRecDepth 100000 in
theorem law_cancel {p : Program} {l : Launch} {e : Env} {s : State} {m : MethodId} {below : List Frame} {meth : Method} {c : Code} {b : Nat} {xs : Nat → Int32} {A : Nat → Prop} (hl0 : l.stackTraces = false) (hx : p.tables.exec = Jvm.exec) (hb : c.code = cL_law) (hr : meth.sig.returnType = ret) (hml : c.maxLocals = 9) (hown : s.vm.findClass RL = some m.cls) (hts : ∀ w ∈ lw_all, w.before #[Value.ref b] s = true) (hX : va_X b 7 xs s s.heap) (hbl : b < s.heap.size) (hlocks : meth.locks = false) {N0 ade : Nat} {adB : Nat → Nat} (hT : BT N0 ade adB s) (hAN : ∀ q, A q → KA N0 q) (hA : ∀ q, s.heap.size ≤ q → A q) (hN : N0 ≤ s.heap.size) (hbA : ¬ A b) (hAs : ∀ q, A q → s.heap.size ≤ q) {G : va_G} {x : Nat} {dy : Nat} {ag : Nat} {qch : Nat} {qsh : Nat} {qsc : Nat} {pl : Nat} {qfl : Nat} {qac : Nat} {qcr : Nat} {qfg : Nat} {qgr : Nat} {qme : Nat} {qsf : Nat} {qsb : Nat} {qtu : Nat} {ou : Nat} {alo : ClassId} {fo : Nat → Int64} {mo_ : Nat} {ti : Nat} {mfl : Nat} {mcr : Nat} {mst : Nat} {mtu : Nat} {mfg : Nat} {mgr : Nat} {mme : Nat} {oud : Nat}  {H : Heap} {locs : List Loc} (hP : va_P G vwCl [(x, .inr (17, [.ref pl, .ref dy, .ref ag, .ref qch, .ref qsh, .ref qsc, .int 0, .int 0])), (pl, .inr (16, [.ref qfl, .ref qac, .ref qcr, .ref qfg, .ref qgr, .ref qme, .ref qsf, .ref qsb, .ref qtu, .int 0, .int 0, .int 0, .int 0, .int 0, .int 0, .int 0, .int 0, .int (-1), .int 1])), (ou, .inl (alo, 1, .inr (.inl fo))), (mo_, .inr (25, [.ref ti, .ref mfl, .ref mcr, .ref mst, .ref mtu, .int 1, .int 0, .int 1, .ref mfg, .ref mgr, .ref mme, .null, .int 0])), (mfg, .inr (5, [.int 0, .ref ade, .int 0]))] H) (hD : va_D A [(x, .inr (17, [.ref pl, .ref dy, .ref ag, .ref qch, .ref qsh, .ref qsc, .int 0, .int 0])), (pl, .inr (16, [.ref qfl, .ref qac, .ref qcr, .ref qfg, .ref qgr, .ref qme, .ref qsf, .ref qsb, .ref qtu, .int 0, .int 0, .int 0, .int 0, .int 0, .int 0, .int 0, .int 0, .int (-1), .int 1])), (ou, .inl (alo, 1, .inr (.inl fo))), (mo_, .inr (25, [.ref ti, .ref mfl, .ref mcr, .ref mst, .ref mtu, .int 1, .int 0, .int 1, .ref mfg, .ref mgr, .ref mme, .null, .int 0])), (mfg, .inr (5, [.int 0, .ref ade, .int 0]))]) (hK : va_K G vwCl [(alo, .long)] s) (hS : va_S A s.heap H locs) {ls : Array Slot} (hl : lv_has ls 9 [(5, .int 0), (4, .ref oud), (3, .ref ou), (2, .ref mo_), (1, .ref x), (0, .ref b)]) : W p l e room_1 s m #[Value.ref b] below meth c H locs 160 21200 (lw_Z below #[Value.ref b] s) (F0 m 1293 ls []) := by
  refine lv_aload_n hx hb dL_law_1293 rfl (lv_at hl 4 rfl) ?_
  refine lv_aload_n hx hb dL_law_1294 rfl (lv_at hl 5 rfl) ?_
  refine lv_iload hx hb dL_law_1295 (lv_at hl 0 rfl) ?_
  refine lv_iconst (v := 1) hx hb dL_law_1297 (by decide) ?_
  refine lv_iadd hx hb dL_law_1298 ?_
  refine lv_topi (fun v_ e_ => ?_)
  obtain rfl : v_ = 1 := e_.trans (by decide)
  refine va_sld hx hb hX hbl hbA hS (vin (by decide +kernel)) dL_law_1299 ?_
  refine lv_aload_n hx hb dL_law_1300 rfl (lv_at hl 2 rfl) ?_
  refine ka_i (vx_runSW (As := [.ref x, .int (xs (Int32.toNatClampNeg 1)), .ref ou]) (rest := []) ⟨hx, hb, hml, hown, hts⟩ (c_L_cancel l hl0 G N0 ade adB H.size x dy ag qch qsh qsc pl qfl qac qcr qfg qgr qme qsf qsb qtu (xs (Int32.toNatClampNeg 1)) ou alo fo) (vx_cwSW 3 hts (kgS q571 q572 q35 q573) rfl rfl rfl (by decide +kernel) ⟨(Nat.le_of_ble_eq_true rfl), (Nat.le_of_ble_eq_true rfl)⟩) (kpreS hP hD hK hAN hT hN hS [0, 1, 2] [0] (by decide) rfl rfl) rfl rfl hl.1 rfl (lv_room (Nat.le_of_ble_eq_true rfl)) dL_law_1301 ⟨(Nat.le_of_ble_eq_true rfl), (Nat.le_of_ble_eq_true rfl)⟩) (ws := [(x, .inr (17, [.ref pl, .ref dy, .ref ag, .ref qch, .ref qsh, .ref qsc, .int 0, .int 0])), (pl, .inr (16, [.ref qfl, .ref qac, .ref qcr, .ref qfg, .ref qgr, .ref qme, .ref qsf, .ref qsb, .ref qtu, .int 0, .int 0, .int 0, .int 0, .int 0, .int 0, .int 0, .int 0, .int (-1), .int 1])), (ou, .inl (alo, 1, .inr (.inl fo))), (mo_, .inr (25, [.ref ti, .ref mfl, .ref mcr, .ref mst, .ref mtu, .int 1, .int 0, .int 1, .ref mfg, .ref mgr, .ref mme, .null, .int 0])), (mfg, .inr (5, [.int 0, .ref ade, .int 0]))]) (wc := [(x, .inr (17, [.ref pl, .ref dy, .ref ag, .ref qch, .ref qsh, .ref qsc, .int 0, .int 0])), (pl, .inr (16, [.ref qfl, .ref qac, .ref qcr, .ref qfg, .ref qgr, .ref qme, .ref qsf, .ref qsb, .ref qtu, .int 0, .int 0, .int 0, .int 0, .int 0, .int 0, .int 0, .int 0, .int (-1), .int 1])), (ou, .inl (alo, 1, .inr (.inl fo)))]) (wr := [(mo_, .inr (25, [.ref ti, .ref mfl, .ref mcr, .ref mst, .ref mtu, .int 1, .int 0, .int 1, .ref mfg, .ref mgr, .ref mme, .null, .int 0])), (mfg, .inr (5, [.int 0, .ref ade, .int 0]))]) hP hD hK hS hA [0, 1, 2] [3, 4] [] rfl rfl (by decide) (by decide) rfl (fun r_ u1 H locs hw2 hP hD hK hS => ?_)
  have hP : va_P G vwCl [(mo_, .inr (25, [.ref ti, .ref mfl, .ref mcr, .ref mst, .ref mtu, .int 1, .int 0, .int 1, .ref mfg, .ref mgr, .ref mme, .null, .int 0])), (mfg, .inr (5, [.int 0, .ref ade, .int 0]))] H := hP
  have hD : va_D A [(mo_, .inr (25, [.ref ti, .ref mfl, .ref mcr, .ref mst, .ref mtu, .int 1, .int 0, .int 1, .ref mfg, .ref mgr, .ref mme, .null, .int 0])), (mfg, .inr (5, [.int 0, .ref ade, .int 0]))] := hD
  have hK : va_K G vwCl [] s := hK
  refine W.widen (k := 161) (n := 21206) (Nat.le_of_ble_eq_true rfl) (Nat.le_of_ble_eq_true rfl) ?_
  obtain rfl : r_ = 1 := hw2
  refine lv_istore (lv' := [(6, .int 1), (5, .int 0), (4, .ref oud), (3, .ref ou), (2, .ref mo_), (1, .ref x), (0, .ref b)]) hx hb dL_law_1304 hl (by decide) rfl (fun ls hl => ?_)
  refine lv_aload_n hx hb dL_law_1306 rfl (lv_at hl 4 rfl) ?_
  refine lv_aload_n hx hb dL_law_1307 rfl (lv_at hl 6 rfl) ?_
  refine lv_iload hx hb dL_law_1308 (lv_at hl 1 rfl) ?_
  refine lv_iconst (v := 1) hx hb dL_law_1310 (by decide) ?_
  refine lv_iadd hx hb dL_law_1311 ?_
  refine lv_topi (fun v_ e_ => ?_)
  obtain rfl : v_ = 1 := e_.trans (by decide)
  refine va_sld hx hb hX hbl hbA hS (vin (by decide +kernel)) dL_law_1312 ?_
  refine ka_i (va_runV (As := [.int (xs (Int32.toNatClampNeg 1))]) (rest := []) ⟨hx, hb, hml, hown, hts⟩ (c_m_cancel l G N0 ade adB H.size mo_ ti mfl mcr mst mtu mfg mgr mme 0 (xs (Int32.toNatClampNeg 1))) (cwV 1 hts (kgV q911 q912 q913 q49 q914) rfl rfl rfl (by decide +kernel) ⟨(Nat.le_of_ble_eq_true rfl), (Nat.le_of_ble_eq_true rfl)⟩) (kpreV (ci := 25) (q0 := 0) hP hD hK hAN hT hN hS [0, 1] [] (by decide) rfl rfl rfl rfl rfl) rfl rfl hl.1 rfl (lv_room (Nat.le_of_ble_eq_true rfl)) dL_law_1313 ⟨(Nat.le_of_ble_eq_true rfl), (Nat.le_of_ble_eq_true rfl)⟩) (ws := [(mo_, .inr (25, [.ref ti, .ref mfl, .ref mcr, .ref mst, .ref mtu, .int 1, .int 0, .int 1, .ref mfg, .ref mgr, .ref mme, .null, .int 0])), (mfg, .inr (5, [.int 0, .ref ade, .int 0]))]) (wc := [(mo_, .inr (25, [.ref ti, .ref mfl, .ref mcr, .ref mst, .ref mtu, .int 1, .int 0, .int 1, .ref mfg, .ref mgr, .ref mme, .null, .int 0])), (mfg, .inr (5, [.int 0, .ref ade, .int 0]))]) (wr := []) hP hD hK hS hA [0, 1] [] [] rfl rfl (by decide) (by decide) rfl (fun r_ u4 H locs hw5 hP hD hK hS => ?_)
  obtain ⟨fs3, rfl⟩ : ∃ z_, z_ = u4 := ⟨_, rfl⟩
  have hP : va_P G vwCl [(mo_, .inr (25, fs3))] H := hP
  have hD : va_D A [(mo_, .inr (25, fs3))] := hD
  have hK : va_K G vwCl [] s := hK
  refine W.widen (k := 161) (n := 21206) (Nat.le_of_ble_eq_true rfl) (Nat.le_of_ble_eq_true rfl) ?_
  have hf6 : fs3[12]? = some (.int (sp_m_cancel (xs (Int32.toNatClampNeg 1)))) := hw5.2
  obtain rfl : r_ = (sv_m_cancel (xs (Int32.toNatClampNeg 1))) := hw5.1
  refine lv_istore (lv' := [(7, .int (sv_m_cancel (xs (Int32.toNatClampNeg 1)))), (6, .int 1), (5, .int 0), (4, .ref oud), (3, .ref ou), (2, .ref mo_), (1, .ref x), (0, .ref b)]) hx hb dL_law_1316 hl (by decide) rfl (fun ls hl => ?_)
  refine lv_aload_n hx hb dL_law_1318 rfl (lv_at hl 5 rfl) ?_
  refine ka_i (va_runV (As := []) (rest := []) ⟨hx, hb, hml, hown, hts⟩ (c_m_thrown l G N0 ade adB H.size mo_ fs3 (sp_m_cancel (xs (Int32.toNatClampNeg 1))) hf6) (cwV 0 hts (kgV q748 q749 q750 q49 q751) rfl rfl rfl (by decide +kernel) ⟨(Nat.le_of_ble_eq_true rfl), (Nat.le_of_ble_eq_true rfl)⟩) (kpreV (ci := 25) (q0 := 0) hP hD hK hAN hT hN hS [0] [] (by decide) rfl rfl rfl rfl rfl) rfl rfl hl.1 rfl (lv_room (Nat.le_of_ble_eq_true rfl)) dL_law_1319 ⟨(Nat.le_of_ble_eq_true rfl), (Nat.le_of_ble_eq_true rfl)⟩) (ws := [(mo_, .inr (25, fs3))]) (wc := [(mo_, .inr (25, fs3))]) (wr := []) hP hD hK hS hA [0] [] [] rfl rfl (by decide) (by decide) rfl (fun r_ u8 H locs hw9 hP hD hK hS => ?_)
  have hP : va_P G vwCl [(mo_, .inr (25, fs3))] H := hP
  have hD : va_D A [(mo_, .inr (25, fs3))] := hD
  have hK : va_K G vwCl [] s := hK
  refine W.widen (k := 161) (n := 21206) (Nat.le_of_ble_eq_true rfl) (Nat.le_of_ble_eq_true rfl) ?_
  obtain rfl : r_ = (sp_m_cancel (xs (Int32.toNatClampNeg 1))) := hw9
  refine lv_iload hx hb dL_law_1322 (lv_at hl 1 rfl) ?_
  refine lv_icmp_eq (tgt := 1329) hx hb dL_law_1324 (by decide) (fun _ => ?_) (fun h_ => absurd (show (sp_m_cancel (xs (Int32.toNatClampNeg 1))) = 1 from rfl) h_)
  refine lv_iload hx hb dL_law_1329 (lv_at hl 1 rfl) ?_
  refine lv_if_ne (tgt := 1353) hx hb dL_law_1331 (by decide) (fun _ => ?_) (fun h_ => absurd h_ (by decide))
  refine lv_goto (tgt := 2435) hx hb dL_law_1353 (by decide) ?_
  exact law_tail hl0 hx hb hr hml hown hts hX hbl hlocks hT hAN hA hN hbA hAs hS (Nat.le_of_ble_eq_true rfl) (Nat.le_of_ble_eq_true rfl) (lv_sub hl [2, 7] rfl)

set_option maxHeartbeats 4000000 in
set_option maxRecDepth 100000 in
theorem law_addGroup {p : Program} {l : Launch} {e : Env} {s : State} {m : MethodId} {below : List Frame} {meth : Method} {c : Code} {b : Nat} {xs : Nat → Int32} {A : Nat → Prop} (hl0 : l.stackTraces = false) (hx : p.tables.exec = Jvm.exec) (hb : c.code = cL_law) (hr : meth.sig.returnType = ret) (hml : c.maxLocals = 9) (hown : s.vm.findClass RL = some m.cls) (hts : ∀ w ∈ lw_all, w.before #[Value.ref b] s = true) (hX : va_X b 7 xs s s.heap) (hbl : b < s.heap.size) (hlocks : meth.locks = false) {N0 ade : Nat} {adB : Nat → Nat} (hT : BT N0 ade adB s) (hAN : ∀ q, A q → KA N0 q) (hA : ∀ q, s.heap.size ≤ q → A q) (hN : N0 ≤ s.heap.size) (hbA : ¬ A b) (hAs : ∀ q, A q → s.heap.size ≤ q) {G : va_G} {x : Nat} {dy : Nat} {ag : Nat} {qch : Nat} {qsh : Nat} {qsc : Nat} {pl : Nat} {qfl : Nat} {qac : Nat} {qcr : Nat} {qfg : Nat} {qgr : Nat} {qme : Nat} {qsf : Nat} {qsb : Nat} {qtu : Nat} {ou : Nat} {alo : ClassId} {fo : Nat → Int64} {mo_ : Nat} {ti : Nat} {mfl : Nat} {mcr : Nat} {mst : Nat} {mtu : Nat} {mfg : Nat} {mgr : Nat} {mme : Nat} {oud : Nat}  {H : Heap} {locs : List Loc} (hP : va_P G vwCl [(x, .inr (17, [.ref pl, .ref dy, .ref ag, .ref qch, .ref qsh, .ref qsc, .int 0, .int 0])), (pl, .inr (16, [.ref qfl, .ref qac, .ref qcr, .ref qfg, .ref qgr, .ref qme, .ref qsf, .ref qsb, .ref qtu, .int 0, .int 0, .int 0, .int 0, .int 0, .int 0, .int 0, .int 0, .int (-1), .int 1])), (ou, .inl (alo, 1, .inr (.inl fo))), (mo_, .inr (25, [.ref ti, .ref mfl, .ref mcr, .ref mst, .ref mtu, .int 1, .int 0, .int 1, .ref mfg, .ref mgr, .ref mme, .null, .int 0])), (mfg, .inr (5, [.int 0, .ref ade, .int 0])), (mgr, .inr (5, [.int 0, .ref ade, .int 0]))] H) (hD : va_D A [(x, .inr (17, [.ref pl, .ref dy, .ref ag, .ref qch, .ref qsh, .ref qsc, .int 0, .int 0])), (pl, .inr (16, [.ref qfl, .ref qac, .ref qcr, .ref qfg, .ref qgr, .ref qme, .ref qsf, .ref qsb, .ref qtu, .int 0, .int 0, .int 0, .int 0, .int 0, .int 0, .int 0, .int 0, .int (-1), .int 1])), (ou, .inl (alo, 1, .inr (.inl fo))), (mo_, .inr (25, [.ref ti, .ref mfl, .ref mcr, .ref mst, .ref mtu, .int 1, .int 0, .int 1, .ref mfg, .ref mgr, .ref mme, .null, .int 0])), (mfg, .inr (5, [.int 0, .ref ade, .int 0])), (mgr, .inr (5, [.int 0, .ref ade, .int 0]))]) (hK : va_K G vwCl [(alo, .long)] s) (hS : va_S A s.heap H locs) {ls : Array Slot} (hl : lv_has ls 9 [(5, .int 0), (4, .ref oud), (3, .ref ou), (2, .ref mo_), (1, .ref x), (0, .ref b)]) : W p l e room_1 s m #[Value.ref b] below meth c H locs 160 21200 (lw_Z below #[Value.ref b] s) (F0 m 1356 ls []) := by
  refine lv_aload_n hx hb dL_law_1356 rfl (lv_at hl 4 rfl) ?_
  refine lv_aload_n hx hb dL_law_1357 rfl (lv_at hl 5 rfl) ?_
  refine lv_iload hx hb dL_law_1358 (lv_at hl 0 rfl) ?_
  refine lv_iconst (v := 1) hx hb dL_law_1360 (by decide) ?_
  refine lv_iadd hx hb dL_law_1361 ?_
  refine lv_topi (fun v_ e_ => ?_)
  obtain rfl : v_ = 1 := e_.trans (by decide)
  refine va_sld hx hb hX hbl hbA hS (vin (by decide +kernel)) dL_law_1362 ?_
  refine lv_aload_n hx hb dL_law_1363 rfl (lv_at hl 5 rfl) ?_
  refine lv_iload hx hb dL_law_1364 (lv_at hl 0 rfl) ?_
  refine lv_iconst (v := 2) hx hb dL_law_1366 (by decide) ?_
  refine lv_iadd hx hb dL_law_1367 ?_
  refine lv_topi (fun v_ e_ => ?_)
  obtain rfl : v_ = 2 := e_.trans (by decide)
  refine va_sld hx hb hX hbl hbA hS (vin (by decide +kernel)) dL_law_1368 ?_
  refine lv_aload_n hx hb dL_law_1369 rfl (lv_at hl 5 rfl) ?_
  refine lv_iload hx hb dL_law_1370 (lv_at hl 0 rfl) ?_
  refine lv_iconst (v := 3) hx hb dL_law_1372 (by decide) ?_
  refine W.eq (g2 := F0 m 1373 ls [.int 3, .int 0, .ref b, .int (xs (Int32.toNatClampNeg 2)), .int (xs (Int32.toNatClampNeg 1)), .ref x]) rfl ?_
  refine lv_iadd hx hb dL_law_1373 ?_
  refine lv_topi (fun v_ e_ => ?_)
  obtain rfl : v_ = 3 := e_.trans (by decide)
  refine va_sld hx hb hX hbl hbA hS (vin (by decide +kernel)) dL_law_1374 ?_
  refine lv_aload_n hx hb dL_law_1375 rfl (lv_at hl 5 rfl) ?_
  refine lv_iload hx hb dL_law_1376 (lv_at hl 0 rfl) ?_
  refine lv_iconst (v := 4) hx hb dL_law_1378 (by decide) ?_
  refine lv_iadd hx hb dL_law_1379 ?_
  refine lv_topi (fun v_ e_ => ?_)
  obtain rfl : v_ = 4 := e_.trans (by decide)
  refine va_sld hx hb hX hbl hbA hS (vin (by decide +kernel)) dL_law_1380 ?_
  refine lv_aload_n hx hb dL_law_1381 rfl (lv_at hl 5 rfl) ?_
  refine lv_iload hx hb dL_law_1382 (lv_at hl 0 rfl) ?_
  refine lv_iconst (v := 5) hx hb dL_law_1384 (by decide) ?_
  refine lv_iadd hx hb dL_law_1385 ?_
  refine lv_topi (fun v_ e_ => ?_)
  obtain rfl : v_ = 5 := e_.trans (by decide)
  refine va_sld hx hb hX hbl hbA hS (vin (by decide +kernel)) dL_law_1386 ?_
  refine lv_if_eq (tgt := 1394) hx hb dL_law_1387 (by decide) (fun c_1387 => ?_) (fun c_1387 => ?_)
  · refine lv_iconst (v := 0) hx hb dL_law_1394 (by decide) ?_
    refine lv_aload_n hx hb dL_law_1395 rfl (lv_at hl 2 rfl) ?_
    refine ka_i (vx_runSW (As := [.ref x, .int (xs (Int32.toNatClampNeg 1)), .int (xs (Int32.toNatClampNeg 2)), .int (xs (Int32.toNatClampNeg 3)), .int (xs (Int32.toNatClampNeg 4)), .int 0, .ref ou]) (rest := []) ⟨hx, hb, hml, hown, hts⟩ (c_L_addGroup l hl0 G N0 ade adB H.size x dy ag qch qsh qsc pl qfl qac qcr qfg qgr qme qsf qsb qtu (xs (Int32.toNatClampNeg 1)) (xs (Int32.toNatClampNeg 2)) (xs (Int32.toNatClampNeg 3)) (xs (Int32.toNatClampNeg 4)) 0 ou alo fo) (vx_cwSW 7 hts (kgS q578 q579 q35 q580) rfl rfl rfl (by decide +kernel) ⟨(Nat.le_of_ble_eq_true rfl), (Nat.le_of_ble_eq_true rfl)⟩) (kpreS hP hD hK hAN hT hN hS [0, 1, 2] [0] (by decide) rfl rfl) rfl rfl hl.1 rfl (lv_room (Nat.le_of_ble_eq_true rfl)) dL_law_1396 ⟨(Nat.le_of_ble_eq_true rfl), (Nat.le_of_ble_eq_true rfl)⟩) (ws := [(x, .inr (17, [.ref pl, .ref dy, .ref ag, .ref qch, .ref qsh, .ref qsc, .int 0, .int 0])), (pl, .inr (16, [.ref qfl, .ref qac, .ref qcr, .ref qfg, .ref qgr, .ref qme, .ref qsf, .ref qsb, .ref qtu, .int 0, .int 0, .int 0, .int 0, .int 0, .int 0, .int 0, .int 0, .int (-1), .int 1])), (ou, .inl (alo, 1, .inr (.inl fo))), (mo_, .inr (25, [.ref ti, .ref mfl, .ref mcr, .ref mst, .ref mtu, .int 1, .int 0, .int 1, .ref mfg, .ref mgr, .ref mme, .null, .int 0])), (mfg, .inr (5, [.int 0, .ref ade, .int 0])), (mgr, .inr (5, [.int 0, .ref ade, .int 0]))]) (wc := [(x, .inr (17, [.ref pl, .ref dy, .ref ag, .ref qch, .ref qsh, .ref qsc, .int 0, .int 0])), (pl, .inr (16, [.ref qfl, .ref qac, .ref qcr, .ref qfg, .ref qgr, .ref qme, .ref qsf, .ref qsb, .ref qtu, .int 0, .int 0, .int 0, .int 0, .int 0, .int 0, .int 0, .int 0, .int (-1), .int 1])), (ou, .inl (alo, 1, .inr (.inl fo)))]) (wr := [(mo_, .inr (25, [.ref ti, .ref mfl, .ref mcr, .ref mst, .ref mtu, .int 1, .int 0, .int 1, .ref mfg, .ref mgr, .ref mme, .null, .int 0])), (mfg, .inr (5, [.int 0, .ref ade, .int 0])), (mgr, .inr (5, [.int 0, .ref ade, .int 0]))]) hP hD hK hS hA [0, 1, 2] [3, 4, 5] [] rfl rfl (by decide) (by decide) rfl (fun r_ u1 H locs hw2 hP hD hK hS => ?_)
    have hP : va_P G vwCl [(mo_, .inr (25, [.ref ti, .ref mfl, .ref mcr, .ref mst, .ref mtu, .int 1, .int 0, .int 1, .ref mfg, .ref mgr, .ref mme, .null, .int 0])), (mfg, .inr (5, [.int 0, .ref ade, .int 0])), (mgr, .inr (5, [.int 0, .ref ade, .int 0]))] H := hP
    have hD : va_D A [(mo_, .inr (25, [.ref ti, .ref mfl, .ref mcr, .ref mst, .ref mtu, .int 1, .int 0, .int 1, .ref mfg, .ref mgr, .ref mme, .null, .int 0])), (mfg, .inr (5, [.int 0, .ref ade, .int 0])), (mgr, .inr (5, [.int 0, .ref ade, .int 0]))] := hD
    have hK : va_K G vwCl [] s := hK
    refine W.widen (k := 161) (n := 21206) (Nat.le_of_ble_eq_true rfl) (Nat.le_of_ble_eq_true rfl) ?_
    obtain rfl : r_ = 1 := hw2
    refine lv_istore (lv' := [(6, .int 1), (5, .int 0), (4, .ref oud), (3, .ref ou), (2, .ref mo_), (1, .ref x), (0, .ref b)]) hx hb dL_law_1399 hl (by decide) rfl (fun ls hl => ?_)
    refine lv_aload_n hx hb dL_law_1401 rfl (lv_at hl 4 rfl) ?_
    refine lv_aload_n hx hb dL_law_1402 rfl (lv_at hl 6 rfl) ?_
    refine lv_iload hx hb dL_law_1403 (lv_at hl 1 rfl) ?_
    refine lv_iconst (v := 1) hx hb dL_law_1405 (by decide) ?_
    refine lv_iadd hx hb dL_law_1406 ?_
    refine lv_topi (fun v_ e_ => ?_)
    obtain rfl : v_ = 1 := e_.trans (by decide)
    refine va_sld hx hb hX hbl hbA hS (vin (by decide +kernel)) dL_law_1407 ?_
    refine lv_aload_n hx hb dL_law_1408 rfl (lv_at hl 6 rfl) ?_
    refine lv_iload hx hb dL_law_1409 (lv_at hl 1 rfl) ?_
    refine lv_iconst (v := 2) hx hb dL_law_1411 (by decide) ?_
    refine lv_iadd hx hb dL_law_1412 ?_
    refine lv_topi (fun v_ e_ => ?_)
    obtain rfl : v_ = 2 := e_.trans (by decide)
    refine va_sld hx hb hX hbl hbA hS (vin (by decide +kernel)) dL_law_1413 ?_
    refine lv_aload_n hx hb dL_law_1414 rfl (lv_at hl 6 rfl) ?_
    refine lv_iload hx hb dL_law_1415 (lv_at hl 1 rfl) ?_
    refine W.eq (g2 := F0 m 1417 ls [.int 0, .ref b, .int (xs (Int32.toNatClampNeg 2)), .int (xs (Int32.toNatClampNeg 1)), .ref mo_]) rfl ?_
    refine lv_iconst (v := 3) hx hb dL_law_1417 (by decide) ?_
    refine lv_iadd hx hb dL_law_1418 ?_
    refine lv_topi (fun v_ e_ => ?_)
    obtain rfl : v_ = 3 := e_.trans (by decide)
    refine va_sld hx hb hX hbl hbA hS (vin (by decide +kernel)) dL_law_1419 ?_
    refine lv_aload_n hx hb dL_law_1420 rfl (lv_at hl 6 rfl) ?_
    refine lv_iload hx hb dL_law_1421 (lv_at hl 1 rfl) ?_
    refine lv_iconst (v := 4) hx hb dL_law_1423 (by decide) ?_
    refine lv_iadd hx hb dL_law_1424 ?_
    refine lv_topi (fun v_ e_ => ?_)
    obtain rfl : v_ = 4 := e_.trans (by decide)
    refine va_sld hx hb hX hbl hbA hS (vin (by decide +kernel)) dL_law_1425 ?_
    refine lv_aload_n hx hb dL_law_1426 rfl (lv_at hl 6 rfl) ?_
    refine lv_iload hx hb dL_law_1427 (lv_at hl 1 rfl) ?_
    refine lv_iconst (v := 5) hx hb dL_law_1429 (by decide) ?_
    refine lv_iadd hx hb dL_law_1430 ?_
    refine lv_topi (fun v_ e_ => ?_)
    obtain rfl : v_ = 5 := e_.trans (by decide)
    refine va_sld hx hb hX hbl hbA hS (vin (by decide +kernel)) dL_law_1431 ?_
    refine lv_if_eq (tgt := 1439) hx hb dL_law_1432 (by decide) (fun _ => ?_) (fun h_ => absurd c_1387 h_)
    refine lv_iconst (v := 0) hx hb dL_law_1439 (by decide) ?_
    refine ka_i (va_runV (As := [.int (xs (Int32.toNatClampNeg 1)), .int (xs (Int32.toNatClampNeg 2)), .int (xs (Int32.toNatClampNeg 3)), .int (xs (Int32.toNatClampNeg 4)), .int 0]) (rest := []) ⟨hx, hb, hml, hown, hts⟩ (c_m_addGroup l G N0 ade adB H.size mo_ ti mfl mcr mst mtu mfg mgr mme 0 (xs (Int32.toNatClampNeg 1)) (xs (Int32.toNatClampNeg 2)) (xs (Int32.toNatClampNeg 3)) (xs (Int32.toNatClampNeg 4)) 0) (cwV 5 hts (kgV q915 q916 q917 q49 q918) rfl rfl rfl (by decide +kernel) ⟨(Nat.le_of_ble_eq_true rfl), (Nat.le_of_ble_eq_true rfl)⟩) (kpreV (ci := 25) (q0 := 0) hP hD hK hAN hT hN hS [0, 1, 2] [] (by decide) rfl rfl rfl rfl rfl) rfl rfl hl.1 rfl (lv_room (Nat.le_of_ble_eq_true rfl)) dL_law_1440 ⟨(Nat.le_of_ble_eq_true rfl), (Nat.le_of_ble_eq_true rfl)⟩) (ws := [(mo_, .inr (25, [.ref ti, .ref mfl, .ref mcr, .ref mst, .ref mtu, .int 1, .int 0, .int 1, .ref mfg, .ref mgr, .ref mme, .null, .int 0])), (mfg, .inr (5, [.int 0, .ref ade, .int 0])), (mgr, .inr (5, [.int 0, .ref ade, .int 0]))]) (wc := [(mo_, .inr (25, [.ref ti, .ref mfl, .ref mcr, .ref mst, .ref mtu, .int 1, .int 0, .int 1, .ref mfg, .ref mgr, .ref mme, .null, .int 0])), (mfg, .inr (5, [.int 0, .ref ade, .int 0])), (mgr, .inr (5, [.int 0, .ref ade, .int 0]))]) (wr := []) hP hD hK hS hA [0, 1, 2] [] [] rfl rfl (by decide) (by decide) rfl (fun r_ u4 H locs hw5 hP hD hK hS => ?_)
    obtain ⟨fs3, rfl⟩ : ∃ z_, z_ = u4 := ⟨_, rfl⟩
    have hP : va_P G vwCl [(mo_, .inr (25, fs3))] H := hP
    have hD : va_D A [(mo_, .inr (25, fs3))] := hD
    have hK : va_K G vwCl [] s := hK
    refine W.widen (k := 161) (n := 21206) (Nat.le_of_ble_eq_true rfl) (Nat.le_of_ble_eq_true rfl) ?_
    have hf6 : fs3[12]? = some (.int (sp_m_addGroup (xs (Int32.toNatClampNeg 1)) (xs (Int32.toNatClampNeg 2)) (xs (Int32.toNatClampNeg 3)) (xs (Int32.toNatClampNeg 4)) 0)) := hw5.2
    obtain rfl : r_ = (sv_m_addGroup (xs (Int32.toNatClampNeg 1)) (xs (Int32.toNatClampNeg 2)) (xs (Int32.toNatClampNeg 3)) (xs (Int32.toNatClampNeg 4)) 0) := hw5.1
    refine lv_istore (lv' := [(7, .int (sv_m_addGroup (xs (Int32.toNatClampNeg 1)) (xs (Int32.toNatClampNeg 2)) (xs (Int32.toNatClampNeg 3)) (xs (Int32.toNatClampNeg 4)) 0)), (6, .int 1), (5, .int 0), (4, .ref oud), (3, .ref ou), (2, .ref mo_), (1, .ref x), (0, .ref b)]) hx hb dL_law_1443 hl (by decide) rfl (fun ls hl => ?_)
    refine lv_aload_n hx hb dL_law_1445 rfl (lv_at hl 5 rfl) ?_
    refine ka_i (va_runV (As := []) (rest := []) ⟨hx, hb, hml, hown, hts⟩ (c_m_thrown l G N0 ade adB H.size mo_ fs3 (sp_m_addGroup (xs (Int32.toNatClampNeg 1)) (xs (Int32.toNatClampNeg 2)) (xs (Int32.toNatClampNeg 3)) (xs (Int32.toNatClampNeg 4)) 0) hf6) (cwV 0 hts (kgV q748 q749 q750 q49 q751) rfl rfl rfl (by decide +kernel) ⟨(Nat.le_of_ble_eq_true rfl), (Nat.le_of_ble_eq_true rfl)⟩) (kpreV (ci := 25) (q0 := 0) hP hD hK hAN hT hN hS [0] [] (by decide) rfl rfl rfl rfl rfl) rfl rfl hl.1 rfl (lv_room (Nat.le_of_ble_eq_true rfl)) dL_law_1446 ⟨(Nat.le_of_ble_eq_true rfl), (Nat.le_of_ble_eq_true rfl)⟩) (ws := [(mo_, .inr (25, fs3))]) (wc := [(mo_, .inr (25, fs3))]) (wr := []) hP hD hK hS hA [0] [] [] rfl rfl (by decide) (by decide) rfl (fun r_ u8 H locs hw9 hP hD hK hS => ?_)
    have hP : va_P G vwCl [(mo_, .inr (25, fs3))] H := hP
    have hD : va_D A [(mo_, .inr (25, fs3))] := hD
    have hK : va_K G vwCl [] s := hK
    refine W.widen (k := 161) (n := 21206) (Nat.le_of_ble_eq_true rfl) (Nat.le_of_ble_eq_true rfl) ?_
    obtain rfl : r_ = (sp_m_addGroup (xs (Int32.toNatClampNeg 1)) (xs (Int32.toNatClampNeg 2)) (xs (Int32.toNatClampNeg 3)) (xs (Int32.toNatClampNeg 4)) 0) := hw9
    refine lv_iload hx hb dL_law_1449 (lv_at hl 1 rfl) ?_
    refine lv_icmp_eq (tgt := 1456) hx hb dL_law_1451 (by decide) (fun _ => ?_) (fun h_ => absurd (show (sp_m_addGroup (xs (Int32.toNatClampNeg 1)) (xs (Int32.toNatClampNeg 2)) (xs (Int32.toNatClampNeg 3)) (xs (Int32.toNatClampNeg 4)) 0) = 1 from rfl) h_)
    refine lv_iload hx hb dL_law_1456 (lv_at hl 1 rfl) ?_
    refine lv_if_ne (tgt := 1473) hx hb dL_law_1458 (by decide) (fun _ => ?_) (fun h_ => absurd h_ (by decide))
    refine lv_goto (tgt := 2435) hx hb dL_law_1473 (by decide) ?_
    exact law_tail hl0 hx hb hr hml hown hts hX hbl hlocks hT hAN hA hN hbA hAs hS (Nat.le_of_ble_eq_true rfl) (Nat.le_of_ble_eq_true rfl) (lv_sub hl [2, 7] rfl)
  · refine lv_iconst (v := 1) hx hb dL_law_1390 (by decide) ?_
    refine lv_goto (tgt := 1395) hx hb dL_law_1391 (by decide) ?_
    refine lv_aload_n hx hb dL_law_1395 rfl (lv_at hl 2 rfl) ?_
    refine ka_i (vx_runSW (As := [.ref x, .int (xs (Int32.toNatClampNeg 1)), .int (xs (Int32.toNatClampNeg 2)), .int (xs (Int32.toNatClampNeg 3)), .int (xs (Int32.toNatClampNeg 4)), .int 1, .ref ou]) (rest := []) ⟨hx, hb, hml, hown, hts⟩ (c_L_addGroup l hl0 G N0 ade adB H.size x dy ag qch qsh qsc pl qfl qac qcr qfg qgr qme qsf qsb qtu (xs (Int32.toNatClampNeg 1)) (xs (Int32.toNatClampNeg 2)) (xs (Int32.toNatClampNeg 3)) (xs (Int32.toNatClampNeg 4)) 1 ou alo fo) (vx_cwSW 7 hts (kgS q578 q579 q35 q580) rfl rfl rfl (by decide +kernel) ⟨(Nat.le_of_ble_eq_true rfl), (Nat.le_of_ble_eq_true rfl)⟩) (kpreS hP hD hK hAN hT hN hS [0, 1, 2] [0] (by decide) rfl rfl) rfl rfl hl.1 rfl (lv_room (Nat.le_of_ble_eq_true rfl)) dL_law_1396 ⟨(Nat.le_of_ble_eq_true rfl), (Nat.le_of_ble_eq_true rfl)⟩) (ws := [(x, .inr (17, [.ref pl, .ref dy, .ref ag, .ref qch, .ref qsh, .ref qsc, .int 0, .int 0])), (pl, .inr (16, [.ref qfl, .ref qac, .ref qcr, .ref qfg, .ref qgr, .ref qme, .ref qsf, .ref qsb, .ref qtu, .int 0, .int 0, .int 0, .int 0, .int 0, .int 0, .int 0, .int 0, .int (-1), .int 1])), (ou, .inl (alo, 1, .inr (.inl fo))), (mo_, .inr (25, [.ref ti, .ref mfl, .ref mcr, .ref mst, .ref mtu, .int 1, .int 0, .int 1, .ref mfg, .ref mgr, .ref mme, .null, .int 0])), (mfg, .inr (5, [.int 0, .ref ade, .int 0])), (mgr, .inr (5, [.int 0, .ref ade, .int 0]))]) (wc := [(x, .inr (17, [.ref pl, .ref dy, .ref ag, .ref qch, .ref qsh, .ref qsc, .int 0, .int 0])), (pl, .inr (16, [.ref qfl, .ref qac, .ref qcr, .ref qfg, .ref qgr, .ref qme, .ref qsf, .ref qsb, .ref qtu, .int 0, .int 0, .int 0, .int 0, .int 0, .int 0, .int 0, .int 0, .int (-1), .int 1])), (ou, .inl (alo, 1, .inr (.inl fo)))]) (wr := [(mo_, .inr (25, [.ref ti, .ref mfl, .ref mcr, .ref mst, .ref mtu, .int 1, .int 0, .int 1, .ref mfg, .ref mgr, .ref mme, .null, .int 0])), (mfg, .inr (5, [.int 0, .ref ade, .int 0])), (mgr, .inr (5, [.int 0, .ref ade, .int 0]))]) hP hD hK hS hA [0, 1, 2] [3, 4, 5] [] rfl rfl (by decide) (by decide) rfl (fun r_ u10 H locs hw11 hP hD hK hS => ?_)
    have hP : va_P G vwCl [(mo_, .inr (25, [.ref ti, .ref mfl, .ref mcr, .ref mst, .ref mtu, .int 1, .int 0, .int 1, .ref mfg, .ref mgr, .ref mme, .null, .int 0])), (mfg, .inr (5, [.int 0, .ref ade, .int 0])), (mgr, .inr (5, [.int 0, .ref ade, .int 0]))] H := hP
    have hD : va_D A [(mo_, .inr (25, [.ref ti, .ref mfl, .ref mcr, .ref mst, .ref mtu, .int 1, .int 0, .int 1, .ref mfg, .ref mgr, .ref mme, .null, .int 0])), (mfg, .inr (5, [.int 0, .ref ade, .int 0])), (mgr, .inr (5, [.int 0, .ref ade, .int 0]))] := hD
    have hK : va_K G vwCl [] s := hK
    refine W.widen (k := 161) (n := 21206) (Nat.le_of_ble_eq_true rfl) (Nat.le_of_ble_eq_true rfl) ?_
    obtain rfl : r_ = 1 := hw11
    refine lv_istore (lv' := [(6, .int 1), (5, .int 0), (4, .ref oud), (3, .ref ou), (2, .ref mo_), (1, .ref x), (0, .ref b)]) hx hb dL_law_1399 hl (by decide) rfl (fun ls hl => ?_)
    refine lv_aload_n hx hb dL_law_1401 rfl (lv_at hl 4 rfl) ?_
    refine lv_aload_n hx hb dL_law_1402 rfl (lv_at hl 6 rfl) ?_
    refine lv_iload hx hb dL_law_1403 (lv_at hl 1 rfl) ?_
    refine lv_iconst (v := 1) hx hb dL_law_1405 (by decide) ?_
    refine lv_iadd hx hb dL_law_1406 ?_
    refine lv_topi (fun v_ e_ => ?_)
    obtain rfl : v_ = 1 := e_.trans (by decide)
    refine va_sld hx hb hX hbl hbA hS (vin (by decide +kernel)) dL_law_1407 ?_
    refine lv_aload_n hx hb dL_law_1408 rfl (lv_at hl 6 rfl) ?_
    refine lv_iload hx hb dL_law_1409 (lv_at hl 1 rfl) ?_
    refine lv_iconst (v := 2) hx hb dL_law_1411 (by decide) ?_
    refine lv_iadd hx hb dL_law_1412 ?_
    refine lv_topi (fun v_ e_ => ?_)
    obtain rfl : v_ = 2 := e_.trans (by decide)
    refine va_sld hx hb hX hbl hbA hS (vin (by decide +kernel)) dL_law_1413 ?_
    refine lv_aload_n hx hb dL_law_1414 rfl (lv_at hl 6 rfl) ?_
    refine lv_iload hx hb dL_law_1415 (lv_at hl 1 rfl) ?_
    refine W.eq (g2 := F0 m 1417 ls [.int 0, .ref b, .int (xs (Int32.toNatClampNeg 2)), .int (xs (Int32.toNatClampNeg 1)), .ref mo_]) rfl ?_
    refine lv_iconst (v := 3) hx hb dL_law_1417 (by decide) ?_
    refine lv_iadd hx hb dL_law_1418 ?_
    refine lv_topi (fun v_ e_ => ?_)
    obtain rfl : v_ = 3 := e_.trans (by decide)
    refine va_sld hx hb hX hbl hbA hS (vin (by decide +kernel)) dL_law_1419 ?_
    refine lv_aload_n hx hb dL_law_1420 rfl (lv_at hl 6 rfl) ?_
    refine lv_iload hx hb dL_law_1421 (lv_at hl 1 rfl) ?_
    refine lv_iconst (v := 4) hx hb dL_law_1423 (by decide) ?_
    refine lv_iadd hx hb dL_law_1424 ?_
    refine lv_topi (fun v_ e_ => ?_)
    obtain rfl : v_ = 4 := e_.trans (by decide)
    refine va_sld hx hb hX hbl hbA hS (vin (by decide +kernel)) dL_law_1425 ?_
    refine lv_aload_n hx hb dL_law_1426 rfl (lv_at hl 6 rfl) ?_
    refine lv_iload hx hb dL_law_1427 (lv_at hl 1 rfl) ?_
    refine lv_iconst (v := 5) hx hb dL_law_1429 (by decide) ?_
    refine lv_iadd hx hb dL_law_1430 ?_
    refine lv_topi (fun v_ e_ => ?_)
    obtain rfl : v_ = 5 := e_.trans (by decide)
    refine va_sld hx hb hX hbl hbA hS (vin (by decide +kernel)) dL_law_1431 ?_
    refine lv_if_eq (tgt := 1439) hx hb dL_law_1432 (by decide) (fun h_ => absurd h_ c_1387) (fun _ => ?_)
    refine lv_iconst (v := 1) hx hb dL_law_1435 (by decide) ?_
    refine lv_goto (tgt := 1440) hx hb dL_law_1436 (by decide) ?_
    refine ka_i (va_runV (As := [.int (xs (Int32.toNatClampNeg 1)), .int (xs (Int32.toNatClampNeg 2)), .int (xs (Int32.toNatClampNeg 3)), .int (xs (Int32.toNatClampNeg 4)), .int 1]) (rest := []) ⟨hx, hb, hml, hown, hts⟩ (c_m_addGroup l G N0 ade adB H.size mo_ ti mfl mcr mst mtu mfg mgr mme 0 (xs (Int32.toNatClampNeg 1)) (xs (Int32.toNatClampNeg 2)) (xs (Int32.toNatClampNeg 3)) (xs (Int32.toNatClampNeg 4)) 1) (cwV 5 hts (kgV q915 q916 q917 q49 q918) rfl rfl rfl (by decide +kernel) ⟨(Nat.le_of_ble_eq_true rfl), (Nat.le_of_ble_eq_true rfl)⟩) (kpreV (ci := 25) (q0 := 0) hP hD hK hAN hT hN hS [0, 1, 2] [] (by decide) rfl rfl rfl rfl rfl) rfl rfl hl.1 rfl (lv_room (Nat.le_of_ble_eq_true rfl)) dL_law_1440 ⟨(Nat.le_of_ble_eq_true rfl), (Nat.le_of_ble_eq_true rfl)⟩) (ws := [(mo_, .inr (25, [.ref ti, .ref mfl, .ref mcr, .ref mst, .ref mtu, .int 1, .int 0, .int 1, .ref mfg, .ref mgr, .ref mme, .null, .int 0])), (mfg, .inr (5, [.int 0, .ref ade, .int 0])), (mgr, .inr (5, [.int 0, .ref ade, .int 0]))]) (wc := [(mo_, .inr (25, [.ref ti, .ref mfl, .ref mcr, .ref mst, .ref mtu, .int 1, .int 0, .int 1, .ref mfg, .ref mgr, .ref mme, .null, .int 0])), (mfg, .inr (5, [.int 0, .ref ade, .int 0])), (mgr, .inr (5, [.int 0, .ref ade, .int 0]))]) (wr := []) hP hD hK hS hA [0, 1, 2] [] [] rfl rfl (by decide) (by decide) rfl (fun r_ u13 H locs hw14 hP hD hK hS => ?_)
    obtain ⟨fs12, rfl⟩ : ∃ z_, z_ = u13 := ⟨_, rfl⟩
    have hP : va_P G vwCl [(mo_, .inr (25, fs12))] H := hP
    have hD : va_D A [(mo_, .inr (25, fs12))] := hD
    have hK : va_K G vwCl [] s := hK
    refine W.widen (k := 161) (n := 21206) (Nat.le_of_ble_eq_true rfl) (Nat.le_of_ble_eq_true rfl) ?_
    have hf15 : fs12[12]? = some (.int (sp_m_addGroup (xs (Int32.toNatClampNeg 1)) (xs (Int32.toNatClampNeg 2)) (xs (Int32.toNatClampNeg 3)) (xs (Int32.toNatClampNeg 4)) 1)) := hw14.2
    obtain rfl : r_ = (sv_m_addGroup (xs (Int32.toNatClampNeg 1)) (xs (Int32.toNatClampNeg 2)) (xs (Int32.toNatClampNeg 3)) (xs (Int32.toNatClampNeg 4)) 1) := hw14.1
    refine lv_istore (lv' := [(7, .int (sv_m_addGroup (xs (Int32.toNatClampNeg 1)) (xs (Int32.toNatClampNeg 2)) (xs (Int32.toNatClampNeg 3)) (xs (Int32.toNatClampNeg 4)) 1)), (6, .int 1), (5, .int 0), (4, .ref oud), (3, .ref ou), (2, .ref mo_), (1, .ref x), (0, .ref b)]) hx hb dL_law_1443 hl (by decide) rfl (fun ls hl => ?_)
    refine lv_aload_n hx hb dL_law_1445 rfl (lv_at hl 5 rfl) ?_
    refine ka_i (va_runV (As := []) (rest := []) ⟨hx, hb, hml, hown, hts⟩ (c_m_thrown l G N0 ade adB H.size mo_ fs12 (sp_m_addGroup (xs (Int32.toNatClampNeg 1)) (xs (Int32.toNatClampNeg 2)) (xs (Int32.toNatClampNeg 3)) (xs (Int32.toNatClampNeg 4)) 1) hf15) (cwV 0 hts (kgV q748 q749 q750 q49 q751) rfl rfl rfl (by decide +kernel) ⟨(Nat.le_of_ble_eq_true rfl), (Nat.le_of_ble_eq_true rfl)⟩) (kpreV (ci := 25) (q0 := 0) hP hD hK hAN hT hN hS [0] [] (by decide) rfl rfl rfl rfl rfl) rfl rfl hl.1 rfl (lv_room (Nat.le_of_ble_eq_true rfl)) dL_law_1446 ⟨(Nat.le_of_ble_eq_true rfl), (Nat.le_of_ble_eq_true rfl)⟩) (ws := [(mo_, .inr (25, fs12))]) (wc := [(mo_, .inr (25, fs12))]) (wr := []) hP hD hK hS hA [0] [] [] rfl rfl (by decide) (by decide) rfl (fun r_ u17 H locs hw18 hP hD hK hS => ?_)
    have hP : va_P G vwCl [(mo_, .inr (25, fs12))] H := hP
    have hD : va_D A [(mo_, .inr (25, fs12))] := hD
    have hK : va_K G vwCl [] s := hK
    refine W.widen (k := 161) (n := 21206) (Nat.le_of_ble_eq_true rfl) (Nat.le_of_ble_eq_true rfl) ?_
    obtain rfl : r_ = (sp_m_addGroup (xs (Int32.toNatClampNeg 1)) (xs (Int32.toNatClampNeg 2)) (xs (Int32.toNatClampNeg 3)) (xs (Int32.toNatClampNeg 4)) 1) := hw18
    refine lv_iload hx hb dL_law_1449 (lv_at hl 1 rfl) ?_
    refine lv_icmp_eq (tgt := 1456) hx hb dL_law_1451 (by decide) (fun _ => ?_) (fun h_ => absurd (show (sp_m_addGroup (xs (Int32.toNatClampNeg 1)) (xs (Int32.toNatClampNeg 2)) (xs (Int32.toNatClampNeg 3)) (xs (Int32.toNatClampNeg 4)) 1) = 1 from rfl) h_)
    refine lv_iload hx hb dL_law_1456 (lv_at hl 1 rfl) ?_
    refine lv_if_ne (tgt := 1473) hx hb dL_law_1458 (by decide) (fun _ => ?_) (fun h_ => absurd h_ (by decide))
    refine lv_goto (tgt := 2435) hx hb dL_law_1473 (by decide) ?_
    exact law_tail hl0 hx hb hr hml hown hts hX hbl hlocks hT hAN hA hN hbA hAs hS (Nat.le_of_ble_eq_true rfl) (Nat.le_of_ble_eq_true rfl) (lv_sub hl [2, 7] rfl)

set_option maxHeartbeats 4000000 in
set_option maxRecDepth 100000 in
theorem law_tell {p : Program} {l : Launch} {e : Env} {s : State} {m : MethodId} {below : List Frame} {meth : Method} {c : Code} {b : Nat} {xs : Nat → Int32} {A : Nat → Prop} (hl0 : l.stackTraces = false) (hx : p.tables.exec = Jvm.exec) (hb : c.code = cL_law) (hr : meth.sig.returnType = ret) (hml : c.maxLocals = 9) (hown : s.vm.findClass RL = some m.cls) (hts : ∀ w ∈ lw_all, w.before #[Value.ref b] s = true) (hX : va_X b 7 xs s s.heap) (hbl : b < s.heap.size) (hlocks : meth.locks = false) {N0 ade : Nat} {adB : Nat → Nat} (hT : BT N0 ade adB s) (hAN : ∀ q, A q → KA N0 q) (hA : ∀ q, s.heap.size ≤ q → A q) (hN : N0 ≤ s.heap.size) (hbA : ¬ A b) (hAs : ∀ q, A q → s.heap.size ≤ q) {G : va_G} {x : Nat} {dy : Nat} {ag : Nat} {qch : Nat} {qsh : Nat} {qsc : Nat} {pl : Nat} {qfl : Nat} {qac : Nat} {qcr : Nat} {qfg : Nat} {qgr : Nat} {qme : Nat} {qsf : Nat} {qsb : Nat} {qtu : Nat} {ou : Nat} {alo : ClassId} {fo : Nat → Int64} {mo_ : Nat} {ti : Nat} {mfl : Nat} {mcr : Nat} {mst : Nat} {mtu : Nat} {mfg : Nat} {mgr : Nat} {mme : Nat} {oud : Nat}  {H : Heap} {locs : List Loc} (hP : va_P G vwCl [(x, .inr (17, [.ref pl, .ref dy, .ref ag, .ref qch, .ref qsh, .ref qsc, .int 0, .int 0])), (pl, .inr (16, [.ref qfl, .ref qac, .ref qcr, .ref qfg, .ref qgr, .ref qme, .ref qsf, .ref qsb, .ref qtu, .int 0, .int 0, .int 0, .int 0, .int 0, .int 0, .int 0, .int 0, .int (-1), .int 1])), (ou, .inl (alo, 1, .inr (.inl fo))), (mo_, .inr (25, [.ref ti, .ref mfl, .ref mcr, .ref mst, .ref mtu, .int 1, .int 0, .int 1, .ref mfg, .ref mgr, .ref mme, .null, .int 0])), (mfg, .inr (5, [.int 0, .ref ade, .int 0])), (mme, .inr (5, [.int 0, .ref ade, .int 0]))] H) (hD : va_D A [(x, .inr (17, [.ref pl, .ref dy, .ref ag, .ref qch, .ref qsh, .ref qsc, .int 0, .int 0])), (pl, .inr (16, [.ref qfl, .ref qac, .ref qcr, .ref qfg, .ref qgr, .ref qme, .ref qsf, .ref qsb, .ref qtu, .int 0, .int 0, .int 0, .int 0, .int 0, .int 0, .int 0, .int 0, .int (-1), .int 1])), (ou, .inl (alo, 1, .inr (.inl fo))), (mo_, .inr (25, [.ref ti, .ref mfl, .ref mcr, .ref mst, .ref mtu, .int 1, .int 0, .int 1, .ref mfg, .ref mgr, .ref mme, .null, .int 0])), (mfg, .inr (5, [.int 0, .ref ade, .int 0])), (mme, .inr (5, [.int 0, .ref ade, .int 0]))]) (hK : va_K G vwCl [(alo, .long)] s) (hS : va_S A s.heap H locs) {ls : Array Slot} (hl : lv_has ls 9 [(5, .int 0), (4, .ref oud), (3, .ref ou), (2, .ref mo_), (1, .ref x), (0, .ref b)]) : W p l e room_1 s m #[Value.ref b] below meth c H locs 160 21200 (lw_Z below #[Value.ref b] s) (F0 m 1476 ls []) := by
  refine lv_aload_n hx hb dL_law_1476 rfl (lv_at hl 4 rfl) ?_
  refine lv_aload_n hx hb dL_law_1477 rfl (lv_at hl 5 rfl) ?_
  refine lv_iload hx hb dL_law_1478 (lv_at hl 0 rfl) ?_
  refine lv_iconst (v := 1) hx hb dL_law_1480 (by decide) ?_
  refine lv_iadd hx hb dL_law_1481 ?_
  refine lv_topi (fun v_ e_ => ?_)
  obtain rfl : v_ = 1 := e_.trans (by decide)
  refine va_sld hx hb hX hbl hbA hS (vin (by decide +kernel)) dL_law_1482 ?_
  refine lv_i2c (v := ((xs (Int32.toNatClampNeg 1)).toUInt32 % 65536).toInt32) hx hb dL_law_1483 rfl ?_
  refine lv_aload_n hx hb dL_law_1484 rfl (lv_at hl 5 rfl) ?_
  refine lv_iload hx hb dL_law_1485 (lv_at hl 0 rfl) ?_
  refine lv_iconst (v := 2) hx hb dL_law_1487 (by decide) ?_
  refine lv_iadd hx hb dL_law_1488 ?_
  refine lv_topi (fun v_ e_ => ?_)
  obtain rfl : v_ = 2 := e_.trans (by decide)
  refine va_sld hx hb hX hbl hbA hS (vin (by decide +kernel)) dL_law_1489 ?_
  refine lv_aload_n hx hb dL_law_1490 rfl (lv_at hl 5 rfl) ?_
  refine lv_iload hx hb dL_law_1491 (lv_at hl 0 rfl) ?_
  refine W.eq (g2 := F0 m 1493 ls [.int 0, .ref b, .int (xs (Int32.toNatClampNeg 2)), .int (((xs (Int32.toNatClampNeg 1)).toUInt32 % 65536).toInt32), .ref x]) rfl ?_
  refine lv_iconst (v := 3) hx hb dL_law_1493 (by decide) ?_
  refine lv_iadd hx hb dL_law_1494 ?_
  refine lv_topi (fun v_ e_ => ?_)
  obtain rfl : v_ = 3 := e_.trans (by decide)
  refine va_sld hx hb hX hbl hbA hS (vin (by decide +kernel)) dL_law_1495 ?_
  refine lv_aload_n hx hb dL_law_1496 rfl (lv_at hl 5 rfl) ?_
  refine lv_iload hx hb dL_law_1497 (lv_at hl 0 rfl) ?_
  refine lv_iconst (v := 4) hx hb dL_law_1499 (by decide) ?_
  refine lv_iadd hx hb dL_law_1500 ?_
  refine lv_topi (fun v_ e_ => ?_)
  obtain rfl : v_ = 4 := e_.trans (by decide)
  refine va_sld hx hb hX hbl hbA hS (vin (by decide +kernel)) dL_law_1501 ?_
  refine lv_aload_n hx hb dL_law_1502 rfl (lv_at hl 5 rfl) ?_
  refine lv_iload hx hb dL_law_1503 (lv_at hl 0 rfl) ?_
  refine lv_iconst (v := 5) hx hb dL_law_1505 (by decide) ?_
  refine lv_iadd hx hb dL_law_1506 ?_
  refine lv_topi (fun v_ e_ => ?_)
  obtain rfl : v_ = 5 := e_.trans (by decide)
  refine va_sld hx hb hX hbl hbA hS (vin (by decide +kernel)) dL_law_1507 ?_
  refine lv_aload_n hx hb dL_law_1508 rfl (lv_at hl 2 rfl) ?_
  refine ka_i (vx_runSW (As := [.ref x, .int (((xs (Int32.toNatClampNeg 1)).toUInt32 % 65536).toInt32), .int (xs (Int32.toNatClampNeg 2)), .int (xs (Int32.toNatClampNeg 3)), .int (xs (Int32.toNatClampNeg 4)), .int (xs (Int32.toNatClampNeg 5)), .ref ou]) (rest := []) ⟨hx, hb, hml, hown, hts⟩ (c_L_tell l hl0 G N0 ade adB H.size x dy ag qch qsh qsc pl qfl qac qcr qfg qgr qme qsf qsb qtu (((xs (Int32.toNatClampNeg 1)).toUInt32 % 65536).toInt32) (xs (Int32.toNatClampNeg 2)) (xs (Int32.toNatClampNeg 3)) (xs (Int32.toNatClampNeg 4)) (xs (Int32.toNatClampNeg 5)) ou alo fo) (vx_cwSW 7 hts (kgS q585 q586 q35 q587) rfl rfl rfl (by decide +kernel) ⟨(Nat.le_of_ble_eq_true rfl), (Nat.le_of_ble_eq_true rfl)⟩) (kpreS hP hD hK hAN hT hN hS [0, 1, 2] [0] (by decide) rfl rfl) rfl rfl hl.1 rfl (lv_room (Nat.le_of_ble_eq_true rfl)) dL_law_1509 ⟨(Nat.le_of_ble_eq_true rfl), (Nat.le_of_ble_eq_true rfl)⟩) (ws := [(x, .inr (17, [.ref pl, .ref dy, .ref ag, .ref qch, .ref qsh, .ref qsc, .int 0, .int 0])), (pl, .inr (16, [.ref qfl, .ref qac, .ref qcr, .ref qfg, .ref qgr, .ref qme, .ref qsf, .ref qsb, .ref qtu, .int 0, .int 0, .int 0, .int 0, .int 0, .int 0, .int 0, .int 0, .int (-1), .int 1])), (ou, .inl (alo, 1, .inr (.inl fo))), (mo_, .inr (25, [.ref ti, .ref mfl, .ref mcr, .ref mst, .ref mtu, .int 1, .int 0, .int 1, .ref mfg, .ref mgr, .ref mme, .null, .int 0])), (mfg, .inr (5, [.int 0, .ref ade, .int 0])), (mme, .inr (5, [.int 0, .ref ade, .int 0]))]) (wc := [(x, .inr (17, [.ref pl, .ref dy, .ref ag, .ref qch, .ref qsh, .ref qsc, .int 0, .int 0])), (pl, .inr (16, [.ref qfl, .ref qac, .ref qcr, .ref qfg, .ref qgr, .ref qme, .ref qsf, .ref qsb, .ref qtu, .int 0, .int 0, .int 0, .int 0, .int 0, .int 0, .int 0, .int 0, .int (-1), .int 1])), (ou, .inl (alo, 1, .inr (.inl fo)))]) (wr := [(mo_, .inr (25, [.ref ti, .ref mfl, .ref mcr, .ref mst, .ref mtu, .int 1, .int 0, .int 1, .ref mfg, .ref mgr, .ref mme, .null, .int 0])), (mfg, .inr (5, [.int 0, .ref ade, .int 0])), (mme, .inr (5, [.int 0, .ref ade, .int 0]))]) hP hD hK hS hA [0, 1, 2] [3, 4, 5] [] rfl rfl (by decide) (by decide) rfl (fun r_ u1 H locs hw2 hP hD hK hS => ?_)
  have hP : va_P G vwCl [(mo_, .inr (25, [.ref ti, .ref mfl, .ref mcr, .ref mst, .ref mtu, .int 1, .int 0, .int 1, .ref mfg, .ref mgr, .ref mme, .null, .int 0])), (mfg, .inr (5, [.int 0, .ref ade, .int 0])), (mme, .inr (5, [.int 0, .ref ade, .int 0]))] H := hP
  have hD : va_D A [(mo_, .inr (25, [.ref ti, .ref mfl, .ref mcr, .ref mst, .ref mtu, .int 1, .int 0, .int 1, .ref mfg, .ref mgr, .ref mme, .null, .int 0])), (mfg, .inr (5, [.int 0, .ref ade, .int 0])), (mme, .inr (5, [.int 0, .ref ade, .int 0]))] := hD
  have hK : va_K G vwCl [] s := hK
  refine W.widen (k := 161) (n := 21206) (Nat.le_of_ble_eq_true rfl) (Nat.le_of_ble_eq_true rfl) ?_
  obtain rfl : r_ = 1 := hw2
  refine lv_istore (lv' := [(6, .int 1), (5, .int 0), (4, .ref oud), (3, .ref ou), (2, .ref mo_), (1, .ref x), (0, .ref b)]) hx hb dL_law_1512 hl (by decide) rfl (fun ls hl => ?_)
  refine lv_aload_n hx hb dL_law_1514 rfl (lv_at hl 4 rfl) ?_
  refine lv_aload_n hx hb dL_law_1515 rfl (lv_at hl 6 rfl) ?_
  refine lv_iload hx hb dL_law_1516 (lv_at hl 1 rfl) ?_
  refine lv_iconst (v := 1) hx hb dL_law_1518 (by decide) ?_
  refine lv_iadd hx hb dL_law_1519 ?_
  refine lv_topi (fun v_ e_ => ?_)
  obtain rfl : v_ = 1 := e_.trans (by decide)
  refine va_sld hx hb hX hbl hbA hS (vin (by decide +kernel)) dL_law_1520 ?_
  refine lv_i2c (v := ((xs (Int32.toNatClampNeg 1)).toUInt32 % 65536).toInt32) hx hb dL_law_1521 rfl ?_
  refine lv_aload_n hx hb dL_law_1522 rfl (lv_at hl 6 rfl) ?_
  refine lv_iload hx hb dL_law_1523 (lv_at hl 1 rfl) ?_
  refine lv_iconst (v := 2) hx hb dL_law_1525 (by decide) ?_
  refine lv_iadd hx hb dL_law_1526 ?_
  refine lv_topi (fun v_ e_ => ?_)
  obtain rfl : v_ = 2 := e_.trans (by decide)
  refine va_sld hx hb hX hbl hbA hS (vin (by decide +kernel)) dL_law_1527 ?_
  refine lv_aload_n hx hb dL_law_1528 rfl (lv_at hl 6 rfl) ?_
  refine W.eq (g2 := F0 m 1529 ls [.ref b, .int (xs (Int32.toNatClampNeg 2)), .int (((xs (Int32.toNatClampNeg 1)).toUInt32 % 65536).toInt32), .ref mo_]) rfl ?_
  refine lv_iload hx hb dL_law_1529 (lv_at hl 1 rfl) ?_
  refine lv_iconst (v := 3) hx hb dL_law_1531 (by decide) ?_
  refine lv_iadd hx hb dL_law_1532 ?_
  refine lv_topi (fun v_ e_ => ?_)
  obtain rfl : v_ = 3 := e_.trans (by decide)
  refine va_sld hx hb hX hbl hbA hS (vin (by decide +kernel)) dL_law_1533 ?_
  refine lv_aload_n hx hb dL_law_1534 rfl (lv_at hl 6 rfl) ?_
  refine lv_iload hx hb dL_law_1535 (lv_at hl 1 rfl) ?_
  refine lv_iconst (v := 4) hx hb dL_law_1537 (by decide) ?_
  refine lv_iadd hx hb dL_law_1538 ?_
  refine lv_topi (fun v_ e_ => ?_)
  obtain rfl : v_ = 4 := e_.trans (by decide)
  refine va_sld hx hb hX hbl hbA hS (vin (by decide +kernel)) dL_law_1539 ?_
  refine lv_aload_n hx hb dL_law_1540 rfl (lv_at hl 6 rfl) ?_
  refine lv_iload hx hb dL_law_1541 (lv_at hl 1 rfl) ?_
  refine lv_iconst (v := 5) hx hb dL_law_1543 (by decide) ?_
  refine lv_iadd hx hb dL_law_1544 ?_
  refine lv_topi (fun v_ e_ => ?_)
  obtain rfl : v_ = 5 := e_.trans (by decide)
  refine va_sld hx hb hX hbl hbA hS (vin (by decide +kernel)) dL_law_1545 ?_
  refine ka_i (va_runV (As := [.int (((xs (Int32.toNatClampNeg 1)).toUInt32 % 65536).toInt32), .int (xs (Int32.toNatClampNeg 2)), .int (xs (Int32.toNatClampNeg 3)), .int (xs (Int32.toNatClampNeg 4)), .int (xs (Int32.toNatClampNeg 5))]) (rest := []) ⟨hx, hb, hml, hown, hts⟩ (c_m_tell l G N0 ade adB H.size mo_ ti mfl mcr mst mtu mfg mgr mme 0 (((xs (Int32.toNatClampNeg 1)).toUInt32 % 65536).toInt32) (xs (Int32.toNatClampNeg 2)) (xs (Int32.toNatClampNeg 3)) (xs (Int32.toNatClampNeg 4)) (xs (Int32.toNatClampNeg 5))) (cwV 5 hts (kgV q923 q924 q925 q49 q926) rfl rfl rfl (by decide +kernel) ⟨(Nat.le_of_ble_eq_true rfl), (Nat.le_of_ble_eq_true rfl)⟩) (kpreV (ci := 25) (q0 := 0) hP hD hK hAN hT hN hS [0, 1, 2] [] (by decide) rfl rfl rfl rfl rfl) rfl rfl hl.1 rfl (lv_room (Nat.le_of_ble_eq_true rfl)) dL_law_1546 ⟨(Nat.le_of_ble_eq_true rfl), (Nat.le_of_ble_eq_true rfl)⟩) (ws := [(mo_, .inr (25, [.ref ti, .ref mfl, .ref mcr, .ref mst, .ref mtu, .int 1, .int 0, .int 1, .ref mfg, .ref mgr, .ref mme, .null, .int 0])), (mfg, .inr (5, [.int 0, .ref ade, .int 0])), (mme, .inr (5, [.int 0, .ref ade, .int 0]))]) (wc := [(mo_, .inr (25, [.ref ti, .ref mfl, .ref mcr, .ref mst, .ref mtu, .int 1, .int 0, .int 1, .ref mfg, .ref mgr, .ref mme, .null, .int 0])), (mfg, .inr (5, [.int 0, .ref ade, .int 0])), (mme, .inr (5, [.int 0, .ref ade, .int 0]))]) (wr := []) hP hD hK hS hA [0, 1, 2] [] [] rfl rfl (by decide) (by decide) rfl (fun r_ u4 H locs hw5 hP hD hK hS => ?_)
  obtain ⟨fs3, rfl⟩ : ∃ z_, z_ = u4 := ⟨_, rfl⟩
  have hP : va_P G vwCl [(mo_, .inr (25, fs3))] H := hP
  have hD : va_D A [(mo_, .inr (25, fs3))] := hD
  have hK : va_K G vwCl [] s := hK
  refine W.widen (k := 161) (n := 21206) (Nat.le_of_ble_eq_true rfl) (Nat.le_of_ble_eq_true rfl) ?_
  have hf6 : fs3[12]? = some (.int (sp_m_tell (((xs (Int32.toNatClampNeg 1)).toUInt32 % 65536).toInt32) (xs (Int32.toNatClampNeg 2)) (xs (Int32.toNatClampNeg 3)) (xs (Int32.toNatClampNeg 4)) (xs (Int32.toNatClampNeg 5)))) := hw5.2
  obtain rfl : r_ = (sv_m_tell (((xs (Int32.toNatClampNeg 1)).toUInt32 % 65536).toInt32) (xs (Int32.toNatClampNeg 2)) (xs (Int32.toNatClampNeg 3)) (xs (Int32.toNatClampNeg 4)) (xs (Int32.toNatClampNeg 5))) := hw5.1
  refine lv_istore (lv' := [(7, .int (sv_m_tell (((xs (Int32.toNatClampNeg 1)).toUInt32 % 65536).toInt32) (xs (Int32.toNatClampNeg 2)) (xs (Int32.toNatClampNeg 3)) (xs (Int32.toNatClampNeg 4)) (xs (Int32.toNatClampNeg 5)))), (6, .int 1), (5, .int 0), (4, .ref oud), (3, .ref ou), (2, .ref mo_), (1, .ref x), (0, .ref b)]) hx hb dL_law_1549 hl (by decide) rfl (fun ls hl => ?_)
  refine lv_aload_n hx hb dL_law_1551 rfl (lv_at hl 5 rfl) ?_
  refine ka_i (va_runV (As := []) (rest := []) ⟨hx, hb, hml, hown, hts⟩ (c_m_thrown l G N0 ade adB H.size mo_ fs3 (sp_m_tell (((xs (Int32.toNatClampNeg 1)).toUInt32 % 65536).toInt32) (xs (Int32.toNatClampNeg 2)) (xs (Int32.toNatClampNeg 3)) (xs (Int32.toNatClampNeg 4)) (xs (Int32.toNatClampNeg 5))) hf6) (cwV 0 hts (kgV q748 q749 q750 q49 q751) rfl rfl rfl (by decide +kernel) ⟨(Nat.le_of_ble_eq_true rfl), (Nat.le_of_ble_eq_true rfl)⟩) (kpreV (ci := 25) (q0 := 0) hP hD hK hAN hT hN hS [0] [] (by decide) rfl rfl rfl rfl rfl) rfl rfl hl.1 rfl (lv_room (Nat.le_of_ble_eq_true rfl)) dL_law_1552 ⟨(Nat.le_of_ble_eq_true rfl), (Nat.le_of_ble_eq_true rfl)⟩) (ws := [(mo_, .inr (25, fs3))]) (wc := [(mo_, .inr (25, fs3))]) (wr := []) hP hD hK hS hA [0] [] [] rfl rfl (by decide) (by decide) rfl (fun r_ u8 H locs hw9 hP hD hK hS => ?_)
  have hP : va_P G vwCl [(mo_, .inr (25, fs3))] H := hP
  have hD : va_D A [(mo_, .inr (25, fs3))] := hD
  have hK : va_K G vwCl [] s := hK
  refine W.widen (k := 161) (n := 21206) (Nat.le_of_ble_eq_true rfl) (Nat.le_of_ble_eq_true rfl) ?_
  obtain rfl : r_ = (sp_m_tell (((xs (Int32.toNatClampNeg 1)).toUInt32 % 65536).toInt32) (xs (Int32.toNatClampNeg 2)) (xs (Int32.toNatClampNeg 3)) (xs (Int32.toNatClampNeg 4)) (xs (Int32.toNatClampNeg 5))) := hw9
  refine lv_iload hx hb dL_law_1555 (lv_at hl 1 rfl) ?_
  refine lv_icmp_eq (tgt := 1562) hx hb dL_law_1557 (by decide) (fun _ => ?_) (fun h_ => absurd (tm_tell (((xs (Int32.toNatClampNeg 1)).toUInt32 % 65536).toInt32) (xs (Int32.toNatClampNeg 2)) (xs (Int32.toNatClampNeg 3)) (xs (Int32.toNatClampNeg 4)) (xs (Int32.toNatClampNeg 5))) h_)
  refine lv_iload hx hb dL_law_1562 (lv_at hl 1 rfl) ?_
  refine lv_if_ne (tgt := 1579) hx hb dL_law_1564 (by decide) (fun _ => ?_) (fun h_ => absurd h_ (by decide))
  refine lv_goto (tgt := 2435) hx hb dL_law_1579 (by decide) ?_
  exact law_tail hl0 hx hb hr hml hown hts hX hbl hlocks hT hAN hA hN hbA hAs hS (Nat.le_of_ble_eq_true rfl) (Nat.le_of_ble_eq_true rfl) (lv_sub hl [2, 7] rfl)

set_option maxHeartbeats 4000000 in
set_option maxRecDepth 100000 in
theorem law_state {p : Program} {l : Launch} {e : Env} {s : State} {m : MethodId} {below : List Frame} {meth : Method} {c : Code} {b : Nat} {xs : Nat → Int32} {A : Nat → Prop} (hl0 : l.stackTraces = false) (hx : p.tables.exec = Jvm.exec) (hb : c.code = cL_law) (hr : meth.sig.returnType = ret) (hml : c.maxLocals = 9) (hown : s.vm.findClass RL = some m.cls) (hts : ∀ w ∈ lw_all, w.before #[Value.ref b] s = true) (hX : va_X b 7 xs s s.heap) (hbl : b < s.heap.size) (hlocks : meth.locks = false) {N0 ade : Nat} {adB : Nat → Nat} (hT : BT N0 ade adB s) (hAN : ∀ q, A q → KA N0 q) (hA : ∀ q, s.heap.size ≤ q → A q) (hN : N0 ≤ s.heap.size) (hbA : ¬ A b) (hAs : ∀ q, A q → s.heap.size ≤ q) {G : va_G} {x : Nat} {dy : Nat} {ag : Nat} {qch : Nat} {qsh : Nat} {qsc : Nat} {pl : Nat} {qfl : Nat} {qac : Nat} {qcr : Nat} {qfg : Nat} {qgr : Nat} {qme : Nat} {qsf : Nat} {qsb : Nat} {qtu : Nat} {ou : Nat} {alo : ClassId} {fo : Nat → Int64} {mo_ : Nat} {ti : Nat} {mfl : Nat} {mcr : Nat} {mst : Nat} {mtu : Nat} {mfg : Nat} {mgr : Nat} {mme : Nat} {oud : Nat}  {H : Heap} {locs : List Loc} (hP : va_P G vwCl [(x, .inr (17, [.ref pl, .ref dy, .ref ag, .ref qch, .ref qsh, .ref qsc, .int 0, .int 0])), (pl, .inr (16, [.ref qfl, .ref qac, .ref qcr, .ref qfg, .ref qgr, .ref qme, .ref qsf, .ref qsb, .ref qtu, .int 0, .int 0, .int 0, .int 0, .int 0, .int 0, .int 0, .int 0, .int (-1), .int 1])), (ou, .inl (alo, 1, .inr (.inl fo))), (mo_, .inr (25, [.ref ti, .ref mfl, .ref mcr, .ref mst, .ref mtu, .int 1, .int 0, .int 1, .ref mfg, .ref mgr, .ref mme, .null, .int 0])), (mfg, .inr (5, [.int 0, .ref ade, .int 0]))] H) (hD : va_D A [(x, .inr (17, [.ref pl, .ref dy, .ref ag, .ref qch, .ref qsh, .ref qsc, .int 0, .int 0])), (pl, .inr (16, [.ref qfl, .ref qac, .ref qcr, .ref qfg, .ref qgr, .ref qme, .ref qsf, .ref qsb, .ref qtu, .int 0, .int 0, .int 0, .int 0, .int 0, .int 0, .int 0, .int 0, .int (-1), .int 1])), (ou, .inl (alo, 1, .inr (.inl fo))), (mo_, .inr (25, [.ref ti, .ref mfl, .ref mcr, .ref mst, .ref mtu, .int 1, .int 0, .int 1, .ref mfg, .ref mgr, .ref mme, .null, .int 0])), (mfg, .inr (5, [.int 0, .ref ade, .int 0]))]) (hK : va_K G vwCl [(alo, .long)] s) (hS : va_S A s.heap H locs) {ls : Array Slot} (hl : lv_has ls 9 [(5, .int 0), (4, .ref oud), (3, .ref ou), (2, .ref mo_), (1, .ref x), (0, .ref b)]) : W p l e room_1 s m #[Value.ref b] below meth c H locs 160 21200 (lw_Z below #[Value.ref b] s) (F0 m 1582 ls []) := by
  refine lv_aload_n hx hb dL_law_1582 rfl (lv_at hl 4 rfl) ?_
  refine lv_aload_n hx hb dL_law_1583 rfl (lv_at hl 5 rfl) ?_
  refine lv_iload hx hb dL_law_1584 (lv_at hl 0 rfl) ?_
  refine lv_iconst (v := 1) hx hb dL_law_1586 (by decide) ?_
  refine lv_iadd hx hb dL_law_1587 ?_
  refine lv_topi (fun v_ e_ => ?_)
  obtain rfl : v_ = 1 := e_.trans (by decide)
  refine va_sld hx hb hX hbl hbA hS (vin (by decide +kernel)) dL_law_1588 ?_
  refine lv_aload_n hx hb dL_law_1589 rfl (lv_at hl 2 rfl) ?_
  refine ka_i (vx_runSW (As := [.ref x, .int (xs (Int32.toNatClampNeg 1)), .ref ou]) (rest := []) ⟨hx, hb, hml, hown, hts⟩ (c_L_state l hl0 G N0 ade adB H.size x dy ag qch qsh qsc pl qfl qac qcr qfg qgr qme qsf qsb qtu (xs (Int32.toNatClampNeg 1)) ou alo fo) (vx_cwSW 3 hts (kgS q592 q593 q35 q594) rfl rfl rfl (by decide +kernel) ⟨(Nat.le_of_ble_eq_true rfl), (Nat.le_of_ble_eq_true rfl)⟩) (kpreS hP hD hK hAN hT hN hS [0, 1, 2] [0] (by decide) rfl rfl) rfl rfl hl.1 rfl (lv_room (Nat.le_of_ble_eq_true rfl)) dL_law_1590 ⟨(Nat.le_of_ble_eq_true rfl), (Nat.le_of_ble_eq_true rfl)⟩) (ws := [(x, .inr (17, [.ref pl, .ref dy, .ref ag, .ref qch, .ref qsh, .ref qsc, .int 0, .int 0])), (pl, .inr (16, [.ref qfl, .ref qac, .ref qcr, .ref qfg, .ref qgr, .ref qme, .ref qsf, .ref qsb, .ref qtu, .int 0, .int 0, .int 0, .int 0, .int 0, .int 0, .int 0, .int 0, .int (-1), .int 1])), (ou, .inl (alo, 1, .inr (.inl fo))), (mo_, .inr (25, [.ref ti, .ref mfl, .ref mcr, .ref mst, .ref mtu, .int 1, .int 0, .int 1, .ref mfg, .ref mgr, .ref mme, .null, .int 0])), (mfg, .inr (5, [.int 0, .ref ade, .int 0]))]) (wc := [(x, .inr (17, [.ref pl, .ref dy, .ref ag, .ref qch, .ref qsh, .ref qsc, .int 0, .int 0])), (pl, .inr (16, [.ref qfl, .ref qac, .ref qcr, .ref qfg, .ref qgr, .ref qme, .ref qsf, .ref qsb, .ref qtu, .int 0, .int 0, .int 0, .int 0, .int 0, .int 0, .int 0, .int 0, .int (-1), .int 1])), (ou, .inl (alo, 1, .inr (.inl fo)))]) (wr := [(mo_, .inr (25, [.ref ti, .ref mfl, .ref mcr, .ref mst, .ref mtu, .int 1, .int 0, .int 1, .ref mfg, .ref mgr, .ref mme, .null, .int 0])), (mfg, .inr (5, [.int 0, .ref ade, .int 0]))]) hP hD hK hS hA [0, 1, 2] [3, 4] [] rfl rfl (by decide) (by decide) rfl (fun r_ u1 H locs hw2 hP hD hK hS => ?_)
  have hP : va_P G vwCl [(mo_, .inr (25, [.ref ti, .ref mfl, .ref mcr, .ref mst, .ref mtu, .int 1, .int 0, .int 1, .ref mfg, .ref mgr, .ref mme, .null, .int 0])), (mfg, .inr (5, [.int 0, .ref ade, .int 0]))] H := hP
  have hD : va_D A [(mo_, .inr (25, [.ref ti, .ref mfl, .ref mcr, .ref mst, .ref mtu, .int 1, .int 0, .int 1, .ref mfg, .ref mgr, .ref mme, .null, .int 0])), (mfg, .inr (5, [.int 0, .ref ade, .int 0]))] := hD
  have hK : va_K G vwCl [] s := hK
  refine W.widen (k := 161) (n := 21206) (Nat.le_of_ble_eq_true rfl) (Nat.le_of_ble_eq_true rfl) ?_
  obtain rfl : r_ = 1 := hw2
  refine lv_istore (lv' := [(6, .int 1), (5, .int 0), (4, .ref oud), (3, .ref ou), (2, .ref mo_), (1, .ref x), (0, .ref b)]) hx hb dL_law_1593 hl (by decide) rfl (fun ls hl => ?_)
  refine lv_aload_n hx hb dL_law_1595 rfl (lv_at hl 4 rfl) ?_
  refine lv_aload_n hx hb dL_law_1596 rfl (lv_at hl 6 rfl) ?_
  refine lv_iload hx hb dL_law_1597 (lv_at hl 1 rfl) ?_
  refine lv_iconst (v := 1) hx hb dL_law_1599 (by decide) ?_
  refine lv_iadd hx hb dL_law_1600 ?_
  refine lv_topi (fun v_ e_ => ?_)
  obtain rfl : v_ = 1 := e_.trans (by decide)
  refine va_sld hx hb hX hbl hbA hS (vin (by decide +kernel)) dL_law_1601 ?_
  refine ka_i (va_runV (As := [.int (xs (Int32.toNatClampNeg 1))]) (rest := []) ⟨hx, hb, hml, hown, hts⟩ (c_m_state l G N0 ade adB H.size mo_ ti mfl mcr mst mtu mfg mgr mme 0 (xs (Int32.toNatClampNeg 1))) (cwV 1 hts (kgV q927 q928 q929 q49 q930) rfl rfl rfl (by decide +kernel) ⟨(Nat.le_of_ble_eq_true rfl), (Nat.le_of_ble_eq_true rfl)⟩) (kpreV (ci := 25) (q0 := 0) hP hD hK hAN hT hN hS [0, 1] [] (by decide) rfl rfl rfl rfl rfl) rfl rfl hl.1 rfl (lv_room (Nat.le_of_ble_eq_true rfl)) dL_law_1602 ⟨(Nat.le_of_ble_eq_true rfl), (Nat.le_of_ble_eq_true rfl)⟩) (ws := [(mo_, .inr (25, [.ref ti, .ref mfl, .ref mcr, .ref mst, .ref mtu, .int 1, .int 0, .int 1, .ref mfg, .ref mgr, .ref mme, .null, .int 0])), (mfg, .inr (5, [.int 0, .ref ade, .int 0]))]) (wc := [(mo_, .inr (25, [.ref ti, .ref mfl, .ref mcr, .ref mst, .ref mtu, .int 1, .int 0, .int 1, .ref mfg, .ref mgr, .ref mme, .null, .int 0])), (mfg, .inr (5, [.int 0, .ref ade, .int 0]))]) (wr := []) hP hD hK hS hA [0, 1] [] [] rfl rfl (by decide) (by decide) rfl (fun r_ u4 H locs hw5 hP hD hK hS => ?_)
  obtain ⟨fs3, rfl⟩ : ∃ z_, z_ = u4 := ⟨_, rfl⟩
  have hP : va_P G vwCl [(mo_, .inr (25, fs3))] H := hP
  have hD : va_D A [(mo_, .inr (25, fs3))] := hD
  have hK : va_K G vwCl [] s := hK
  refine W.widen (k := 161) (n := 21206) (Nat.le_of_ble_eq_true rfl) (Nat.le_of_ble_eq_true rfl) ?_
  have hf6 : fs3[12]? = some (.int (sp_m_state (xs (Int32.toNatClampNeg 1)))) := hw5.2
  obtain rfl : r_ = (sv_m_state (xs (Int32.toNatClampNeg 1))) := hw5.1
  refine lv_istore (lv' := [(7, .int (sv_m_state (xs (Int32.toNatClampNeg 1)))), (6, .int 1), (5, .int 0), (4, .ref oud), (3, .ref ou), (2, .ref mo_), (1, .ref x), (0, .ref b)]) hx hb dL_law_1605 hl (by decide) rfl (fun ls hl => ?_)
  refine lv_aload_n hx hb dL_law_1607 rfl (lv_at hl 5 rfl) ?_
  refine ka_i (va_runV (As := []) (rest := []) ⟨hx, hb, hml, hown, hts⟩ (c_m_thrown l G N0 ade adB H.size mo_ fs3 (sp_m_state (xs (Int32.toNatClampNeg 1))) hf6) (cwV 0 hts (kgV q748 q749 q750 q49 q751) rfl rfl rfl (by decide +kernel) ⟨(Nat.le_of_ble_eq_true rfl), (Nat.le_of_ble_eq_true rfl)⟩) (kpreV (ci := 25) (q0 := 0) hP hD hK hAN hT hN hS [0] [] (by decide) rfl rfl rfl rfl rfl) rfl rfl hl.1 rfl (lv_room (Nat.le_of_ble_eq_true rfl)) dL_law_1608 ⟨(Nat.le_of_ble_eq_true rfl), (Nat.le_of_ble_eq_true rfl)⟩) (ws := [(mo_, .inr (25, fs3))]) (wc := [(mo_, .inr (25, fs3))]) (wr := []) hP hD hK hS hA [0] [] [] rfl rfl (by decide) (by decide) rfl (fun r_ u8 H locs hw9 hP hD hK hS => ?_)
  have hP : va_P G vwCl [(mo_, .inr (25, fs3))] H := hP
  have hD : va_D A [(mo_, .inr (25, fs3))] := hD
  have hK : va_K G vwCl [] s := hK
  refine W.widen (k := 161) (n := 21206) (Nat.le_of_ble_eq_true rfl) (Nat.le_of_ble_eq_true rfl) ?_
  obtain rfl : r_ = (sp_m_state (xs (Int32.toNatClampNeg 1))) := hw9
  refine lv_iload hx hb dL_law_1611 (lv_at hl 1 rfl) ?_
  refine lv_icmp_eq (tgt := 1618) hx hb dL_law_1613 (by decide) (fun _ => ?_) (fun h_ => absurd (show (sp_m_state (xs (Int32.toNatClampNeg 1))) = 1 from rfl) h_)
  refine lv_iload hx hb dL_law_1618 (lv_at hl 1 rfl) ?_
  refine lv_if_ne (tgt := 1635) hx hb dL_law_1620 (by decide) (fun _ => ?_) (fun h_ => absurd h_ (by decide))
  refine lv_goto (tgt := 2435) hx hb dL_law_1635 (by decide) ?_
  exact law_tail hl0 hx hb hr hml hown hts hX hbl hlocks hT hAN hA hN hbA hAs hS (Nat.le_of_ble_eq_true rfl) (Nat.le_of_ble_eq_true rfl) (lv_sub hl [2, 7] rfl)

set_option maxHeartbeats 4000000 in
set_option maxRecDepth 100000 in
theorem law_minuteOf {p : Program} {l : Launch} {e : Env} {s : State} {m : MethodId} {below : List Frame} {meth : Method} {c : Code} {b : Nat} {xs : Nat → Int32} {A : Nat → Prop} (hl0 : l.stackTraces = false) (hx : p.tables.exec = Jvm.exec) (hb : c.code = cL_law) (hr : meth.sig.returnType = ret) (hml : c.maxLocals = 9) (hown : s.vm.findClass RL = some m.cls) (hts : ∀ w ∈ lw_all, w.before #[Value.ref b] s = true) (hX : va_X b 7 xs s s.heap) (hbl : b < s.heap.size) (hlocks : meth.locks = false) {N0 ade : Nat} {adB : Nat → Nat} (hT : BT N0 ade adB s) (hAN : ∀ q, A q → KA N0 q) (hA : ∀ q, s.heap.size ≤ q → A q) (hN : N0 ≤ s.heap.size) (hbA : ¬ A b) (hAs : ∀ q, A q → s.heap.size ≤ q) {G : va_G} {x : Nat} {dy : Nat} {ag : Nat} {qch : Nat} {qsh : Nat} {qsc : Nat} {pl : Nat} {qfl : Nat} {qac : Nat} {qcr : Nat} {qfg : Nat} {qgr : Nat} {qme : Nat} {qsf : Nat} {qsb : Nat} {qtu : Nat} {ou : Nat} {alo : ClassId} {fo : Nat → Int64} {mo_ : Nat} {ti : Nat} {mfl : Nat} {mcr : Nat} {mst : Nat} {mtu : Nat} {mfg : Nat} {mgr : Nat} {mme : Nat} {oud : Nat}  {H : Heap} {locs : List Loc} (hP : va_P G vwCl [(x, .inr (17, [.ref pl, .ref dy, .ref ag, .ref qch, .ref qsh, .ref qsc, .int 0, .int 0])), (pl, .inr (16, [.ref qfl, .ref qac, .ref qcr, .ref qfg, .ref qgr, .ref qme, .ref qsf, .ref qsb, .ref qtu, .int 0, .int 0, .int 0, .int 0, .int 0, .int 0, .int 0, .int 0, .int (-1), .int 1])), (ou, .inl (alo, 1, .inr (.inl fo))), (mo_, .inr (25, [.ref ti, .ref mfl, .ref mcr, .ref mst, .ref mtu, .int 1, .int 0, .int 1, .ref mfg, .ref mgr, .ref mme, .null, .int 0])), (mfg, .inr (5, [.int 0, .ref ade, .int 0]))] H) (hD : va_D A [(x, .inr (17, [.ref pl, .ref dy, .ref ag, .ref qch, .ref qsh, .ref qsc, .int 0, .int 0])), (pl, .inr (16, [.ref qfl, .ref qac, .ref qcr, .ref qfg, .ref qgr, .ref qme, .ref qsf, .ref qsb, .ref qtu, .int 0, .int 0, .int 0, .int 0, .int 0, .int 0, .int 0, .int 0, .int (-1), .int 1])), (ou, .inl (alo, 1, .inr (.inl fo))), (mo_, .inr (25, [.ref ti, .ref mfl, .ref mcr, .ref mst, .ref mtu, .int 1, .int 0, .int 1, .ref mfg, .ref mgr, .ref mme, .null, .int 0])), (mfg, .inr (5, [.int 0, .ref ade, .int 0]))]) (hK : va_K G vwCl [(alo, .long)] s) (hS : va_S A s.heap H locs) {ls : Array Slot} (hl : lv_has ls 9 [(5, .int 0), (4, .ref oud), (3, .ref ou), (2, .ref mo_), (1, .ref x), (0, .ref b)]) : W p l e room_1 s m #[Value.ref b] below meth c H locs 160 21200 (lw_Z below #[Value.ref b] s) (F0 m 1638 ls []) := by
  refine lv_aload_n hx hb dL_law_1638 rfl (lv_at hl 4 rfl) ?_
  refine lv_aload_n hx hb dL_law_1639 rfl (lv_at hl 5 rfl) ?_
  refine lv_iload hx hb dL_law_1640 (lv_at hl 0 rfl) ?_
  refine lv_iconst (v := 1) hx hb dL_law_1642 (by decide) ?_
  refine lv_iadd hx hb dL_law_1643 ?_
  refine lv_topi (fun v_ e_ => ?_)
  obtain rfl : v_ = 1 := e_.trans (by decide)
  refine va_sld hx hb hX hbl hbA hS (vin (by decide +kernel)) dL_law_1644 ?_
  refine lv_aload_n hx hb dL_law_1645 rfl (lv_at hl 5 rfl) ?_
  refine lv_iload hx hb dL_law_1646 (lv_at hl 0 rfl) ?_
  refine lv_iconst (v := 2) hx hb dL_law_1648 (by decide) ?_
  refine lv_iadd hx hb dL_law_1649 ?_
  refine lv_topi (fun v_ e_ => ?_)
  obtain rfl : v_ = 2 := e_.trans (by decide)
  refine va_sld hx hb hX hbl hbA hS (vin (by decide +kernel)) dL_law_1650 ?_
  refine lv_i2c (v := ((xs (Int32.toNatClampNeg 2)).toUInt32 % 65536).toInt32) hx hb dL_law_1651 rfl ?_
  refine lv_aload_n hx hb dL_law_1652 rfl (lv_at hl 2 rfl) ?_
  refine ka_i (vx_runSW (As := [.ref x, .int (xs (Int32.toNatClampNeg 1)), .int (((xs (Int32.toNatClampNeg 2)).toUInt32 % 65536).toInt32), .ref ou]) (rest := []) ⟨hx, hb, hml, hown, hts⟩ (c_L_minuteOf l hl0 G N0 ade adB H.size x dy ag qch qsh qsc pl qfl qac qcr qfg qgr qme qsf qsb qtu (xs (Int32.toNatClampNeg 1)) (((xs (Int32.toNatClampNeg 2)).toUInt32 % 65536).toInt32) ou alo fo) (vx_cwSW 4 hts (kgS q599 q600 q35 q601) rfl rfl rfl (by decide +kernel) ⟨(Nat.le_of_ble_eq_true rfl), (Nat.le_of_ble_eq_true rfl)⟩) (kpreS hP hD hK hAN hT hN hS [0, 1, 2] [0] (by decide) rfl rfl) rfl rfl hl.1 rfl (lv_room (Nat.le_of_ble_eq_true rfl)) dL_law_1653 ⟨(Nat.le_of_ble_eq_true rfl), (Nat.le_of_ble_eq_true rfl)⟩) (ws := [(x, .inr (17, [.ref pl, .ref dy, .ref ag, .ref qch, .ref qsh, .ref qsc, .int 0, .int 0])), (pl, .inr (16, [.ref qfl, .ref qac, .ref qcr, .ref qfg, .ref qgr, .ref qme, .ref qsf, .ref qsb, .ref qtu, .int 0, .int 0, .int 0, .int 0, .int 0, .int 0, .int 0, .int 0, .int (-1), .int 1])), (ou, .inl (alo, 1, .inr (.inl fo))), (mo_, .inr (25, [.ref ti, .ref mfl, .ref mcr, .ref mst, .ref mtu, .int 1, .int 0, .int 1, .ref mfg, .ref mgr, .ref mme, .null, .int 0])), (mfg, .inr (5, [.int 0, .ref ade, .int 0]))]) (wc := [(x, .inr (17, [.ref pl, .ref dy, .ref ag, .ref qch, .ref qsh, .ref qsc, .int 0, .int 0])), (pl, .inr (16, [.ref qfl, .ref qac, .ref qcr, .ref qfg, .ref qgr, .ref qme, .ref qsf, .ref qsb, .ref qtu, .int 0, .int 0, .int 0, .int 0, .int 0, .int 0, .int 0, .int 0, .int (-1), .int 1])), (ou, .inl (alo, 1, .inr (.inl fo)))]) (wr := [(mo_, .inr (25, [.ref ti, .ref mfl, .ref mcr, .ref mst, .ref mtu, .int 1, .int 0, .int 1, .ref mfg, .ref mgr, .ref mme, .null, .int 0])), (mfg, .inr (5, [.int 0, .ref ade, .int 0]))]) hP hD hK hS hA [0, 1, 2] [3, 4] [] rfl rfl (by decide) (by decide) rfl (fun r_ u1 H locs hw2 hP hD hK hS => ?_)
  have hP : va_P G vwCl [(mo_, .inr (25, [.ref ti, .ref mfl, .ref mcr, .ref mst, .ref mtu, .int 1, .int 0, .int 1, .ref mfg, .ref mgr, .ref mme, .null, .int 0])), (mfg, .inr (5, [.int 0, .ref ade, .int 0]))] H := hP
  have hD : va_D A [(mo_, .inr (25, [.ref ti, .ref mfl, .ref mcr, .ref mst, .ref mtu, .int 1, .int 0, .int 1, .ref mfg, .ref mgr, .ref mme, .null, .int 0])), (mfg, .inr (5, [.int 0, .ref ade, .int 0]))] := hD
  have hK : va_K G vwCl [] s := hK
  refine W.widen (k := 161) (n := 21206) (Nat.le_of_ble_eq_true rfl) (Nat.le_of_ble_eq_true rfl) ?_
  obtain rfl : r_ = 1 := hw2
  refine lv_istore (lv' := [(6, .int 1), (5, .int 0), (4, .ref oud), (3, .ref ou), (2, .ref mo_), (1, .ref x), (0, .ref b)]) hx hb dL_law_1656 hl (by decide) rfl (fun ls hl => ?_)
  refine lv_aload_n hx hb dL_law_1658 rfl (lv_at hl 4 rfl) ?_
  refine lv_aload_n hx hb dL_law_1659 rfl (lv_at hl 6 rfl) ?_
  refine lv_iload hx hb dL_law_1660 (lv_at hl 1 rfl) ?_
  refine lv_iconst (v := 1) hx hb dL_law_1662 (by decide) ?_
  refine lv_iadd hx hb dL_law_1663 ?_
  refine lv_topi (fun v_ e_ => ?_)
  obtain rfl : v_ = 1 := e_.trans (by decide)
  refine va_sld hx hb hX hbl hbA hS (vin (by decide +kernel)) dL_law_1664 ?_
  refine lv_aload_n hx hb dL_law_1665 rfl (lv_at hl 6 rfl) ?_
  refine lv_iload hx hb dL_law_1666 (lv_at hl 1 rfl) ?_
  refine lv_iconst (v := 2) hx hb dL_law_1668 (by decide) ?_
  refine lv_iadd hx hb dL_law_1669 ?_
  refine lv_topi (fun v_ e_ => ?_)
  obtain rfl : v_ = 2 := e_.trans (by decide)
  refine va_sld hx hb hX hbl hbA hS (vin (by decide +kernel)) dL_law_1670 ?_
  refine lv_i2c (v := ((xs (Int32.toNatClampNeg 2)).toUInt32 % 65536).toInt32) hx hb dL_law_1671 rfl ?_
  refine ka_i (va_runV (As := [.int (xs (Int32.toNatClampNeg 1)), .int (((xs (Int32.toNatClampNeg 2)).toUInt32 % 65536).toInt32)]) (rest := []) ⟨hx, hb, hml, hown, hts⟩ (c_m_minuteOf l G N0 ade adB H.size mo_ ti mfl mcr mst mtu mfg mgr mme 0 (xs (Int32.toNatClampNeg 1)) (((xs (Int32.toNatClampNeg 2)).toUInt32 % 65536).toInt32)) (cwV 2 hts (kgV q1051 q1052 q1053 q49 q1054) rfl rfl rfl (by decide +kernel) ⟨(Nat.le_of_ble_eq_true rfl), (Nat.le_of_ble_eq_true rfl)⟩) (kpreV (ci := 25) (q0 := 0) hP hD hK hAN hT hN hS [0, 1] [] (by decide) rfl rfl rfl rfl rfl) rfl rfl hl.1 rfl (lv_room (Nat.le_of_ble_eq_true rfl)) dL_law_1672 ⟨(Nat.le_of_ble_eq_true rfl), (Nat.le_of_ble_eq_true rfl)⟩) (ws := [(mo_, .inr (25, [.ref ti, .ref mfl, .ref mcr, .ref mst, .ref mtu, .int 1, .int 0, .int 1, .ref mfg, .ref mgr, .ref mme, .null, .int 0])), (mfg, .inr (5, [.int 0, .ref ade, .int 0]))]) (wc := [(mo_, .inr (25, [.ref ti, .ref mfl, .ref mcr, .ref mst, .ref mtu, .int 1, .int 0, .int 1, .ref mfg, .ref mgr, .ref mme, .null, .int 0])), (mfg, .inr (5, [.int 0, .ref ade, .int 0]))]) (wr := []) hP hD hK hS hA [0, 1] [] [] rfl rfl (by decide) (by decide) rfl (fun r_ u4 H locs hw5 hP hD hK hS => ?_)
  obtain ⟨fs3, rfl⟩ : ∃ z_, z_ = u4 := ⟨_, rfl⟩
  have hP : va_P G vwCl [(mo_, .inr (25, fs3))] H := hP
  have hD : va_D A [(mo_, .inr (25, fs3))] := hD
  have hK : va_K G vwCl [] s := hK
  refine W.widen (k := 161) (n := 21206) (Nat.le_of_ble_eq_true rfl) (Nat.le_of_ble_eq_true rfl) ?_
  have hf6 : fs3[12]? = some (.int (sp_m_minuteOf (xs (Int32.toNatClampNeg 1)) (((xs (Int32.toNatClampNeg 2)).toUInt32 % 65536).toInt32))) := hw5.2
  obtain rfl : r_ = (sv_m_minuteOf (xs (Int32.toNatClampNeg 1)) (((xs (Int32.toNatClampNeg 2)).toUInt32 % 65536).toInt32)) := hw5.1
  refine lv_istore (lv' := [(7, .int (sv_m_minuteOf (xs (Int32.toNatClampNeg 1)) (((xs (Int32.toNatClampNeg 2)).toUInt32 % 65536).toInt32))), (6, .int 1), (5, .int 0), (4, .ref oud), (3, .ref ou), (2, .ref mo_), (1, .ref x), (0, .ref b)]) hx hb dL_law_1675 hl (by decide) rfl (fun ls hl => ?_)
  refine lv_aload_n hx hb dL_law_1677 rfl (lv_at hl 5 rfl) ?_
  refine ka_i (va_runV (As := []) (rest := []) ⟨hx, hb, hml, hown, hts⟩ (c_m_thrown l G N0 ade adB H.size mo_ fs3 (sp_m_minuteOf (xs (Int32.toNatClampNeg 1)) (((xs (Int32.toNatClampNeg 2)).toUInt32 % 65536).toInt32)) hf6) (cwV 0 hts (kgV q748 q749 q750 q49 q751) rfl rfl rfl (by decide +kernel) ⟨(Nat.le_of_ble_eq_true rfl), (Nat.le_of_ble_eq_true rfl)⟩) (kpreV (ci := 25) (q0 := 0) hP hD hK hAN hT hN hS [0] [] (by decide) rfl rfl rfl rfl rfl) rfl rfl hl.1 rfl (lv_room (Nat.le_of_ble_eq_true rfl)) dL_law_1678 ⟨(Nat.le_of_ble_eq_true rfl), (Nat.le_of_ble_eq_true rfl)⟩) (ws := [(mo_, .inr (25, fs3))]) (wc := [(mo_, .inr (25, fs3))]) (wr := []) hP hD hK hS hA [0] [] [] rfl rfl (by decide) (by decide) rfl (fun r_ u8 H locs hw9 hP hD hK hS => ?_)
  have hP : va_P G vwCl [(mo_, .inr (25, fs3))] H := hP
  have hD : va_D A [(mo_, .inr (25, fs3))] := hD
  have hK : va_K G vwCl [] s := hK
  refine W.widen (k := 161) (n := 21206) (Nat.le_of_ble_eq_true rfl) (Nat.le_of_ble_eq_true rfl) ?_
  obtain rfl : r_ = (sp_m_minuteOf (xs (Int32.toNatClampNeg 1)) (((xs (Int32.toNatClampNeg 2)).toUInt32 % 65536).toInt32)) := hw9
  refine lv_iload hx hb dL_law_1681 (lv_at hl 1 rfl) ?_
  refine lv_icmp_eq (tgt := 1688) hx hb dL_law_1683 (by decide) (fun _ => ?_) (fun h_ => absurd (show (sp_m_minuteOf (xs (Int32.toNatClampNeg 1)) (((xs (Int32.toNatClampNeg 2)).toUInt32 % 65536).toInt32)) = 1 from rfl) h_)
  refine lv_iload hx hb dL_law_1688 (lv_at hl 1 rfl) ?_
  refine lv_if_ne (tgt := 1705) hx hb dL_law_1690 (by decide) (fun _ => ?_) (fun h_ => absurd h_ (by decide))
  refine lv_goto (tgt := 2435) hx hb dL_law_1705 (by decide) ?_
  exact law_tail hl0 hx hb hr hml hown hts hX hbl hlocks hT hAN hA hN hbA hAs hS (Nat.le_of_ble_eq_true rfl) (Nat.le_of_ble_eq_true rfl) (lv_sub hl [2, 7] rfl)

set_option maxHeartbeats 4000000 in
set_option maxRecDepth 100000 in
theorem law_standOf {p : Program} {l : Launch} {e : Env} {s : State} {m : MethodId} {below : List Frame} {meth : Method} {c : Code} {b : Nat} {xs : Nat → Int32} {A : Nat → Prop} (hl0 : l.stackTraces = false) (hx : p.tables.exec = Jvm.exec) (hb : c.code = cL_law) (hr : meth.sig.returnType = ret) (hml : c.maxLocals = 9) (hown : s.vm.findClass RL = some m.cls) (hts : ∀ w ∈ lw_all, w.before #[Value.ref b] s = true) (hX : va_X b 7 xs s s.heap) (hbl : b < s.heap.size) (hlocks : meth.locks = false) {N0 ade : Nat} {adB : Nat → Nat} (hT : BT N0 ade adB s) (hAN : ∀ q, A q → KA N0 q) (hA : ∀ q, s.heap.size ≤ q → A q) (hN : N0 ≤ s.heap.size) (hbA : ¬ A b) (hAs : ∀ q, A q → s.heap.size ≤ q) {G : va_G} {x : Nat} {dy : Nat} {ag : Nat} {qch : Nat} {qsh : Nat} {qsc : Nat} {pl : Nat} {qfl : Nat} {qac : Nat} {qcr : Nat} {qfg : Nat} {qgr : Nat} {qme : Nat} {qsf : Nat} {qsb : Nat} {qtu : Nat} {ou : Nat} {alo : ClassId} {fo : Nat → Int64} {mo_ : Nat} {ti : Nat} {mfl : Nat} {mcr : Nat} {mst : Nat} {mtu : Nat} {mfg : Nat} {mgr : Nat} {mme : Nat} {oud : Nat}  {H : Heap} {locs : List Loc} (hP : va_P G vwCl [(x, .inr (17, [.ref pl, .ref dy, .ref ag, .ref qch, .ref qsh, .ref qsc, .int 0, .int 0])), (pl, .inr (16, [.ref qfl, .ref qac, .ref qcr, .ref qfg, .ref qgr, .ref qme, .ref qsf, .ref qsb, .ref qtu, .int 0, .int 0, .int 0, .int 0, .int 0, .int 0, .int 0, .int 0, .int (-1), .int 1])), (ou, .inl (alo, 1, .inr (.inl fo))), (mo_, .inr (25, [.ref ti, .ref mfl, .ref mcr, .ref mst, .ref mtu, .int 1, .int 0, .int 1, .ref mfg, .ref mgr, .ref mme, .null, .int 0])), (mfg, .inr (5, [.int 0, .ref ade, .int 0]))] H) (hD : va_D A [(x, .inr (17, [.ref pl, .ref dy, .ref ag, .ref qch, .ref qsh, .ref qsc, .int 0, .int 0])), (pl, .inr (16, [.ref qfl, .ref qac, .ref qcr, .ref qfg, .ref qgr, .ref qme, .ref qsf, .ref qsb, .ref qtu, .int 0, .int 0, .int 0, .int 0, .int 0, .int 0, .int 0, .int 0, .int (-1), .int 1])), (ou, .inl (alo, 1, .inr (.inl fo))), (mo_, .inr (25, [.ref ti, .ref mfl, .ref mcr, .ref mst, .ref mtu, .int 1, .int 0, .int 1, .ref mfg, .ref mgr, .ref mme, .null, .int 0])), (mfg, .inr (5, [.int 0, .ref ade, .int 0]))]) (hK : va_K G vwCl [(alo, .long)] s) (hS : va_S A s.heap H locs) {ls : Array Slot} (hl : lv_has ls 9 [(5, .int 0), (4, .ref oud), (3, .ref ou), (2, .ref mo_), (1, .ref x), (0, .ref b)]) : W p l e room_1 s m #[Value.ref b] below meth c H locs 160 21200 (lw_Z below #[Value.ref b] s) (F0 m 1708 ls []) := by
  refine lv_aload_n hx hb dL_law_1708 rfl (lv_at hl 4 rfl) ?_
  refine lv_aload_n hx hb dL_law_1709 rfl (lv_at hl 5 rfl) ?_
  refine lv_iload hx hb dL_law_1710 (lv_at hl 0 rfl) ?_
  refine lv_iconst (v := 1) hx hb dL_law_1712 (by decide) ?_
  refine lv_iadd hx hb dL_law_1713 ?_
  refine lv_topi (fun v_ e_ => ?_)
  obtain rfl : v_ = 1 := e_.trans (by decide)
  refine va_sld hx hb hX hbl hbA hS (vin (by decide +kernel)) dL_law_1714 ?_
  refine lv_aload_n hx hb dL_law_1715 rfl (lv_at hl 2 rfl) ?_
  refine ka_i (vx_runSW (As := [.ref x, .int (xs (Int32.toNatClampNeg 1)), .ref ou]) (rest := []) ⟨hx, hb, hml, hown, hts⟩ (c_L_standOf l hl0 G N0 ade adB H.size x dy ag qch qsh qsc pl qfl qac qcr qfg qgr qme qsf qsb qtu (xs (Int32.toNatClampNeg 1)) ou alo fo) (vx_cwSW 3 hts (kgS q609 q610 q35 q611) rfl rfl rfl (by decide +kernel) ⟨(Nat.le_of_ble_eq_true rfl), (Nat.le_of_ble_eq_true rfl)⟩) (kpreS hP hD hK hAN hT hN hS [0, 1, 2] [0] (by decide) rfl rfl) rfl rfl hl.1 rfl (lv_room (Nat.le_of_ble_eq_true rfl)) dL_law_1716 ⟨(Nat.le_of_ble_eq_true rfl), (Nat.le_of_ble_eq_true rfl)⟩) (ws := [(x, .inr (17, [.ref pl, .ref dy, .ref ag, .ref qch, .ref qsh, .ref qsc, .int 0, .int 0])), (pl, .inr (16, [.ref qfl, .ref qac, .ref qcr, .ref qfg, .ref qgr, .ref qme, .ref qsf, .ref qsb, .ref qtu, .int 0, .int 0, .int 0, .int 0, .int 0, .int 0, .int 0, .int 0, .int (-1), .int 1])), (ou, .inl (alo, 1, .inr (.inl fo))), (mo_, .inr (25, [.ref ti, .ref mfl, .ref mcr, .ref mst, .ref mtu, .int 1, .int 0, .int 1, .ref mfg, .ref mgr, .ref mme, .null, .int 0])), (mfg, .inr (5, [.int 0, .ref ade, .int 0]))]) (wc := [(x, .inr (17, [.ref pl, .ref dy, .ref ag, .ref qch, .ref qsh, .ref qsc, .int 0, .int 0])), (pl, .inr (16, [.ref qfl, .ref qac, .ref qcr, .ref qfg, .ref qgr, .ref qme, .ref qsf, .ref qsb, .ref qtu, .int 0, .int 0, .int 0, .int 0, .int 0, .int 0, .int 0, .int 0, .int (-1), .int 1])), (ou, .inl (alo, 1, .inr (.inl fo)))]) (wr := [(mo_, .inr (25, [.ref ti, .ref mfl, .ref mcr, .ref mst, .ref mtu, .int 1, .int 0, .int 1, .ref mfg, .ref mgr, .ref mme, .null, .int 0])), (mfg, .inr (5, [.int 0, .ref ade, .int 0]))]) hP hD hK hS hA [0, 1, 2] [3, 4] [] rfl rfl (by decide) (by decide) rfl (fun r_ u1 H locs hw2 hP hD hK hS => ?_)
  have hP : va_P G vwCl [(mo_, .inr (25, [.ref ti, .ref mfl, .ref mcr, .ref mst, .ref mtu, .int 1, .int 0, .int 1, .ref mfg, .ref mgr, .ref mme, .null, .int 0])), (mfg, .inr (5, [.int 0, .ref ade, .int 0]))] H := hP
  have hD : va_D A [(mo_, .inr (25, [.ref ti, .ref mfl, .ref mcr, .ref mst, .ref mtu, .int 1, .int 0, .int 1, .ref mfg, .ref mgr, .ref mme, .null, .int 0])), (mfg, .inr (5, [.int 0, .ref ade, .int 0]))] := hD
  have hK : va_K G vwCl [] s := hK
  refine W.widen (k := 161) (n := 21206) (Nat.le_of_ble_eq_true rfl) (Nat.le_of_ble_eq_true rfl) ?_
  obtain rfl : r_ = 1 := hw2
  refine lv_istore (lv' := [(6, .int 1), (5, .int 0), (4, .ref oud), (3, .ref ou), (2, .ref mo_), (1, .ref x), (0, .ref b)]) hx hb dL_law_1719 hl (by decide) rfl (fun ls hl => ?_)
  refine lv_aload_n hx hb dL_law_1721 rfl (lv_at hl 4 rfl) ?_
  refine lv_aload_n hx hb dL_law_1722 rfl (lv_at hl 6 rfl) ?_
  refine lv_iload hx hb dL_law_1723 (lv_at hl 1 rfl) ?_
  refine lv_iconst (v := 1) hx hb dL_law_1725 (by decide) ?_
  refine lv_iadd hx hb dL_law_1726 ?_
  refine lv_topi (fun v_ e_ => ?_)
  obtain rfl : v_ = 1 := e_.trans (by decide)
  refine va_sld hx hb hX hbl hbA hS (vin (by decide +kernel)) dL_law_1727 ?_
  refine ka_i (va_runV (As := [.int (xs (Int32.toNatClampNeg 1))]) (rest := []) ⟨hx, hb, hml, hown, hts⟩ (c_m_standOf l G N0 ade adB H.size mo_ ti mfl mcr mst mtu mfg mgr mme 0 (xs (Int32.toNatClampNeg 1))) (cwV 1 hts (kgV q1056 q1057 q1058 q49 q1059) rfl rfl rfl (by decide +kernel) ⟨(Nat.le_of_ble_eq_true rfl), (Nat.le_of_ble_eq_true rfl)⟩) (kpreV (ci := 25) (q0 := 0) hP hD hK hAN hT hN hS [0, 1] [] (by decide) rfl rfl rfl rfl rfl) rfl rfl hl.1 rfl (lv_room (Nat.le_of_ble_eq_true rfl)) dL_law_1728 ⟨(Nat.le_of_ble_eq_true rfl), (Nat.le_of_ble_eq_true rfl)⟩) (ws := [(mo_, .inr (25, [.ref ti, .ref mfl, .ref mcr, .ref mst, .ref mtu, .int 1, .int 0, .int 1, .ref mfg, .ref mgr, .ref mme, .null, .int 0])), (mfg, .inr (5, [.int 0, .ref ade, .int 0]))]) (wc := [(mo_, .inr (25, [.ref ti, .ref mfl, .ref mcr, .ref mst, .ref mtu, .int 1, .int 0, .int 1, .ref mfg, .ref mgr, .ref mme, .null, .int 0])), (mfg, .inr (5, [.int 0, .ref ade, .int 0]))]) (wr := []) hP hD hK hS hA [0, 1] [] [] rfl rfl (by decide) (by decide) rfl (fun r_ u4 H locs hw5 hP hD hK hS => ?_)
  obtain ⟨fs3, rfl⟩ : ∃ z_, z_ = u4 := ⟨_, rfl⟩
  have hP : va_P G vwCl [(mo_, .inr (25, fs3))] H := hP
  have hD : va_D A [(mo_, .inr (25, fs3))] := hD
  have hK : va_K G vwCl [] s := hK
  refine W.widen (k := 161) (n := 21206) (Nat.le_of_ble_eq_true rfl) (Nat.le_of_ble_eq_true rfl) ?_
  have hf6 : fs3[12]? = some (.int (sp_m_standOf (xs (Int32.toNatClampNeg 1)))) := hw5.2
  obtain rfl : r_ = (sv_m_standOf (xs (Int32.toNatClampNeg 1))) := hw5.1
  refine lv_istore (lv' := [(7, .int (sv_m_standOf (xs (Int32.toNatClampNeg 1)))), (6, .int 1), (5, .int 0), (4, .ref oud), (3, .ref ou), (2, .ref mo_), (1, .ref x), (0, .ref b)]) hx hb dL_law_1731 hl (by decide) rfl (fun ls hl => ?_)
  refine lv_aload_n hx hb dL_law_1733 rfl (lv_at hl 5 rfl) ?_
  refine ka_i (va_runV (As := []) (rest := []) ⟨hx, hb, hml, hown, hts⟩ (c_m_thrown l G N0 ade adB H.size mo_ fs3 (sp_m_standOf (xs (Int32.toNatClampNeg 1))) hf6) (cwV 0 hts (kgV q748 q749 q750 q49 q751) rfl rfl rfl (by decide +kernel) ⟨(Nat.le_of_ble_eq_true rfl), (Nat.le_of_ble_eq_true rfl)⟩) (kpreV (ci := 25) (q0 := 0) hP hD hK hAN hT hN hS [0] [] (by decide) rfl rfl rfl rfl rfl) rfl rfl hl.1 rfl (lv_room (Nat.le_of_ble_eq_true rfl)) dL_law_1734 ⟨(Nat.le_of_ble_eq_true rfl), (Nat.le_of_ble_eq_true rfl)⟩) (ws := [(mo_, .inr (25, fs3))]) (wc := [(mo_, .inr (25, fs3))]) (wr := []) hP hD hK hS hA [0] [] [] rfl rfl (by decide) (by decide) rfl (fun r_ u8 H locs hw9 hP hD hK hS => ?_)
  have hP : va_P G vwCl [(mo_, .inr (25, fs3))] H := hP
  have hD : va_D A [(mo_, .inr (25, fs3))] := hD
  have hK : va_K G vwCl [] s := hK
  refine W.widen (k := 161) (n := 21206) (Nat.le_of_ble_eq_true rfl) (Nat.le_of_ble_eq_true rfl) ?_
  obtain rfl : r_ = (sp_m_standOf (xs (Int32.toNatClampNeg 1))) := hw9
  refine lv_iload hx hb dL_law_1737 (lv_at hl 1 rfl) ?_
  refine lv_icmp_eq (tgt := 1744) hx hb dL_law_1739 (by decide) (fun _ => ?_) (fun h_ => absurd (show (sp_m_standOf (xs (Int32.toNatClampNeg 1))) = 1 from rfl) h_)
  refine lv_iload hx hb dL_law_1744 (lv_at hl 1 rfl) ?_
  refine lv_if_ne (tgt := 1761) hx hb dL_law_1746 (by decide) (fun _ => ?_) (fun h_ => absurd h_ (by decide))
  refine lv_goto (tgt := 2435) hx hb dL_law_1761 (by decide) ?_
  exact law_tail hl0 hx hb hr hml hown hts hX hbl hlocks hT hAN hA hN hbA hAs hS (Nat.le_of_ble_eq_true rfl) (Nat.le_of_ble_eq_true rfl) (lv_sub hl [2, 7] rfl)

set_option maxHeartbeats 4000000 in
set_option maxRecDepth 100000 in
theorem law_cause {p : Program} {l : Launch} {e : Env} {s : State} {m : MethodId} {below : List Frame} {meth : Method} {c : Code} {b : Nat} {xs : Nat → Int32} {A : Nat → Prop} (hl0 : l.stackTraces = false) (hx : p.tables.exec = Jvm.exec) (hb : c.code = cL_law) (hr : meth.sig.returnType = ret) (hml : c.maxLocals = 9) (hown : s.vm.findClass RL = some m.cls) (hts : ∀ w ∈ lw_all, w.before #[Value.ref b] s = true) (hX : va_X b 7 xs s s.heap) (hbl : b < s.heap.size) (hlocks : meth.locks = false) {N0 ade : Nat} {adB : Nat → Nat} (hT : BT N0 ade adB s) (hAN : ∀ q, A q → KA N0 q) (hA : ∀ q, s.heap.size ≤ q → A q) (hN : N0 ≤ s.heap.size) (hbA : ¬ A b) (hAs : ∀ q, A q → s.heap.size ≤ q) {G : va_G} {x : Nat} {dy : Nat} {ag : Nat} {qch : Nat} {qsh : Nat} {qsc : Nat} {pl : Nat} {qfl : Nat} {qac : Nat} {qcr : Nat} {qfg : Nat} {qgr : Nat} {qme : Nat} {qsf : Nat} {qsb : Nat} {qtu : Nat} {ou : Nat} {alo : ClassId} {fo : Nat → Int64} {mo_ : Nat} {ti : Nat} {mfl : Nat} {mcr : Nat} {mst : Nat} {mtu : Nat} {mfg : Nat} {mgr : Nat} {mme : Nat} {oud : Nat}  {H : Heap} {locs : List Loc} (hP : va_P G vwCl [(x, .inr (17, [.ref pl, .ref dy, .ref ag, .ref qch, .ref qsh, .ref qsc, .int 0, .int 0])), (pl, .inr (16, [.ref qfl, .ref qac, .ref qcr, .ref qfg, .ref qgr, .ref qme, .ref qsf, .ref qsb, .ref qtu, .int 0, .int 0, .int 0, .int 0, .int 0, .int 0, .int 0, .int 0, .int (-1), .int 1])), (ou, .inl (alo, 1, .inr (.inl fo))), (mo_, .inr (25, [.ref ti, .ref mfl, .ref mcr, .ref mst, .ref mtu, .int 1, .int 0, .int 1, .ref mfg, .ref mgr, .ref mme, .null, .int 0])), (mfg, .inr (5, [.int 0, .ref ade, .int 0]))] H) (hD : va_D A [(x, .inr (17, [.ref pl, .ref dy, .ref ag, .ref qch, .ref qsh, .ref qsc, .int 0, .int 0])), (pl, .inr (16, [.ref qfl, .ref qac, .ref qcr, .ref qfg, .ref qgr, .ref qme, .ref qsf, .ref qsb, .ref qtu, .int 0, .int 0, .int 0, .int 0, .int 0, .int 0, .int 0, .int 0, .int (-1), .int 1])), (ou, .inl (alo, 1, .inr (.inl fo))), (mo_, .inr (25, [.ref ti, .ref mfl, .ref mcr, .ref mst, .ref mtu, .int 1, .int 0, .int 1, .ref mfg, .ref mgr, .ref mme, .null, .int 0])), (mfg, .inr (5, [.int 0, .ref ade, .int 0]))]) (hK : va_K G vwCl [(alo, .long)] s) (hS : va_S A s.heap H locs) {ls : Array Slot} (hl : lv_has ls 9 [(5, .int 0), (4, .ref oud), (3, .ref ou), (2, .ref mo_), (1, .ref x), (0, .ref b)]) : W p l e room_1 s m #[Value.ref b] below meth c H locs 160 21200 (lw_Z below #[Value.ref b] s) (F0 m 1764 ls []) := by
  refine lv_aload_n hx hb dL_law_1764 rfl (lv_at hl 4 rfl) ?_
  refine lv_aload_n hx hb dL_law_1765 rfl (lv_at hl 5 rfl) ?_
  refine lv_iload hx hb dL_law_1766 (lv_at hl 0 rfl) ?_
  refine lv_iconst (v := 1) hx hb dL_law_1768 (by decide) ?_
  refine lv_iadd hx hb dL_law_1769 ?_
  refine lv_topi (fun v_ e_ => ?_)
  obtain rfl : v_ = 1 := e_.trans (by decide)
  refine va_sld hx hb hX hbl hbA hS (vin (by decide +kernel)) dL_law_1770 ?_
  refine lv_aload_n hx hb dL_law_1771 rfl (lv_at hl 2 rfl) ?_
  refine ka_i (vx_runSW (As := [.ref x, .int (xs (Int32.toNatClampNeg 1)), .ref ou]) (rest := []) ⟨hx, hb, hml, hown, hts⟩ (c_L_cause l hl0 G N0 ade adB H.size x dy ag qch qsh qsc pl qfl qac qcr qfg qgr qme qsf qsb qtu (xs (Int32.toNatClampNeg 1)) ou alo fo) (vx_cwSW 3 hts (kgS q616 q617 q35 q618) rfl rfl rfl (by decide +kernel) ⟨(Nat.le_of_ble_eq_true rfl), (Nat.le_of_ble_eq_true rfl)⟩) (kpreS hP hD hK hAN hT hN hS [0, 1, 2] [0] (by decide) rfl rfl) rfl rfl hl.1 rfl (lv_room (Nat.le_of_ble_eq_true rfl)) dL_law_1772 ⟨(Nat.le_of_ble_eq_true rfl), (Nat.le_of_ble_eq_true rfl)⟩) (ws := [(x, .inr (17, [.ref pl, .ref dy, .ref ag, .ref qch, .ref qsh, .ref qsc, .int 0, .int 0])), (pl, .inr (16, [.ref qfl, .ref qac, .ref qcr, .ref qfg, .ref qgr, .ref qme, .ref qsf, .ref qsb, .ref qtu, .int 0, .int 0, .int 0, .int 0, .int 0, .int 0, .int 0, .int 0, .int (-1), .int 1])), (ou, .inl (alo, 1, .inr (.inl fo))), (mo_, .inr (25, [.ref ti, .ref mfl, .ref mcr, .ref mst, .ref mtu, .int 1, .int 0, .int 1, .ref mfg, .ref mgr, .ref mme, .null, .int 0])), (mfg, .inr (5, [.int 0, .ref ade, .int 0]))]) (wc := [(x, .inr (17, [.ref pl, .ref dy, .ref ag, .ref qch, .ref qsh, .ref qsc, .int 0, .int 0])), (pl, .inr (16, [.ref qfl, .ref qac, .ref qcr, .ref qfg, .ref qgr, .ref qme, .ref qsf, .ref qsb, .ref qtu, .int 0, .int 0, .int 0, .int 0, .int 0, .int 0, .int 0, .int 0, .int (-1), .int 1])), (ou, .inl (alo, 1, .inr (.inl fo)))]) (wr := [(mo_, .inr (25, [.ref ti, .ref mfl, .ref mcr, .ref mst, .ref mtu, .int 1, .int 0, .int 1, .ref mfg, .ref mgr, .ref mme, .null, .int 0])), (mfg, .inr (5, [.int 0, .ref ade, .int 0]))]) hP hD hK hS hA [0, 1, 2] [3, 4] [] rfl rfl (by decide) (by decide) rfl (fun r_ u1 H locs hw2 hP hD hK hS => ?_)
  have hP : va_P G vwCl [(mo_, .inr (25, [.ref ti, .ref mfl, .ref mcr, .ref mst, .ref mtu, .int 1, .int 0, .int 1, .ref mfg, .ref mgr, .ref mme, .null, .int 0])), (mfg, .inr (5, [.int 0, .ref ade, .int 0]))] H := hP
  have hD : va_D A [(mo_, .inr (25, [.ref ti, .ref mfl, .ref mcr, .ref mst, .ref mtu, .int 1, .int 0, .int 1, .ref mfg, .ref mgr, .ref mme, .null, .int 0])), (mfg, .inr (5, [.int 0, .ref ade, .int 0]))] := hD
  have hK : va_K G vwCl [] s := hK
  refine W.widen (k := 161) (n := 21206) (Nat.le_of_ble_eq_true rfl) (Nat.le_of_ble_eq_true rfl) ?_
  obtain rfl : r_ = 1 := hw2
  refine lv_istore (lv' := [(6, .int 1), (5, .int 0), (4, .ref oud), (3, .ref ou), (2, .ref mo_), (1, .ref x), (0, .ref b)]) hx hb dL_law_1775 hl (by decide) rfl (fun ls hl => ?_)
  refine lv_aload_n hx hb dL_law_1777 rfl (lv_at hl 4 rfl) ?_
  refine lv_aload_n hx hb dL_law_1778 rfl (lv_at hl 6 rfl) ?_
  refine lv_iload hx hb dL_law_1779 (lv_at hl 1 rfl) ?_
  refine lv_iconst (v := 1) hx hb dL_law_1781 (by decide) ?_
  refine lv_iadd hx hb dL_law_1782 ?_
  refine lv_topi (fun v_ e_ => ?_)
  obtain rfl : v_ = 1 := e_.trans (by decide)
  refine va_sld hx hb hX hbl hbA hS (vin (by decide +kernel)) dL_law_1783 ?_
  refine ka_i (va_runV (As := [.int (xs (Int32.toNatClampNeg 1))]) (rest := []) ⟨hx, hb, hml, hown, hts⟩ (c_m_cause l G N0 ade adB H.size mo_ ti mfl mcr mst mtu mfg mgr mme 0 (xs (Int32.toNatClampNeg 1))) (cwV 1 hts (kgV q1060 q1061 q1062 q49 q1063) rfl rfl rfl (by decide +kernel) ⟨(Nat.le_of_ble_eq_true rfl), (Nat.le_of_ble_eq_true rfl)⟩) (kpreV (ci := 25) (q0 := 0) hP hD hK hAN hT hN hS [0, 1] [] (by decide) rfl rfl rfl rfl rfl) rfl rfl hl.1 rfl (lv_room (Nat.le_of_ble_eq_true rfl)) dL_law_1784 ⟨(Nat.le_of_ble_eq_true rfl), (Nat.le_of_ble_eq_true rfl)⟩) (ws := [(mo_, .inr (25, [.ref ti, .ref mfl, .ref mcr, .ref mst, .ref mtu, .int 1, .int 0, .int 1, .ref mfg, .ref mgr, .ref mme, .null, .int 0])), (mfg, .inr (5, [.int 0, .ref ade, .int 0]))]) (wc := [(mo_, .inr (25, [.ref ti, .ref mfl, .ref mcr, .ref mst, .ref mtu, .int 1, .int 0, .int 1, .ref mfg, .ref mgr, .ref mme, .null, .int 0])), (mfg, .inr (5, [.int 0, .ref ade, .int 0]))]) (wr := []) hP hD hK hS hA [0, 1] [] [] rfl rfl (by decide) (by decide) rfl (fun r_ u4 H locs hw5 hP hD hK hS => ?_)
  obtain ⟨fs3, rfl⟩ : ∃ z_, z_ = u4 := ⟨_, rfl⟩
  have hP : va_P G vwCl [(mo_, .inr (25, fs3))] H := hP
  have hD : va_D A [(mo_, .inr (25, fs3))] := hD
  have hK : va_K G vwCl [] s := hK
  refine W.widen (k := 161) (n := 21206) (Nat.le_of_ble_eq_true rfl) (Nat.le_of_ble_eq_true rfl) ?_
  have hf6 : fs3[12]? = some (.int (sp_m_cause (xs (Int32.toNatClampNeg 1)))) := hw5.2
  obtain rfl : r_ = (sv_m_cause (xs (Int32.toNatClampNeg 1))) := hw5.1
  refine lv_istore (lv' := [(7, .int (sv_m_cause (xs (Int32.toNatClampNeg 1)))), (6, .int 1), (5, .int 0), (4, .ref oud), (3, .ref ou), (2, .ref mo_), (1, .ref x), (0, .ref b)]) hx hb dL_law_1787 hl (by decide) rfl (fun ls hl => ?_)
  refine lv_aload_n hx hb dL_law_1789 rfl (lv_at hl 5 rfl) ?_
  refine ka_i (va_runV (As := []) (rest := []) ⟨hx, hb, hml, hown, hts⟩ (c_m_thrown l G N0 ade adB H.size mo_ fs3 (sp_m_cause (xs (Int32.toNatClampNeg 1))) hf6) (cwV 0 hts (kgV q748 q749 q750 q49 q751) rfl rfl rfl (by decide +kernel) ⟨(Nat.le_of_ble_eq_true rfl), (Nat.le_of_ble_eq_true rfl)⟩) (kpreV (ci := 25) (q0 := 0) hP hD hK hAN hT hN hS [0] [] (by decide) rfl rfl rfl rfl rfl) rfl rfl hl.1 rfl (lv_room (Nat.le_of_ble_eq_true rfl)) dL_law_1790 ⟨(Nat.le_of_ble_eq_true rfl), (Nat.le_of_ble_eq_true rfl)⟩) (ws := [(mo_, .inr (25, fs3))]) (wc := [(mo_, .inr (25, fs3))]) (wr := []) hP hD hK hS hA [0] [] [] rfl rfl (by decide) (by decide) rfl (fun r_ u8 H locs hw9 hP hD hK hS => ?_)
  have hP : va_P G vwCl [(mo_, .inr (25, fs3))] H := hP
  have hD : va_D A [(mo_, .inr (25, fs3))] := hD
  have hK : va_K G vwCl [] s := hK
  refine W.widen (k := 161) (n := 21206) (Nat.le_of_ble_eq_true rfl) (Nat.le_of_ble_eq_true rfl) ?_
  obtain rfl : r_ = (sp_m_cause (xs (Int32.toNatClampNeg 1))) := hw9
  refine lv_iload hx hb dL_law_1793 (lv_at hl 1 rfl) ?_
  refine lv_icmp_eq (tgt := 1800) hx hb dL_law_1795 (by decide) (fun _ => ?_) (fun h_ => absurd (show (sp_m_cause (xs (Int32.toNatClampNeg 1))) = 1 from rfl) h_)
  refine lv_iload hx hb dL_law_1800 (lv_at hl 1 rfl) ?_
  refine lv_if_ne (tgt := 1817) hx hb dL_law_1802 (by decide) (fun _ => ?_) (fun h_ => absurd h_ (by decide))
  refine lv_goto (tgt := 2435) hx hb dL_law_1817 (by decide) ?_
  exact law_tail hl0 hx hb hr hml hown hts hX hbl hlocks hT hAN hA hN hbA hAs hS (Nat.le_of_ble_eq_true rfl) (Nat.le_of_ble_eq_true rfl) (lv_sub hl [2, 7] rfl)

set_option maxHeartbeats 4000000 in
set_option maxRecDepth 100000 in
theorem law_root {p : Program} {l : Launch} {e : Env} {s : State} {m : MethodId} {below : List Frame} {meth : Method} {c : Code} {b : Nat} {xs : Nat → Int32} {A : Nat → Prop} (hl0 : l.stackTraces = false) (hx : p.tables.exec = Jvm.exec) (hb : c.code = cL_law) (hr : meth.sig.returnType = ret) (hml : c.maxLocals = 9) (hown : s.vm.findClass RL = some m.cls) (hts : ∀ w ∈ lw_all, w.before #[Value.ref b] s = true) (hX : va_X b 7 xs s s.heap) (hbl : b < s.heap.size) (hlocks : meth.locks = false) {N0 ade : Nat} {adB : Nat → Nat} (hT : BT N0 ade adB s) (hAN : ∀ q, A q → KA N0 q) (hA : ∀ q, s.heap.size ≤ q → A q) (hN : N0 ≤ s.heap.size) (hbA : ¬ A b) (hAs : ∀ q, A q → s.heap.size ≤ q) {G : va_G} {x : Nat} {dy : Nat} {ag : Nat} {qch : Nat} {qsh : Nat} {qsc : Nat} {pl : Nat} {qfl : Nat} {qac : Nat} {qcr : Nat} {qfg : Nat} {qgr : Nat} {qme : Nat} {qsf : Nat} {qsb : Nat} {qtu : Nat} {ou : Nat} {alo : ClassId} {fo : Nat → Int64} {mo_ : Nat} {ti : Nat} {mfl : Nat} {mcr : Nat} {mst : Nat} {mtu : Nat} {mfg : Nat} {mgr : Nat} {mme : Nat} {oud : Nat}  {H : Heap} {locs : List Loc} (hP : va_P G vwCl [(x, .inr (17, [.ref pl, .ref dy, .ref ag, .ref qch, .ref qsh, .ref qsc, .int 0, .int 0])), (pl, .inr (16, [.ref qfl, .ref qac, .ref qcr, .ref qfg, .ref qgr, .ref qme, .ref qsf, .ref qsb, .ref qtu, .int 0, .int 0, .int 0, .int 0, .int 0, .int 0, .int 0, .int 0, .int (-1), .int 1])), (ou, .inl (alo, 1, .inr (.inl fo))), (mo_, .inr (25, [.ref ti, .ref mfl, .ref mcr, .ref mst, .ref mtu, .int 1, .int 0, .int 1, .ref mfg, .ref mgr, .ref mme, .null, .int 0])), (mfg, .inr (5, [.int 0, .ref ade, .int 0]))] H) (hD : va_D A [(x, .inr (17, [.ref pl, .ref dy, .ref ag, .ref qch, .ref qsh, .ref qsc, .int 0, .int 0])), (pl, .inr (16, [.ref qfl, .ref qac, .ref qcr, .ref qfg, .ref qgr, .ref qme, .ref qsf, .ref qsb, .ref qtu, .int 0, .int 0, .int 0, .int 0, .int 0, .int 0, .int 0, .int 0, .int (-1), .int 1])), (ou, .inl (alo, 1, .inr (.inl fo))), (mo_, .inr (25, [.ref ti, .ref mfl, .ref mcr, .ref mst, .ref mtu, .int 1, .int 0, .int 1, .ref mfg, .ref mgr, .ref mme, .null, .int 0])), (mfg, .inr (5, [.int 0, .ref ade, .int 0]))]) (hK : va_K G vwCl [(alo, .long)] s) (hS : va_S A s.heap H locs) {ls : Array Slot} (hl : lv_has ls 9 [(5, .int 0), (4, .ref oud), (3, .ref ou), (2, .ref mo_), (1, .ref x), (0, .ref b)]) : W p l e room_1 s m #[Value.ref b] below meth c H locs 160 21200 (lw_Z below #[Value.ref b] s) (F0 m 1820 ls []) := by
  refine lv_aload_n hx hb dL_law_1820 rfl (lv_at hl 4 rfl) ?_
  refine lv_aload_n hx hb dL_law_1821 rfl (lv_at hl 5 rfl) ?_
  refine lv_iload hx hb dL_law_1822 (lv_at hl 0 rfl) ?_
  refine lv_iconst (v := 1) hx hb dL_law_1824 (by decide) ?_
  refine lv_iadd hx hb dL_law_1825 ?_
  refine lv_topi (fun v_ e_ => ?_)
  obtain rfl : v_ = 1 := e_.trans (by decide)
  refine va_sld hx hb hX hbl hbA hS (vin (by decide +kernel)) dL_law_1826 ?_
  refine lv_aload_n hx hb dL_law_1827 rfl (lv_at hl 2 rfl) ?_
  refine ka_i (vx_runSW (As := [.ref x, .int (xs (Int32.toNatClampNeg 1)), .ref ou]) (rest := []) ⟨hx, hb, hml, hown, hts⟩ (c_L_root l hl0 G N0 ade adB H.size x dy ag qch qsh qsc pl qfl qac qcr qfg qgr qme qsf qsb qtu (xs (Int32.toNatClampNeg 1)) ou alo fo) (vx_cwSW 3 hts (kgS q625 q626 q35 q627) rfl rfl rfl (by decide +kernel) ⟨(Nat.le_of_ble_eq_true rfl), (Nat.le_of_ble_eq_true rfl)⟩) (kpreS hP hD hK hAN hT hN hS [0, 1, 2] [0] (by decide) rfl rfl) rfl rfl hl.1 rfl (lv_room (Nat.le_of_ble_eq_true rfl)) dL_law_1828 ⟨(Nat.le_of_ble_eq_true rfl), (Nat.le_of_ble_eq_true rfl)⟩) (ws := [(x, .inr (17, [.ref pl, .ref dy, .ref ag, .ref qch, .ref qsh, .ref qsc, .int 0, .int 0])), (pl, .inr (16, [.ref qfl, .ref qac, .ref qcr, .ref qfg, .ref qgr, .ref qme, .ref qsf, .ref qsb, .ref qtu, .int 0, .int 0, .int 0, .int 0, .int 0, .int 0, .int 0, .int 0, .int (-1), .int 1])), (ou, .inl (alo, 1, .inr (.inl fo))), (mo_, .inr (25, [.ref ti, .ref mfl, .ref mcr, .ref mst, .ref mtu, .int 1, .int 0, .int 1, .ref mfg, .ref mgr, .ref mme, .null, .int 0])), (mfg, .inr (5, [.int 0, .ref ade, .int 0]))]) (wc := [(x, .inr (17, [.ref pl, .ref dy, .ref ag, .ref qch, .ref qsh, .ref qsc, .int 0, .int 0])), (pl, .inr (16, [.ref qfl, .ref qac, .ref qcr, .ref qfg, .ref qgr, .ref qme, .ref qsf, .ref qsb, .ref qtu, .int 0, .int 0, .int 0, .int 0, .int 0, .int 0, .int 0, .int 0, .int (-1), .int 1])), (ou, .inl (alo, 1, .inr (.inl fo)))]) (wr := [(mo_, .inr (25, [.ref ti, .ref mfl, .ref mcr, .ref mst, .ref mtu, .int 1, .int 0, .int 1, .ref mfg, .ref mgr, .ref mme, .null, .int 0])), (mfg, .inr (5, [.int 0, .ref ade, .int 0]))]) hP hD hK hS hA [0, 1, 2] [3, 4] [] rfl rfl (by decide) (by decide) rfl (fun r_ u1 H locs hw2 hP hD hK hS => ?_)
  have hP : va_P G vwCl [(mo_, .inr (25, [.ref ti, .ref mfl, .ref mcr, .ref mst, .ref mtu, .int 1, .int 0, .int 1, .ref mfg, .ref mgr, .ref mme, .null, .int 0])), (mfg, .inr (5, [.int 0, .ref ade, .int 0]))] H := hP
  have hD : va_D A [(mo_, .inr (25, [.ref ti, .ref mfl, .ref mcr, .ref mst, .ref mtu, .int 1, .int 0, .int 1, .ref mfg, .ref mgr, .ref mme, .null, .int 0])), (mfg, .inr (5, [.int 0, .ref ade, .int 0]))] := hD
  have hK : va_K G vwCl [] s := hK
  refine W.widen (k := 161) (n := 21206) (Nat.le_of_ble_eq_true rfl) (Nat.le_of_ble_eq_true rfl) ?_
  obtain rfl : r_ = 1 := hw2
  refine lv_istore (lv' := [(6, .int 1), (5, .int 0), (4, .ref oud), (3, .ref ou), (2, .ref mo_), (1, .ref x), (0, .ref b)]) hx hb dL_law_1831 hl (by decide) rfl (fun ls hl => ?_)
  refine lv_aload_n hx hb dL_law_1833 rfl (lv_at hl 4 rfl) ?_
  refine lv_aload_n hx hb dL_law_1834 rfl (lv_at hl 6 rfl) ?_
  refine lv_iload hx hb dL_law_1835 (lv_at hl 1 rfl) ?_
  refine lv_iconst (v := 1) hx hb dL_law_1837 (by decide) ?_
  refine lv_iadd hx hb dL_law_1838 ?_
  refine lv_topi (fun v_ e_ => ?_)
  obtain rfl : v_ = 1 := e_.trans (by decide)
  refine va_sld hx hb hX hbl hbA hS (vin (by decide +kernel)) dL_law_1839 ?_
  refine ka_i (va_runV (As := [.int (xs (Int32.toNatClampNeg 1))]) (rest := []) ⟨hx, hb, hml, hown, hts⟩ (c_m_root l G N0 ade adB H.size mo_ ti mfl mcr mst mtu mfg mgr mme 0 (xs (Int32.toNatClampNeg 1))) (cwV 1 hts (kgV q1067 q1068 q1069 q49 q1070) rfl rfl rfl (by decide +kernel) ⟨(Nat.le_of_ble_eq_true rfl), (Nat.le_of_ble_eq_true rfl)⟩) (kpreV (ci := 25) (q0 := 0) hP hD hK hAN hT hN hS [0, 1] [] (by decide) rfl rfl rfl rfl rfl) rfl rfl hl.1 rfl (lv_room (Nat.le_of_ble_eq_true rfl)) dL_law_1840 ⟨(Nat.le_of_ble_eq_true rfl), (Nat.le_of_ble_eq_true rfl)⟩) (ws := [(mo_, .inr (25, [.ref ti, .ref mfl, .ref mcr, .ref mst, .ref mtu, .int 1, .int 0, .int 1, .ref mfg, .ref mgr, .ref mme, .null, .int 0])), (mfg, .inr (5, [.int 0, .ref ade, .int 0]))]) (wc := [(mo_, .inr (25, [.ref ti, .ref mfl, .ref mcr, .ref mst, .ref mtu, .int 1, .int 0, .int 1, .ref mfg, .ref mgr, .ref mme, .null, .int 0])), (mfg, .inr (5, [.int 0, .ref ade, .int 0]))]) (wr := []) hP hD hK hS hA [0, 1] [] [] rfl rfl (by decide) (by decide) rfl (fun r_ u4 H locs hw5 hP hD hK hS => ?_)
  obtain ⟨fs3, rfl⟩ : ∃ z_, z_ = u4 := ⟨_, rfl⟩
  have hP : va_P G vwCl [(mo_, .inr (25, fs3))] H := hP
  have hD : va_D A [(mo_, .inr (25, fs3))] := hD
  have hK : va_K G vwCl [] s := hK
  refine W.widen (k := 161) (n := 21206) (Nat.le_of_ble_eq_true rfl) (Nat.le_of_ble_eq_true rfl) ?_
  have hf6 : fs3[12]? = some (.int (sp_m_root (xs (Int32.toNatClampNeg 1)))) := hw5.2
  obtain rfl : r_ = (sv_m_root (xs (Int32.toNatClampNeg 1))) := hw5.1
  refine lv_istore (lv' := [(7, .int (sv_m_root (xs (Int32.toNatClampNeg 1)))), (6, .int 1), (5, .int 0), (4, .ref oud), (3, .ref ou), (2, .ref mo_), (1, .ref x), (0, .ref b)]) hx hb dL_law_1843 hl (by decide) rfl (fun ls hl => ?_)
  refine lv_aload_n hx hb dL_law_1845 rfl (lv_at hl 5 rfl) ?_
  refine ka_i (va_runV (As := []) (rest := []) ⟨hx, hb, hml, hown, hts⟩ (c_m_thrown l G N0 ade adB H.size mo_ fs3 (sp_m_root (xs (Int32.toNatClampNeg 1))) hf6) (cwV 0 hts (kgV q748 q749 q750 q49 q751) rfl rfl rfl (by decide +kernel) ⟨(Nat.le_of_ble_eq_true rfl), (Nat.le_of_ble_eq_true rfl)⟩) (kpreV (ci := 25) (q0 := 0) hP hD hK hAN hT hN hS [0] [] (by decide) rfl rfl rfl rfl rfl) rfl rfl hl.1 rfl (lv_room (Nat.le_of_ble_eq_true rfl)) dL_law_1846 ⟨(Nat.le_of_ble_eq_true rfl), (Nat.le_of_ble_eq_true rfl)⟩) (ws := [(mo_, .inr (25, fs3))]) (wc := [(mo_, .inr (25, fs3))]) (wr := []) hP hD hK hS hA [0] [] [] rfl rfl (by decide) (by decide) rfl (fun r_ u8 H locs hw9 hP hD hK hS => ?_)
  have hP : va_P G vwCl [(mo_, .inr (25, fs3))] H := hP
  have hD : va_D A [(mo_, .inr (25, fs3))] := hD
  have hK : va_K G vwCl [] s := hK
  refine W.widen (k := 161) (n := 21206) (Nat.le_of_ble_eq_true rfl) (Nat.le_of_ble_eq_true rfl) ?_
  obtain rfl : r_ = (sp_m_root (xs (Int32.toNatClampNeg 1))) := hw9
  refine lv_iload hx hb dL_law_1849 (lv_at hl 1 rfl) ?_
  refine lv_icmp_eq (tgt := 1856) hx hb dL_law_1851 (by decide) (fun _ => ?_) (fun h_ => absurd (show (sp_m_root (xs (Int32.toNatClampNeg 1))) = 1 from rfl) h_)
  refine lv_iload hx hb dL_law_1856 (lv_at hl 1 rfl) ?_
  refine lv_if_ne (tgt := 1873) hx hb dL_law_1858 (by decide) (fun _ => ?_) (fun h_ => absurd h_ (by decide))
  refine lv_goto (tgt := 2435) hx hb dL_law_1873 (by decide) ?_
  exact law_tail hl0 hx hb hr hml hown hts hX hbl hlocks hT hAN hA hN hbA hAs hS (Nat.le_of_ble_eq_true rfl) (Nat.le_of_ble_eq_true rfl) (lv_sub hl [2, 7] rfl)

set_option maxHeartbeats 4000000 in
set_option maxRecDepth 100000 in
theorem law_lateness {p : Program} {l : Launch} {e : Env} {s : State} {m : MethodId} {below : List Frame} {meth : Method} {c : Code} {b : Nat} {xs : Nat → Int32} {A : Nat → Prop} (hl0 : l.stackTraces = false) (hx : p.tables.exec = Jvm.exec) (hb : c.code = cL_law) (hr : meth.sig.returnType = ret) (hml : c.maxLocals = 9) (hown : s.vm.findClass RL = some m.cls) (hts : ∀ w ∈ lw_all, w.before #[Value.ref b] s = true) (hX : va_X b 7 xs s s.heap) (hbl : b < s.heap.size) (hlocks : meth.locks = false) {N0 ade : Nat} {adB : Nat → Nat} (hT : BT N0 ade adB s) (hAN : ∀ q, A q → KA N0 q) (hA : ∀ q, s.heap.size ≤ q → A q) (hN : N0 ≤ s.heap.size) (hbA : ¬ A b) (hAs : ∀ q, A q → s.heap.size ≤ q) {G : va_G} {x : Nat} {dy : Nat} {ag : Nat} {qch : Nat} {qsh : Nat} {qsc : Nat} {pl : Nat} {qfl : Nat} {qac : Nat} {qcr : Nat} {qfg : Nat} {qgr : Nat} {qme : Nat} {qsf : Nat} {qsb : Nat} {qtu : Nat} {ou : Nat} {alo : ClassId} {fo : Nat → Int64} {mo_ : Nat} {ti : Nat} {mfl : Nat} {mcr : Nat} {mst : Nat} {mtu : Nat} {mfg : Nat} {mgr : Nat} {mme : Nat} {oud : Nat}  {H : Heap} {locs : List Loc} (hP : va_P G vwCl [(x, .inr (17, [.ref pl, .ref dy, .ref ag, .ref qch, .ref qsh, .ref qsc, .int 0, .int 0])), (pl, .inr (16, [.ref qfl, .ref qac, .ref qcr, .ref qfg, .ref qgr, .ref qme, .ref qsf, .ref qsb, .ref qtu, .int 0, .int 0, .int 0, .int 0, .int 0, .int 0, .int 0, .int 0, .int (-1), .int 1])), (ou, .inl (alo, 1, .inr (.inl fo))), (mo_, .inr (25, [.ref ti, .ref mfl, .ref mcr, .ref mst, .ref mtu, .int 1, .int 0, .int 1, .ref mfg, .ref mgr, .ref mme, .null, .int 0])), (mgr, .inr (5, [.int 0, .ref ade, .int 0]))] H) (hD : va_D A [(x, .inr (17, [.ref pl, .ref dy, .ref ag, .ref qch, .ref qsh, .ref qsc, .int 0, .int 0])), (pl, .inr (16, [.ref qfl, .ref qac, .ref qcr, .ref qfg, .ref qgr, .ref qme, .ref qsf, .ref qsb, .ref qtu, .int 0, .int 0, .int 0, .int 0, .int 0, .int 0, .int 0, .int 0, .int (-1), .int 1])), (ou, .inl (alo, 1, .inr (.inl fo))), (mo_, .inr (25, [.ref ti, .ref mfl, .ref mcr, .ref mst, .ref mtu, .int 1, .int 0, .int 1, .ref mfg, .ref mgr, .ref mme, .null, .int 0])), (mgr, .inr (5, [.int 0, .ref ade, .int 0]))]) (hK : va_K G vwCl [(alo, .long)] s) (hS : va_S A s.heap H locs) {ls : Array Slot} (hl : lv_has ls 9 [(5, .int 0), (4, .ref oud), (3, .ref ou), (2, .ref mo_), (1, .ref x), (0, .ref b)]) : W p l e room_1 s m #[Value.ref b] below meth c H locs 160 21200 (lw_Z below #[Value.ref b] s) (F0 m 1876 ls []) := by
  refine lv_aload_n hx hb dL_law_1876 rfl (lv_at hl 4 rfl) ?_
  refine lv_aload_n hx hb dL_law_1877 rfl (lv_at hl 5 rfl) ?_
  refine lv_iload hx hb dL_law_1878 (lv_at hl 0 rfl) ?_
  refine lv_iconst (v := 1) hx hb dL_law_1880 (by decide) ?_
  refine lv_iadd hx hb dL_law_1881 ?_
  refine lv_topi (fun v_ e_ => ?_)
  obtain rfl : v_ = 1 := e_.trans (by decide)
  refine va_sld hx hb hX hbl hbA hS (vin (by decide +kernel)) dL_law_1882 ?_
  refine lv_aload_n hx hb dL_law_1883 rfl (lv_at hl 2 rfl) ?_
  refine ka_i (vx_runSW (As := [.ref x, .int (xs (Int32.toNatClampNeg 1)), .ref ou]) (rest := []) ⟨hx, hb, hml, hown, hts⟩ (c_L_lateness l hl0 G N0 ade adB H.size x dy ag qch qsh qsc pl qfl qac qcr qfg qgr qme qsf qsb qtu (xs (Int32.toNatClampNeg 1)) ou alo fo) (vx_cwSW 3 hts (kgS q633 q634 q35 q635) rfl rfl rfl (by decide +kernel) ⟨(Nat.le_of_ble_eq_true rfl), (Nat.le_of_ble_eq_true rfl)⟩) (kpreS hP hD hK hAN hT hN hS [0, 1, 2] [0] (by decide) rfl rfl) rfl rfl hl.1 rfl (lv_room (Nat.le_of_ble_eq_true rfl)) dL_law_1884 ⟨(Nat.le_of_ble_eq_true rfl), (Nat.le_of_ble_eq_true rfl)⟩) (ws := [(x, .inr (17, [.ref pl, .ref dy, .ref ag, .ref qch, .ref qsh, .ref qsc, .int 0, .int 0])), (pl, .inr (16, [.ref qfl, .ref qac, .ref qcr, .ref qfg, .ref qgr, .ref qme, .ref qsf, .ref qsb, .ref qtu, .int 0, .int 0, .int 0, .int 0, .int 0, .int 0, .int 0, .int 0, .int (-1), .int 1])), (ou, .inl (alo, 1, .inr (.inl fo))), (mo_, .inr (25, [.ref ti, .ref mfl, .ref mcr, .ref mst, .ref mtu, .int 1, .int 0, .int 1, .ref mfg, .ref mgr, .ref mme, .null, .int 0])), (mgr, .inr (5, [.int 0, .ref ade, .int 0]))]) (wc := [(x, .inr (17, [.ref pl, .ref dy, .ref ag, .ref qch, .ref qsh, .ref qsc, .int 0, .int 0])), (pl, .inr (16, [.ref qfl, .ref qac, .ref qcr, .ref qfg, .ref qgr, .ref qme, .ref qsf, .ref qsb, .ref qtu, .int 0, .int 0, .int 0, .int 0, .int 0, .int 0, .int 0, .int 0, .int (-1), .int 1])), (ou, .inl (alo, 1, .inr (.inl fo)))]) (wr := [(mo_, .inr (25, [.ref ti, .ref mfl, .ref mcr, .ref mst, .ref mtu, .int 1, .int 0, .int 1, .ref mfg, .ref mgr, .ref mme, .null, .int 0])), (mgr, .inr (5, [.int 0, .ref ade, .int 0]))]) hP hD hK hS hA [0, 1, 2] [3, 4] [] rfl rfl (by decide) (by decide) rfl (fun r_ u1 H locs hw2 hP hD hK hS => ?_)
  have hP : va_P G vwCl [(mo_, .inr (25, [.ref ti, .ref mfl, .ref mcr, .ref mst, .ref mtu, .int 1, .int 0, .int 1, .ref mfg, .ref mgr, .ref mme, .null, .int 0])), (mgr, .inr (5, [.int 0, .ref ade, .int 0]))] H := hP
  have hD : va_D A [(mo_, .inr (25, [.ref ti, .ref mfl, .ref mcr, .ref mst, .ref mtu, .int 1, .int 0, .int 1, .ref mfg, .ref mgr, .ref mme, .null, .int 0])), (mgr, .inr (5, [.int 0, .ref ade, .int 0]))] := hD
  have hK : va_K G vwCl [] s := hK
  refine W.widen (k := 161) (n := 21206) (Nat.le_of_ble_eq_true rfl) (Nat.le_of_ble_eq_true rfl) ?_
  obtain rfl : r_ = 1 := hw2
  refine lv_istore (lv' := [(6, .int 1), (5, .int 0), (4, .ref oud), (3, .ref ou), (2, .ref mo_), (1, .ref x), (0, .ref b)]) hx hb dL_law_1887 hl (by decide) rfl (fun ls hl => ?_)
  refine lv_aload_n hx hb dL_law_1889 rfl (lv_at hl 4 rfl) ?_
  refine lv_aload_n hx hb dL_law_1890 rfl (lv_at hl 6 rfl) ?_
  refine lv_iload hx hb dL_law_1891 (lv_at hl 1 rfl) ?_
  refine lv_iconst (v := 1) hx hb dL_law_1893 (by decide) ?_
  refine lv_iadd hx hb dL_law_1894 ?_
  refine lv_topi (fun v_ e_ => ?_)
  obtain rfl : v_ = 1 := e_.trans (by decide)
  refine va_sld hx hb hX hbl hbA hS (vin (by decide +kernel)) dL_law_1895 ?_
  refine ka_i (va_runV (As := [.int (xs (Int32.toNatClampNeg 1))]) (rest := []) ⟨hx, hb, hml, hown, hts⟩ (c_m_lateness l G N0 ade adB H.size mo_ ti mfl mcr mst mtu mfg mgr mme 0 (xs (Int32.toNatClampNeg 1))) (cwV 1 hts (kgV q1072 q1073 q1074 q49 q1075) rfl rfl rfl (by decide +kernel) ⟨(Nat.le_of_ble_eq_true rfl), (Nat.le_of_ble_eq_true rfl)⟩) (kpreV (ci := 25) (q0 := 0) hP hD hK hAN hT hN hS [0, 1] [] (by decide) rfl rfl rfl rfl rfl) rfl rfl hl.1 rfl (lv_room (Nat.le_of_ble_eq_true rfl)) dL_law_1896 ⟨(Nat.le_of_ble_eq_true rfl), (Nat.le_of_ble_eq_true rfl)⟩) (ws := [(mo_, .inr (25, [.ref ti, .ref mfl, .ref mcr, .ref mst, .ref mtu, .int 1, .int 0, .int 1, .ref mfg, .ref mgr, .ref mme, .null, .int 0])), (mgr, .inr (5, [.int 0, .ref ade, .int 0]))]) (wc := [(mo_, .inr (25, [.ref ti, .ref mfl, .ref mcr, .ref mst, .ref mtu, .int 1, .int 0, .int 1, .ref mfg, .ref mgr, .ref mme, .null, .int 0])), (mgr, .inr (5, [.int 0, .ref ade, .int 0]))]) (wr := []) hP hD hK hS hA [0, 1] [] [] rfl rfl (by decide) (by decide) rfl (fun r_ u4 H locs hw5 hP hD hK hS => ?_)
  obtain ⟨fs3, rfl⟩ : ∃ z_, z_ = u4 := ⟨_, rfl⟩
  have hP : va_P G vwCl [(mo_, .inr (25, fs3))] H := hP
  have hD : va_D A [(mo_, .inr (25, fs3))] := hD
  have hK : va_K G vwCl [] s := hK
  refine W.widen (k := 161) (n := 21206) (Nat.le_of_ble_eq_true rfl) (Nat.le_of_ble_eq_true rfl) ?_
  have hf6 : fs3[12]? = some (.int (sp_m_lateness (xs (Int32.toNatClampNeg 1)))) := hw5.2
  obtain rfl : r_ = (sv_m_lateness (xs (Int32.toNatClampNeg 1))) := hw5.1
  refine lv_istore (lv' := [(7, .int (sv_m_lateness (xs (Int32.toNatClampNeg 1)))), (6, .int 1), (5, .int 0), (4, .ref oud), (3, .ref ou), (2, .ref mo_), (1, .ref x), (0, .ref b)]) hx hb dL_law_1899 hl (by decide) rfl (fun ls hl => ?_)
  refine lv_aload_n hx hb dL_law_1901 rfl (lv_at hl 5 rfl) ?_
  refine ka_i (va_runV (As := []) (rest := []) ⟨hx, hb, hml, hown, hts⟩ (c_m_thrown l G N0 ade adB H.size mo_ fs3 (sp_m_lateness (xs (Int32.toNatClampNeg 1))) hf6) (cwV 0 hts (kgV q748 q749 q750 q49 q751) rfl rfl rfl (by decide +kernel) ⟨(Nat.le_of_ble_eq_true rfl), (Nat.le_of_ble_eq_true rfl)⟩) (kpreV (ci := 25) (q0 := 0) hP hD hK hAN hT hN hS [0] [] (by decide) rfl rfl rfl rfl rfl) rfl rfl hl.1 rfl (lv_room (Nat.le_of_ble_eq_true rfl)) dL_law_1902 ⟨(Nat.le_of_ble_eq_true rfl), (Nat.le_of_ble_eq_true rfl)⟩) (ws := [(mo_, .inr (25, fs3))]) (wc := [(mo_, .inr (25, fs3))]) (wr := []) hP hD hK hS hA [0] [] [] rfl rfl (by decide) (by decide) rfl (fun r_ u8 H locs hw9 hP hD hK hS => ?_)
  have hP : va_P G vwCl [(mo_, .inr (25, fs3))] H := hP
  have hD : va_D A [(mo_, .inr (25, fs3))] := hD
  have hK : va_K G vwCl [] s := hK
  refine W.widen (k := 161) (n := 21206) (Nat.le_of_ble_eq_true rfl) (Nat.le_of_ble_eq_true rfl) ?_
  obtain rfl : r_ = (sp_m_lateness (xs (Int32.toNatClampNeg 1))) := hw9
  refine lv_iload hx hb dL_law_1905 (lv_at hl 1 rfl) ?_
  refine lv_icmp_eq (tgt := 1912) hx hb dL_law_1907 (by decide) (fun _ => ?_) (fun h_ => absurd (show (sp_m_lateness (xs (Int32.toNatClampNeg 1))) = 1 from rfl) h_)
  refine lv_iload hx hb dL_law_1912 (lv_at hl 1 rfl) ?_
  refine lv_if_ne (tgt := 1929) hx hb dL_law_1914 (by decide) (fun _ => ?_) (fun h_ => absurd h_ (by decide))
  refine lv_goto (tgt := 2435) hx hb dL_law_1929 (by decide) ?_
  exact law_tail hl0 hx hb hr hml hown hts hX hbl hlocks hT hAN hA hN hbA hAs hS (Nat.le_of_ble_eq_true rfl) (Nat.le_of_ble_eq_true rfl) (lv_sub hl [2, 7] rfl)

set_option maxHeartbeats 4000000 in
set_option maxRecDepth 100000 in
theorem law_lastOf {p : Program} {l : Launch} {e : Env} {s : State} {m : MethodId} {below : List Frame} {meth : Method} {c : Code} {b : Nat} {xs : Nat → Int32} {A : Nat → Prop} (hl0 : l.stackTraces = false) (hx : p.tables.exec = Jvm.exec) (hb : c.code = cL_law) (hr : meth.sig.returnType = ret) (hml : c.maxLocals = 9) (hown : s.vm.findClass RL = some m.cls) (hts : ∀ w ∈ lw_all, w.before #[Value.ref b] s = true) (hX : va_X b 7 xs s s.heap) (hbl : b < s.heap.size) (hlocks : meth.locks = false) {N0 ade : Nat} {adB : Nat → Nat} (hT : BT N0 ade adB s) (hAN : ∀ q, A q → KA N0 q) (hA : ∀ q, s.heap.size ≤ q → A q) (hN : N0 ≤ s.heap.size) (hbA : ¬ A b) (hAs : ∀ q, A q → s.heap.size ≤ q) {G : va_G} {x : Nat} {dy : Nat} {ag : Nat} {qch : Nat} {qsh : Nat} {qsc : Nat} {pl : Nat} {qfl : Nat} {qac : Nat} {qcr : Nat} {qfg : Nat} {qgr : Nat} {qme : Nat} {qsf : Nat} {qsb : Nat} {qtu : Nat} {ou : Nat} {alo : ClassId} {fo : Nat → Int64} {mo_ : Nat} {ti : Nat} {mfl : Nat} {mcr : Nat} {mst : Nat} {mtu : Nat} {mfg : Nat} {mgr : Nat} {mme : Nat} {oud : Nat}  {H : Heap} {locs : List Loc} (hP : va_P G vwCl [(x, .inr (17, [.ref pl, .ref dy, .ref ag, .ref qch, .ref qsh, .ref qsc, .int 0, .int 0])), (pl, .inr (16, [.ref qfl, .ref qac, .ref qcr, .ref qfg, .ref qgr, .ref qme, .ref qsf, .ref qsb, .ref qtu, .int 0, .int 0, .int 0, .int 0, .int 0, .int 0, .int 0, .int 0, .int (-1), .int 1])), (ou, .inl (alo, 1, .inr (.inl fo))), (mo_, .inr (25, [.ref ti, .ref mfl, .ref mcr, .ref mst, .ref mtu, .int 1, .int 0, .int 1, .ref mfg, .ref mgr, .ref mme, .null, .int 0])), (mgr, .inr (5, [.int 0, .ref ade, .int 0]))] H) (hD : va_D A [(x, .inr (17, [.ref pl, .ref dy, .ref ag, .ref qch, .ref qsh, .ref qsc, .int 0, .int 0])), (pl, .inr (16, [.ref qfl, .ref qac, .ref qcr, .ref qfg, .ref qgr, .ref qme, .ref qsf, .ref qsb, .ref qtu, .int 0, .int 0, .int 0, .int 0, .int 0, .int 0, .int 0, .int 0, .int (-1), .int 1])), (ou, .inl (alo, 1, .inr (.inl fo))), (mo_, .inr (25, [.ref ti, .ref mfl, .ref mcr, .ref mst, .ref mtu, .int 1, .int 0, .int 1, .ref mfg, .ref mgr, .ref mme, .null, .int 0])), (mgr, .inr (5, [.int 0, .ref ade, .int 0]))]) (hK : va_K G vwCl [(alo, .long)] s) (hS : va_S A s.heap H locs) {ls : Array Slot} (hl : lv_has ls 9 [(5, .int 0), (4, .ref oud), (3, .ref ou), (2, .ref mo_), (1, .ref x), (0, .ref b)]) : W p l e room_1 s m #[Value.ref b] below meth c H locs 160 21200 (lw_Z below #[Value.ref b] s) (F0 m 1932 ls []) := by
  refine lv_aload_n hx hb dL_law_1932 rfl (lv_at hl 4 rfl) ?_
  refine lv_aload_n hx hb dL_law_1933 rfl (lv_at hl 5 rfl) ?_
  refine lv_iload hx hb dL_law_1934 (lv_at hl 0 rfl) ?_
  refine lv_iconst (v := 1) hx hb dL_law_1936 (by decide) ?_
  refine lv_iadd hx hb dL_law_1937 ?_
  refine lv_topi (fun v_ e_ => ?_)
  obtain rfl : v_ = 1 := e_.trans (by decide)
  refine va_sld hx hb hX hbl hbA hS (vin (by decide +kernel)) dL_law_1938 ?_
  refine lv_aload_n hx hb dL_law_1939 rfl (lv_at hl 2 rfl) ?_
  refine ka_i (vx_runSW (As := [.ref x, .int (xs (Int32.toNatClampNeg 1)), .ref ou]) (rest := []) ⟨hx, hb, hml, hown, hts⟩ (c_L_lastOf l hl0 G N0 ade adB H.size x dy ag qch qsh qsc pl qfl qac qcr qfg qgr qme qsf qsb qtu (xs (Int32.toNatClampNeg 1)) ou alo fo) (vx_cwSW 3 hts (kgS q641 q642 q35 q643) rfl rfl rfl (by decide +kernel) ⟨(Nat.le_of_ble_eq_true rfl), (Nat.le_of_ble_eq_true rfl)⟩) (kpreS hP hD hK hAN hT hN hS [0, 1, 2] [0] (by decide) rfl rfl) rfl rfl hl.1 rfl (lv_room (Nat.le_of_ble_eq_true rfl)) dL_law_1940 ⟨(Nat.le_of_ble_eq_true rfl), (Nat.le_of_ble_eq_true rfl)⟩) (ws := [(x, .inr (17, [.ref pl, .ref dy, .ref ag, .ref qch, .ref qsh, .ref qsc, .int 0, .int 0])), (pl, .inr (16, [.ref qfl, .ref qac, .ref qcr, .ref qfg, .ref qgr, .ref qme, .ref qsf, .ref qsb, .ref qtu, .int 0, .int 0, .int 0, .int 0, .int 0, .int 0, .int 0, .int 0, .int (-1), .int 1])), (ou, .inl (alo, 1, .inr (.inl fo))), (mo_, .inr (25, [.ref ti, .ref mfl, .ref mcr, .ref mst, .ref mtu, .int 1, .int 0, .int 1, .ref mfg, .ref mgr, .ref mme, .null, .int 0])), (mgr, .inr (5, [.int 0, .ref ade, .int 0]))]) (wc := [(x, .inr (17, [.ref pl, .ref dy, .ref ag, .ref qch, .ref qsh, .ref qsc, .int 0, .int 0])), (pl, .inr (16, [.ref qfl, .ref qac, .ref qcr, .ref qfg, .ref qgr, .ref qme, .ref qsf, .ref qsb, .ref qtu, .int 0, .int 0, .int 0, .int 0, .int 0, .int 0, .int 0, .int 0, .int (-1), .int 1])), (ou, .inl (alo, 1, .inr (.inl fo)))]) (wr := [(mo_, .inr (25, [.ref ti, .ref mfl, .ref mcr, .ref mst, .ref mtu, .int 1, .int 0, .int 1, .ref mfg, .ref mgr, .ref mme, .null, .int 0])), (mgr, .inr (5, [.int 0, .ref ade, .int 0]))]) hP hD hK hS hA [0, 1, 2] [3, 4] [] rfl rfl (by decide) (by decide) rfl (fun r_ u1 H locs hw2 hP hD hK hS => ?_)
  have hP : va_P G vwCl [(mo_, .inr (25, [.ref ti, .ref mfl, .ref mcr, .ref mst, .ref mtu, .int 1, .int 0, .int 1, .ref mfg, .ref mgr, .ref mme, .null, .int 0])), (mgr, .inr (5, [.int 0, .ref ade, .int 0]))] H := hP
  have hD : va_D A [(mo_, .inr (25, [.ref ti, .ref mfl, .ref mcr, .ref mst, .ref mtu, .int 1, .int 0, .int 1, .ref mfg, .ref mgr, .ref mme, .null, .int 0])), (mgr, .inr (5, [.int 0, .ref ade, .int 0]))] := hD
  have hK : va_K G vwCl [] s := hK
  refine W.widen (k := 161) (n := 21206) (Nat.le_of_ble_eq_true rfl) (Nat.le_of_ble_eq_true rfl) ?_
  obtain rfl : r_ = 1 := hw2
  refine lv_istore (lv' := [(6, .int 1), (5, .int 0), (4, .ref oud), (3, .ref ou), (2, .ref mo_), (1, .ref x), (0, .ref b)]) hx hb dL_law_1943 hl (by decide) rfl (fun ls hl => ?_)
  refine lv_aload_n hx hb dL_law_1945 rfl (lv_at hl 4 rfl) ?_
  refine lv_aload_n hx hb dL_law_1946 rfl (lv_at hl 6 rfl) ?_
  refine lv_iload hx hb dL_law_1947 (lv_at hl 1 rfl) ?_
  refine lv_iconst (v := 1) hx hb dL_law_1949 (by decide) ?_
  refine lv_iadd hx hb dL_law_1950 ?_
  refine lv_topi (fun v_ e_ => ?_)
  obtain rfl : v_ = 1 := e_.trans (by decide)
  refine va_sld hx hb hX hbl hbA hS (vin (by decide +kernel)) dL_law_1951 ?_
  refine ka_i (va_runV (As := [.int (xs (Int32.toNatClampNeg 1))]) (rest := []) ⟨hx, hb, hml, hown, hts⟩ (c_m_lastOf l G N0 ade adB H.size mo_ ti mfl mcr mst mtu mfg mgr mme 0 (xs (Int32.toNatClampNeg 1))) (cwV 1 hts (kgV q1079 q1080 q1081 q49 q1082) rfl rfl rfl (by decide +kernel) ⟨(Nat.le_of_ble_eq_true rfl), (Nat.le_of_ble_eq_true rfl)⟩) (kpreV (ci := 25) (q0 := 0) hP hD hK hAN hT hN hS [0, 1] [] (by decide) rfl rfl rfl rfl rfl) rfl rfl hl.1 rfl (lv_room (Nat.le_of_ble_eq_true rfl)) dL_law_1952 ⟨(Nat.le_of_ble_eq_true rfl), (Nat.le_of_ble_eq_true rfl)⟩) (ws := [(mo_, .inr (25, [.ref ti, .ref mfl, .ref mcr, .ref mst, .ref mtu, .int 1, .int 0, .int 1, .ref mfg, .ref mgr, .ref mme, .null, .int 0])), (mgr, .inr (5, [.int 0, .ref ade, .int 0]))]) (wc := [(mo_, .inr (25, [.ref ti, .ref mfl, .ref mcr, .ref mst, .ref mtu, .int 1, .int 0, .int 1, .ref mfg, .ref mgr, .ref mme, .null, .int 0])), (mgr, .inr (5, [.int 0, .ref ade, .int 0]))]) (wr := []) hP hD hK hS hA [0, 1] [] [] rfl rfl (by decide) (by decide) rfl (fun r_ u4 H locs hw5 hP hD hK hS => ?_)
  obtain ⟨fs3, rfl⟩ : ∃ z_, z_ = u4 := ⟨_, rfl⟩
  have hP : va_P G vwCl [(mo_, .inr (25, fs3))] H := hP
  have hD : va_D A [(mo_, .inr (25, fs3))] := hD
  have hK : va_K G vwCl [] s := hK
  refine W.widen (k := 161) (n := 21206) (Nat.le_of_ble_eq_true rfl) (Nat.le_of_ble_eq_true rfl) ?_
  have hf6 : fs3[12]? = some (.int (sp_m_lastOf (xs (Int32.toNatClampNeg 1)))) := hw5.2
  obtain rfl : r_ = (sv_m_lastOf (xs (Int32.toNatClampNeg 1))) := hw5.1
  refine lv_istore (lv' := [(7, .int (sv_m_lastOf (xs (Int32.toNatClampNeg 1)))), (6, .int 1), (5, .int 0), (4, .ref oud), (3, .ref ou), (2, .ref mo_), (1, .ref x), (0, .ref b)]) hx hb dL_law_1955 hl (by decide) rfl (fun ls hl => ?_)
  refine lv_aload_n hx hb dL_law_1957 rfl (lv_at hl 5 rfl) ?_
  refine ka_i (va_runV (As := []) (rest := []) ⟨hx, hb, hml, hown, hts⟩ (c_m_thrown l G N0 ade adB H.size mo_ fs3 (sp_m_lastOf (xs (Int32.toNatClampNeg 1))) hf6) (cwV 0 hts (kgV q748 q749 q750 q49 q751) rfl rfl rfl (by decide +kernel) ⟨(Nat.le_of_ble_eq_true rfl), (Nat.le_of_ble_eq_true rfl)⟩) (kpreV (ci := 25) (q0 := 0) hP hD hK hAN hT hN hS [0] [] (by decide) rfl rfl rfl rfl rfl) rfl rfl hl.1 rfl (lv_room (Nat.le_of_ble_eq_true rfl)) dL_law_1958 ⟨(Nat.le_of_ble_eq_true rfl), (Nat.le_of_ble_eq_true rfl)⟩) (ws := [(mo_, .inr (25, fs3))]) (wc := [(mo_, .inr (25, fs3))]) (wr := []) hP hD hK hS hA [0] [] [] rfl rfl (by decide) (by decide) rfl (fun r_ u8 H locs hw9 hP hD hK hS => ?_)
  have hP : va_P G vwCl [(mo_, .inr (25, fs3))] H := hP
  have hD : va_D A [(mo_, .inr (25, fs3))] := hD
  have hK : va_K G vwCl [] s := hK
  refine W.widen (k := 161) (n := 21206) (Nat.le_of_ble_eq_true rfl) (Nat.le_of_ble_eq_true rfl) ?_
  obtain rfl : r_ = (sp_m_lastOf (xs (Int32.toNatClampNeg 1))) := hw9
  refine lv_iload hx hb dL_law_1961 (lv_at hl 1 rfl) ?_
  refine lv_icmp_eq (tgt := 1968) hx hb dL_law_1963 (by decide) (fun _ => ?_) (fun h_ => absurd (show (sp_m_lastOf (xs (Int32.toNatClampNeg 1))) = 1 from rfl) h_)
  refine lv_iload hx hb dL_law_1968 (lv_at hl 1 rfl) ?_
  refine lv_if_ne (tgt := 1985) hx hb dL_law_1970 (by decide) (fun _ => ?_) (fun h_ => absurd h_ (by decide))
  refine lv_goto (tgt := 2435) hx hb dL_law_1985 (by decide) ?_
  exact law_tail hl0 hx hb hr hml hown hts hX hbl hlocks hT hAN hA hN hbA hAs hS (Nat.le_of_ble_eq_true rfl) (Nat.le_of_ble_eq_true rfl) (lv_sub hl [2, 7] rfl)

set_option maxHeartbeats 4000000 in
set_option maxRecDepth 100000 in
theorem law_isStranded {p : Program} {l : Launch} {e : Env} {s : State} {m : MethodId} {below : List Frame} {meth : Method} {c : Code} {b : Nat} {xs : Nat → Int32} {A : Nat → Prop} (hl0 : l.stackTraces = false) (hx : p.tables.exec = Jvm.exec) (hb : c.code = cL_law) (hr : meth.sig.returnType = ret) (hml : c.maxLocals = 9) (hown : s.vm.findClass RL = some m.cls) (hts : ∀ w ∈ lw_all, w.before #[Value.ref b] s = true) (hX : va_X b 7 xs s s.heap) (hbl : b < s.heap.size) (hlocks : meth.locks = false) {N0 ade : Nat} {adB : Nat → Nat} (hT : BT N0 ade adB s) (hAN : ∀ q, A q → KA N0 q) (hA : ∀ q, s.heap.size ≤ q → A q) (hN : N0 ≤ s.heap.size) (hbA : ¬ A b) (hAs : ∀ q, A q → s.heap.size ≤ q) {G : va_G} {x : Nat} {dy : Nat} {ag : Nat} {qch : Nat} {qsh : Nat} {qsc : Nat} {pl : Nat} {qfl : Nat} {qac : Nat} {qcr : Nat} {qfg : Nat} {qgr : Nat} {qme : Nat} {qsf : Nat} {qsb : Nat} {qtu : Nat} {ou : Nat} {alo : ClassId} {fo : Nat → Int64} {mo_ : Nat} {ti : Nat} {mfl : Nat} {mcr : Nat} {mst : Nat} {mtu : Nat} {mfg : Nat} {mgr : Nat} {mme : Nat} {oud : Nat}  {H : Heap} {locs : List Loc} (hP : va_P G vwCl [(x, .inr (17, [.ref pl, .ref dy, .ref ag, .ref qch, .ref qsh, .ref qsc, .int 0, .int 0])), (pl, .inr (16, [.ref qfl, .ref qac, .ref qcr, .ref qfg, .ref qgr, .ref qme, .ref qsf, .ref qsb, .ref qtu, .int 0, .int 0, .int 0, .int 0, .int 0, .int 0, .int 0, .int 0, .int (-1), .int 1])), (ou, .inl (alo, 1, .inr (.inl fo))), (mo_, .inr (25, [.ref ti, .ref mfl, .ref mcr, .ref mst, .ref mtu, .int 1, .int 0, .int 1, .ref mfg, .ref mgr, .ref mme, .null, .int 0])), (mgr, .inr (5, [.int 0, .ref ade, .int 0]))] H) (hD : va_D A [(x, .inr (17, [.ref pl, .ref dy, .ref ag, .ref qch, .ref qsh, .ref qsc, .int 0, .int 0])), (pl, .inr (16, [.ref qfl, .ref qac, .ref qcr, .ref qfg, .ref qgr, .ref qme, .ref qsf, .ref qsb, .ref qtu, .int 0, .int 0, .int 0, .int 0, .int 0, .int 0, .int 0, .int 0, .int (-1), .int 1])), (ou, .inl (alo, 1, .inr (.inl fo))), (mo_, .inr (25, [.ref ti, .ref mfl, .ref mcr, .ref mst, .ref mtu, .int 1, .int 0, .int 1, .ref mfg, .ref mgr, .ref mme, .null, .int 0])), (mgr, .inr (5, [.int 0, .ref ade, .int 0]))]) (hK : va_K G vwCl [(alo, .long)] s) (hS : va_S A s.heap H locs) {ls : Array Slot} (hl : lv_has ls 9 [(5, .int 0), (4, .ref oud), (3, .ref ou), (2, .ref mo_), (1, .ref x), (0, .ref b)]) : W p l e room_1 s m #[Value.ref b] below meth c H locs 160 21200 (lw_Z below #[Value.ref b] s) (F0 m 1988 ls []) := by
  refine lv_aload_n hx hb dL_law_1988 rfl (lv_at hl 4 rfl) ?_
  refine lv_aload_n hx hb dL_law_1989 rfl (lv_at hl 5 rfl) ?_
  refine lv_iload hx hb dL_law_1990 (lv_at hl 0 rfl) ?_
  refine lv_iconst (v := 1) hx hb dL_law_1992 (by decide) ?_
  refine lv_iadd hx hb dL_law_1993 ?_
  refine lv_topi (fun v_ e_ => ?_)
  obtain rfl : v_ = 1 := e_.trans (by decide)
  refine va_sld hx hb hX hbl hbA hS (vin (by decide +kernel)) dL_law_1994 ?_
  refine lv_aload_n hx hb dL_law_1995 rfl (lv_at hl 2 rfl) ?_
  refine ka_i (vx_runSW (As := [.ref x, .int (xs (Int32.toNatClampNeg 1)), .ref ou]) (rest := []) ⟨hx, hb, hml, hown, hts⟩ (c_L_isStranded l hl0 G N0 ade adB H.size x dy ag qch qsh qsc pl qfl qac qcr qfg qgr qme qsf qsb qtu (xs (Int32.toNatClampNeg 1)) ou alo fo) (vx_cwSW 3 hts (kgS q648 q649 q35 q650) rfl rfl rfl (by decide +kernel) ⟨(Nat.le_of_ble_eq_true rfl), (Nat.le_of_ble_eq_true rfl)⟩) (kpreS hP hD hK hAN hT hN hS [0, 1, 2] [0] (by decide) rfl rfl) rfl rfl hl.1 rfl (lv_room (Nat.le_of_ble_eq_true rfl)) dL_law_1996 ⟨(Nat.le_of_ble_eq_true rfl), (Nat.le_of_ble_eq_true rfl)⟩) (ws := [(x, .inr (17, [.ref pl, .ref dy, .ref ag, .ref qch, .ref qsh, .ref qsc, .int 0, .int 0])), (pl, .inr (16, [.ref qfl, .ref qac, .ref qcr, .ref qfg, .ref qgr, .ref qme, .ref qsf, .ref qsb, .ref qtu, .int 0, .int 0, .int 0, .int 0, .int 0, .int 0, .int 0, .int 0, .int (-1), .int 1])), (ou, .inl (alo, 1, .inr (.inl fo))), (mo_, .inr (25, [.ref ti, .ref mfl, .ref mcr, .ref mst, .ref mtu, .int 1, .int 0, .int 1, .ref mfg, .ref mgr, .ref mme, .null, .int 0])), (mgr, .inr (5, [.int 0, .ref ade, .int 0]))]) (wc := [(x, .inr (17, [.ref pl, .ref dy, .ref ag, .ref qch, .ref qsh, .ref qsc, .int 0, .int 0])), (pl, .inr (16, [.ref qfl, .ref qac, .ref qcr, .ref qfg, .ref qgr, .ref qme, .ref qsf, .ref qsb, .ref qtu, .int 0, .int 0, .int 0, .int 0, .int 0, .int 0, .int 0, .int 0, .int (-1), .int 1])), (ou, .inl (alo, 1, .inr (.inl fo)))]) (wr := [(mo_, .inr (25, [.ref ti, .ref mfl, .ref mcr, .ref mst, .ref mtu, .int 1, .int 0, .int 1, .ref mfg, .ref mgr, .ref mme, .null, .int 0])), (mgr, .inr (5, [.int 0, .ref ade, .int 0]))]) hP hD hK hS hA [0, 1, 2] [3, 4] [] rfl rfl (by decide) (by decide) rfl (fun r_ u1 H locs hw2 hP hD hK hS => ?_)
  have hP : va_P G vwCl [(mo_, .inr (25, [.ref ti, .ref mfl, .ref mcr, .ref mst, .ref mtu, .int 1, .int 0, .int 1, .ref mfg, .ref mgr, .ref mme, .null, .int 0])), (mgr, .inr (5, [.int 0, .ref ade, .int 0]))] H := hP
  have hD : va_D A [(mo_, .inr (25, [.ref ti, .ref mfl, .ref mcr, .ref mst, .ref mtu, .int 1, .int 0, .int 1, .ref mfg, .ref mgr, .ref mme, .null, .int 0])), (mgr, .inr (5, [.int 0, .ref ade, .int 0]))] := hD
  have hK : va_K G vwCl [] s := hK
  refine W.widen (k := 161) (n := 21206) (Nat.le_of_ble_eq_true rfl) (Nat.le_of_ble_eq_true rfl) ?_
  obtain rfl : r_ = 1 := hw2
  refine lv_istore (lv' := [(6, .int 1), (5, .int 0), (4, .ref oud), (3, .ref ou), (2, .ref mo_), (1, .ref x), (0, .ref b)]) hx hb dL_law_1999 hl (by decide) rfl (fun ls hl => ?_)
  refine lv_aload_n hx hb dL_law_2001 rfl (lv_at hl 4 rfl) ?_
  refine lv_aload_n hx hb dL_law_2002 rfl (lv_at hl 6 rfl) ?_
  refine lv_iload hx hb dL_law_2003 (lv_at hl 1 rfl) ?_
  refine lv_iconst (v := 1) hx hb dL_law_2005 (by decide) ?_
  refine lv_iadd hx hb dL_law_2006 ?_
  refine lv_topi (fun v_ e_ => ?_)
  obtain rfl : v_ = 1 := e_.trans (by decide)
  refine va_sld hx hb hX hbl hbA hS (vin (by decide +kernel)) dL_law_2007 ?_
  refine ka_i (va_runV (As := [.int (xs (Int32.toNatClampNeg 1))]) (rest := []) ⟨hx, hb, hml, hown, hts⟩ (c_m_isStranded l G N0 ade adB H.size mo_ ti mfl mcr mst mtu mfg mgr mme 0 (xs (Int32.toNatClampNeg 1))) (cwV 1 hts (kgV q1083 q1084 q1085 q49 q1086) rfl rfl rfl (by decide +kernel) ⟨(Nat.le_of_ble_eq_true rfl), (Nat.le_of_ble_eq_true rfl)⟩) (kpreV (ci := 25) (q0 := 0) hP hD hK hAN hT hN hS [0, 1] [] (by decide) rfl rfl rfl rfl rfl) rfl rfl hl.1 rfl (lv_room (Nat.le_of_ble_eq_true rfl)) dL_law_2008 ⟨(Nat.le_of_ble_eq_true rfl), (Nat.le_of_ble_eq_true rfl)⟩) (ws := [(mo_, .inr (25, [.ref ti, .ref mfl, .ref mcr, .ref mst, .ref mtu, .int 1, .int 0, .int 1, .ref mfg, .ref mgr, .ref mme, .null, .int 0])), (mgr, .inr (5, [.int 0, .ref ade, .int 0]))]) (wc := [(mo_, .inr (25, [.ref ti, .ref mfl, .ref mcr, .ref mst, .ref mtu, .int 1, .int 0, .int 1, .ref mfg, .ref mgr, .ref mme, .null, .int 0])), (mgr, .inr (5, [.int 0, .ref ade, .int 0]))]) (wr := []) hP hD hK hS hA [0, 1] [] [] rfl rfl (by decide) (by decide) rfl (fun r_ u4 H locs hw5 hP hD hK hS => ?_)
  obtain ⟨fs3, rfl⟩ : ∃ z_, z_ = u4 := ⟨_, rfl⟩
  have hP : va_P G vwCl [(mo_, .inr (25, fs3))] H := hP
  have hD : va_D A [(mo_, .inr (25, fs3))] := hD
  have hK : va_K G vwCl [] s := hK
  refine W.widen (k := 161) (n := 21206) (Nat.le_of_ble_eq_true rfl) (Nat.le_of_ble_eq_true rfl) ?_
  have hf6 : fs3[12]? = some (.int (sp_m_isStranded (xs (Int32.toNatClampNeg 1)))) := hw5.2
  obtain rfl : r_ = (sv_m_isStranded (xs (Int32.toNatClampNeg 1))) := hw5.1
  refine lv_istore (lv' := [(7, .int (sv_m_isStranded (xs (Int32.toNatClampNeg 1)))), (6, .int 1), (5, .int 0), (4, .ref oud), (3, .ref ou), (2, .ref mo_), (1, .ref x), (0, .ref b)]) hx hb dL_law_2011 hl (by decide) rfl (fun ls hl => ?_)
  refine lv_aload_n hx hb dL_law_2013 rfl (lv_at hl 5 rfl) ?_
  refine ka_i (va_runV (As := []) (rest := []) ⟨hx, hb, hml, hown, hts⟩ (c_m_thrown l G N0 ade adB H.size mo_ fs3 (sp_m_isStranded (xs (Int32.toNatClampNeg 1))) hf6) (cwV 0 hts (kgV q748 q749 q750 q49 q751) rfl rfl rfl (by decide +kernel) ⟨(Nat.le_of_ble_eq_true rfl), (Nat.le_of_ble_eq_true rfl)⟩) (kpreV (ci := 25) (q0 := 0) hP hD hK hAN hT hN hS [0] [] (by decide) rfl rfl rfl rfl rfl) rfl rfl hl.1 rfl (lv_room (Nat.le_of_ble_eq_true rfl)) dL_law_2014 ⟨(Nat.le_of_ble_eq_true rfl), (Nat.le_of_ble_eq_true rfl)⟩) (ws := [(mo_, .inr (25, fs3))]) (wc := [(mo_, .inr (25, fs3))]) (wr := []) hP hD hK hS hA [0] [] [] rfl rfl (by decide) (by decide) rfl (fun r_ u8 H locs hw9 hP hD hK hS => ?_)
  have hP : va_P G vwCl [(mo_, .inr (25, fs3))] H := hP
  have hD : va_D A [(mo_, .inr (25, fs3))] := hD
  have hK : va_K G vwCl [] s := hK
  refine W.widen (k := 161) (n := 21206) (Nat.le_of_ble_eq_true rfl) (Nat.le_of_ble_eq_true rfl) ?_
  obtain rfl : r_ = (sp_m_isStranded (xs (Int32.toNatClampNeg 1))) := hw9
  refine lv_iload hx hb dL_law_2017 (lv_at hl 1 rfl) ?_
  refine lv_icmp_eq (tgt := 2024) hx hb dL_law_2019 (by decide) (fun _ => ?_) (fun h_ => absurd (show (sp_m_isStranded (xs (Int32.toNatClampNeg 1))) = 1 from rfl) h_)
  refine lv_iload hx hb dL_law_2024 (lv_at hl 1 rfl) ?_
  refine lv_if_ne (tgt := 2048) hx hb dL_law_2026 (by decide) (fun _ => ?_) (fun h_ => absurd h_ (by decide))
  refine lv_goto (tgt := 2435) hx hb dL_law_2048 (by decide) ?_
  exact law_tail hl0 hx hb hr hml hown hts hX hbl hlocks hT hAN hA hN hbA hAs hS (Nat.le_of_ble_eq_true rfl) (Nat.le_of_ble_eq_true rfl) (lv_sub hl [2, 7] rfl)

set_option maxHeartbeats 4000000 in
set_option maxRecDepth 100000 in
theorem law_lateBags {p : Program} {l : Launch} {e : Env} {s : State} {m : MethodId} {below : List Frame} {meth : Method} {c : Code} {b : Nat} {xs : Nat → Int32} {A : Nat → Prop} (hl0 : l.stackTraces = false) (hx : p.tables.exec = Jvm.exec) (hb : c.code = cL_law) (hr : meth.sig.returnType = ret) (hml : c.maxLocals = 9) (hown : s.vm.findClass RL = some m.cls) (hts : ∀ w ∈ lw_all, w.before #[Value.ref b] s = true) (hX : va_X b 7 xs s s.heap) (hbl : b < s.heap.size) (hlocks : meth.locks = false) {N0 ade : Nat} {adB : Nat → Nat} (hT : BT N0 ade adB s) (hAN : ∀ q, A q → KA N0 q) (hA : ∀ q, s.heap.size ≤ q → A q) (hN : N0 ≤ s.heap.size) (hbA : ¬ A b) (hAs : ∀ q, A q → s.heap.size ≤ q) {G : va_G} {x : Nat} {ag : Nat} {qch : Nat} {qsh : Nat} {qsc : Nat} {dy : Nat} {dc : Nat} {dl : Nat} {dp : Nat} {dcr : Nat} {dj : Nat} {ho : Nat} {idn : Nat} {lg : Nat} {pl : Nat} {qfl : Nat} {qac : Nat} {qcr : Nat} {qfg : Nat} {qgr : Nat} {qme : Nat} {qsf : Nat} {qsb : Nat} {qtu : Nat} {sg : Nat} {aho : ClassId} {fho : Nat → Int32} {mo_ : Nat} {ti : Nat} {mfl : Nat} {mcr : Nat} {mst : Nat} {mtu : Nat} {mfg : Nat} {mgr : Nat} {mme : Nat} {ou : Nat} {oud : Nat}  {H : Heap} {locs : List Loc} (hP : va_P G vwCl [(x, .inr (17, [.ref pl, .ref dy, .ref ag, .ref qch, .ref qsh, .ref qsc, .int 0, .int 0])), (dy, .inr (10, [.ref pl, .ref dc, .ref dl, .ref dp, .ref dcr, .ref dj, .ref ho, .ref idn, .ref lg, .int 0, .int 0, .int 0, .int 0, .int 0, .int 0, .int 0, .int 0, .int 0])), (lg, .inr (14, [.ref sg, .int 0])), (pl, .inr (16, [.ref qfl, .ref qac, .ref qcr, .ref qfg, .ref qgr, .ref qme, .ref qsf, .ref qsb, .ref qtu, .int 0, .int 0, .int 0, .int 0, .int 0, .int 0, .int 0, .int 0, .int (-1), .int 1])), (ho, .inl (aho, 6, .inl fho)), (mo_, .inr (25, [.ref ti, .ref mfl, .ref mcr, .ref mst, .ref mtu, .int 1, .int 0, .int 1, .ref mfg, .ref mgr, .ref mme, .null, .int 0])), (mfg, .inr (5, [.int 0, .ref ade, .int 0])), (mgr, .inr (5, [.int 0, .ref ade, .int 0])), (mfl, .inr (5, [.int 0, .ref ade, .int 0])), (mcr, .inr (5, [.int 0, .ref ade, .int 0])), (mme, .inr (5, [.int 0, .ref ade, .int 0]))] H) (hD : va_D A [(x, .inr (17, [.ref pl, .ref dy, .ref ag, .ref qch, .ref qsh, .ref qsc, .int 0, .int 0])), (dy, .inr (10, [.ref pl, .ref dc, .ref dl, .ref dp, .ref dcr, .ref dj, .ref ho, .ref idn, .ref lg, .int 0, .int 0, .int 0, .int 0, .int 0, .int 0, .int 0, .int 0, .int 0])), (lg, .inr (14, [.ref sg, .int 0])), (pl, .inr (16, [.ref qfl, .ref qac, .ref qcr, .ref qfg, .ref qgr, .ref qme, .ref qsf, .ref qsb, .ref qtu, .int 0, .int 0, .int 0, .int 0, .int 0, .int 0, .int 0, .int 0, .int (-1), .int 1])), (ho, .inl (aho, 6, .inl fho)), (mo_, .inr (25, [.ref ti, .ref mfl, .ref mcr, .ref mst, .ref mtu, .int 1, .int 0, .int 1, .ref mfg, .ref mgr, .ref mme, .null, .int 0])), (mfg, .inr (5, [.int 0, .ref ade, .int 0])), (mgr, .inr (5, [.int 0, .ref ade, .int 0])), (mfl, .inr (5, [.int 0, .ref ade, .int 0])), (mcr, .inr (5, [.int 0, .ref ade, .int 0])), (mme, .inr (5, [.int 0, .ref ade, .int 0]))]) (hK : va_K G vwCl [(aho, .int)] s) (hS : va_S A s.heap H locs) {ls : Array Slot} (hl : lv_has ls 9 [(5, .int 0), (4, .ref oud), (3, .ref ou), (2, .ref mo_), (1, .ref x), (0, .ref b)]) : W p l e room_1 s m #[Value.ref b] below meth c H locs 160 21200 (lw_Z below #[Value.ref b] s) (F0 m 2051 ls []) := by
  refine lv_aload_n hx hb dL_law_2051 rfl (lv_at hl 4 rfl) ?_
  refine ka_i (va_runV (As := []) (rest := []) ⟨hx, hb, hml, hown, hts⟩ (c_X11_lateBags l G N0 ade adB H.size x ag qch qsh qsc dy dc dl dp dcr dj ho idn lg pl qfl qac qcr qfg qgr qme qsf qsb qtu sg aho fho) (cwV 0 hts (kgV q313 q314 q315 q36 q316) rfl rfl rfl (by decide +kernel) ⟨(Nat.le_of_ble_eq_true rfl), (Nat.le_of_ble_eq_true rfl)⟩) (kpreV (ci := 17) (q0 := 0) hP hD hK hAN hT hN hS [0, 1, 2, 3, 4] [0] (by decide) rfl rfl rfl rfl rfl) rfl rfl hl.1 rfl (lv_room (Nat.le_of_ble_eq_true rfl)) dL_law_2052 ⟨(Nat.le_of_ble_eq_true rfl), (Nat.le_of_ble_eq_true rfl)⟩) (ws := [(x, .inr (17, [.ref pl, .ref dy, .ref ag, .ref qch, .ref qsh, .ref qsc, .int 0, .int 0])), (dy, .inr (10, [.ref pl, .ref dc, .ref dl, .ref dp, .ref dcr, .ref dj, .ref ho, .ref idn, .ref lg, .int 0, .int 0, .int 0, .int 0, .int 0, .int 0, .int 0, .int 0, .int 0])), (lg, .inr (14, [.ref sg, .int 0])), (pl, .inr (16, [.ref qfl, .ref qac, .ref qcr, .ref qfg, .ref qgr, .ref qme, .ref qsf, .ref qsb, .ref qtu, .int 0, .int 0, .int 0, .int 0, .int 0, .int 0, .int 0, .int 0, .int (-1), .int 1])), (ho, .inl (aho, 6, .inl fho)), (mo_, .inr (25, [.ref ti, .ref mfl, .ref mcr, .ref mst, .ref mtu, .int 1, .int 0, .int 1, .ref mfg, .ref mgr, .ref mme, .null, .int 0])), (mfg, .inr (5, [.int 0, .ref ade, .int 0])), (mgr, .inr (5, [.int 0, .ref ade, .int 0])), (mfl, .inr (5, [.int 0, .ref ade, .int 0])), (mcr, .inr (5, [.int 0, .ref ade, .int 0])), (mme, .inr (5, [.int 0, .ref ade, .int 0]))]) (wc := [(x, .inr (17, [.ref pl, .ref dy, .ref ag, .ref qch, .ref qsh, .ref qsc, .int 0, .int 0])), (dy, .inr (10, [.ref pl, .ref dc, .ref dl, .ref dp, .ref dcr, .ref dj, .ref ho, .ref idn, .ref lg, .int 0, .int 0, .int 0, .int 0, .int 0, .int 0, .int 0, .int 0, .int 0])), (lg, .inr (14, [.ref sg, .int 0])), (pl, .inr (16, [.ref qfl, .ref qac, .ref qcr, .ref qfg, .ref qgr, .ref qme, .ref qsf, .ref qsb, .ref qtu, .int 0, .int 0, .int 0, .int 0, .int 0, .int 0, .int 0, .int 0, .int (-1), .int 1])), (ho, .inl (aho, 6, .inl fho))]) (wr := [(mo_, .inr (25, [.ref ti, .ref mfl, .ref mcr, .ref mst, .ref mtu, .int 1, .int 0, .int 1, .ref mfg, .ref mgr, .ref mme, .null, .int 0])), (mfg, .inr (5, [.int 0, .ref ade, .int 0])), (mgr, .inr (5, [.int 0, .ref ade, .int 0])), (mfl, .inr (5, [.int 0, .ref ade, .int 0])), (mcr, .inr (5, [.int 0, .ref ade, .int 0])), (mme, .inr (5, [.int 0, .ref ade, .int 0]))]) hP hD hK hS hA [0, 1, 2, 3, 4] [5, 6, 7, 8, 9, 10] [] rfl rfl (by decide) (by decide) rfl (fun r_ u1 H locs hw2 hP hD hK hS => ?_)
  have hP : va_P G vwCl [(mo_, .inr (25, [.ref ti, .ref mfl, .ref mcr, .ref mst, .ref mtu, .int 1, .int 0, .int 1, .ref mfg, .ref mgr, .ref mme, .null, .int 0])), (mfg, .inr (5, [.int 0, .ref ade, .int 0])), (mgr, .inr (5, [.int 0, .ref ade, .int 0])), (mfl, .inr (5, [.int 0, .ref ade, .int 0])), (mcr, .inr (5, [.int 0, .ref ade, .int 0])), (mme, .inr (5, [.int 0, .ref ade, .int 0]))] H := hP
  have hD : va_D A [(mo_, .inr (25, [.ref ti, .ref mfl, .ref mcr, .ref mst, .ref mtu, .int 1, .int 0, .int 1, .ref mfg, .ref mgr, .ref mme, .null, .int 0])), (mfg, .inr (5, [.int 0, .ref ade, .int 0])), (mgr, .inr (5, [.int 0, .ref ade, .int 0])), (mfl, .inr (5, [.int 0, .ref ade, .int 0])), (mcr, .inr (5, [.int 0, .ref ade, .int 0])), (mme, .inr (5, [.int 0, .ref ade, .int 0]))] := hD
  have hK : va_K G vwCl [] s := hK
  refine W.widen (k := 160) (n := 21200) (Nat.le_of_ble_eq_true rfl) (Nat.le_of_ble_eq_true rfl) ?_
  obtain rfl : r_ = 0 := hw2
  refine lv_aload_n hx hb dL_law_2055 rfl (lv_at hl 3 rfl) ?_
  refine ka_i (va_runV (As := []) (rest := [.int 0]) ⟨hx, hb, hml, hown, hts⟩ (c_m_lateBags l G N0 ade adB H.size mo_ ti mfl mcr mst mtu mfg mgr mme 0) (cwV 0 hts (kgV q1087 q1088 q1089 q49 q1090) rfl rfl rfl (by decide +kernel) ⟨(Nat.le_of_ble_eq_true rfl), (Nat.le_of_ble_eq_true rfl)⟩) (kpreV (ci := 25) (q0 := 0) hP hD hK hAN hT hN hS [0, 1, 2, 3, 4, 5] [] (by decide) rfl rfl rfl rfl rfl) rfl rfl hl.1 rfl (lv_room (Nat.le_of_ble_eq_true rfl)) dL_law_2056 ⟨(Nat.le_of_ble_eq_true rfl), (Nat.le_of_ble_eq_true rfl)⟩) (ws := [(mo_, .inr (25, [.ref ti, .ref mfl, .ref mcr, .ref mst, .ref mtu, .int 1, .int 0, .int 1, .ref mfg, .ref mgr, .ref mme, .null, .int 0])), (mfg, .inr (5, [.int 0, .ref ade, .int 0])), (mgr, .inr (5, [.int 0, .ref ade, .int 0])), (mfl, .inr (5, [.int 0, .ref ade, .int 0])), (mcr, .inr (5, [.int 0, .ref ade, .int 0])), (mme, .inr (5, [.int 0, .ref ade, .int 0]))]) (wc := [(mo_, .inr (25, [.ref ti, .ref mfl, .ref mcr, .ref mst, .ref mtu, .int 1, .int 0, .int 1, .ref mfg, .ref mgr, .ref mme, .null, .int 0])), (mfg, .inr (5, [.int 0, .ref ade, .int 0])), (mgr, .inr (5, [.int 0, .ref ade, .int 0])), (mfl, .inr (5, [.int 0, .ref ade, .int 0])), (mcr, .inr (5, [.int 0, .ref ade, .int 0])), (mme, .inr (5, [.int 0, .ref ade, .int 0]))]) (wr := []) hP hD hK hS hA [0, 1, 2, 3, 4, 5] [] [] rfl rfl (by decide) (by decide) rfl (fun r_ u4 H locs hw5 hP hD hK hS => ?_)
  obtain ⟨fs3, rfl⟩ : ∃ z_, z_ = u4 := ⟨_, rfl⟩
  have hP : va_P G vwCl [(mo_, .inr (25, fs3))] H := hP
  have hD : va_D A [(mo_, .inr (25, fs3))] := hD
  have hK : va_K G vwCl [] s := hK
  refine W.widen (k := 30184) (n := 141363) (Nat.le_of_ble_eq_true rfl) (Nat.le_of_ble_eq_true rfl) ?_
  have hf6 : fs3[12]? = some (.int (sp_m_lateBags)) := hw5.2
  obtain rfl : r_ = (sv_m_lateBags) := hw5.1
  refine lv_icmp_eq (tgt := 2435) hx hb dL_law_2059 (by decide) (fun _ => ?_) (fun h_ => absurd (show (0 : Int32) = (sv_m_lateBags) from rfl) h_)
  exact law_tail hl0 hx hb hr hml hown hts hX hbl hlocks hT hAN hA hN hbA hAs hS (Nat.le_of_ble_eq_true rfl) (Nat.le_of_ble_eq_true rfl) (lv_sub hl [0, 5] rfl)

set_option maxHeartbeats 4000000 in
set_option maxRecDepth 100000 in
theorem law_missed {p : Program} {l : Launch} {e : Env} {s : State} {m : MethodId} {below : List Frame} {meth : Method} {c : Code} {b : Nat} {xs : Nat → Int32} {A : Nat → Prop} (hl0 : l.stackTraces = false) (hx : p.tables.exec = Jvm.exec) (hb : c.code = cL_law) (hr : meth.sig.returnType = ret) (hml : c.maxLocals = 9) (hown : s.vm.findClass RL = some m.cls) (hts : ∀ w ∈ lw_all, w.before #[Value.ref b] s = true) (hX : va_X b 7 xs s s.heap) (hbl : b < s.heap.size) (hlocks : meth.locks = false) {N0 ade : Nat} {adB : Nat → Nat} (hT : BT N0 ade adB s) (hAN : ∀ q, A q → KA N0 q) (hA : ∀ q, s.heap.size ≤ q → A q) (hN : N0 ≤ s.heap.size) (hbA : ¬ A b) (hAs : ∀ q, A q → s.heap.size ≤ q) {G : va_G} {x : Nat} {ag : Nat} {qch : Nat} {qsh : Nat} {qsc : Nat} {dy : Nat} {dc : Nat} {dl : Nat} {dp : Nat} {dcr : Nat} {dj : Nat} {ho : Nat} {idn : Nat} {lg : Nat} {pl : Nat} {qfl : Nat} {qac : Nat} {qcr : Nat} {qfg : Nat} {qgr : Nat} {qme : Nat} {qsf : Nat} {qsb : Nat} {qtu : Nat} {sg : Nat} {aho : ClassId} {fho : Nat → Int32} {mo_ : Nat} {ti : Nat} {mfl : Nat} {mcr : Nat} {mst : Nat} {mtu : Nat} {mfg : Nat} {mgr : Nat} {mme : Nat} {ou : Nat} {oud : Nat}  {H : Heap} {locs : List Loc} (hP : va_P G vwCl [(x, .inr (17, [.ref pl, .ref dy, .ref ag, .ref qch, .ref qsh, .ref qsc, .int 0, .int 0])), (dy, .inr (10, [.ref pl, .ref dc, .ref dl, .ref dp, .ref dcr, .ref dj, .ref ho, .ref idn, .ref lg, .int 0, .int 0, .int 0, .int 0, .int 0, .int 0, .int 0, .int 0, .int 0])), (lg, .inr (14, [.ref sg, .int 0])), (pl, .inr (16, [.ref qfl, .ref qac, .ref qcr, .ref qfg, .ref qgr, .ref qme, .ref qsf, .ref qsb, .ref qtu, .int 0, .int 0, .int 0, .int 0, .int 0, .int 0, .int 0, .int 0, .int (-1), .int 1])), (ho, .inl (aho, 6, .inl fho)), (mo_, .inr (25, [.ref ti, .ref mfl, .ref mcr, .ref mst, .ref mtu, .int 1, .int 0, .int 1, .ref mfg, .ref mgr, .ref mme, .null, .int 0])), (mfg, .inr (5, [.int 0, .ref ade, .int 0])), (mgr, .inr (5, [.int 0, .ref ade, .int 0])), (mfl, .inr (5, [.int 0, .ref ade, .int 0])), (mcr, .inr (5, [.int 0, .ref ade, .int 0])), (mme, .inr (5, [.int 0, .ref ade, .int 0]))] H) (hD : va_D A [(x, .inr (17, [.ref pl, .ref dy, .ref ag, .ref qch, .ref qsh, .ref qsc, .int 0, .int 0])), (dy, .inr (10, [.ref pl, .ref dc, .ref dl, .ref dp, .ref dcr, .ref dj, .ref ho, .ref idn, .ref lg, .int 0, .int 0, .int 0, .int 0, .int 0, .int 0, .int 0, .int 0, .int 0])), (lg, .inr (14, [.ref sg, .int 0])), (pl, .inr (16, [.ref qfl, .ref qac, .ref qcr, .ref qfg, .ref qgr, .ref qme, .ref qsf, .ref qsb, .ref qtu, .int 0, .int 0, .int 0, .int 0, .int 0, .int 0, .int 0, .int 0, .int (-1), .int 1])), (ho, .inl (aho, 6, .inl fho)), (mo_, .inr (25, [.ref ti, .ref mfl, .ref mcr, .ref mst, .ref mtu, .int 1, .int 0, .int 1, .ref mfg, .ref mgr, .ref mme, .null, .int 0])), (mfg, .inr (5, [.int 0, .ref ade, .int 0])), (mgr, .inr (5, [.int 0, .ref ade, .int 0])), (mfl, .inr (5, [.int 0, .ref ade, .int 0])), (mcr, .inr (5, [.int 0, .ref ade, .int 0])), (mme, .inr (5, [.int 0, .ref ade, .int 0]))]) (hK : va_K G vwCl [(aho, .int)] s) (hS : va_S A s.heap H locs) {ls : Array Slot} (hl : lv_has ls 9 [(5, .int 0), (4, .ref oud), (3, .ref ou), (2, .ref mo_), (1, .ref x), (0, .ref b)]) : W p l e room_1 s m #[Value.ref b] below meth c H locs 160 21200 (lw_Z below #[Value.ref b] s) (F0 m 2064 ls []) := by
  refine lv_aload_n hx hb dL_law_2064 rfl (lv_at hl 4 rfl) ?_
  refine ka_i (va_runV (As := []) (rest := []) ⟨hx, hb, hml, hown, hts⟩ (c_X11_missed l G N0 ade adB H.size x ag qch qsh qsc dy dc dl dp dcr dj ho idn lg pl qfl qac qcr qfg qgr qme qsf qsb qtu sg aho fho) (cwV 0 hts (kgV q387 q388 q389 q36 q390) rfl rfl rfl (by decide +kernel) ⟨(Nat.le_of_ble_eq_true rfl), (Nat.le_of_ble_eq_true rfl)⟩) (kpreV (ci := 17) (q0 := 0) hP hD hK hAN hT hN hS [0, 1, 2, 3, 4] [0] (by decide) rfl rfl rfl rfl rfl) rfl rfl hl.1 rfl (lv_room (Nat.le_of_ble_eq_true rfl)) dL_law_2065 ⟨(Nat.le_of_ble_eq_true rfl), (Nat.le_of_ble_eq_true rfl)⟩) (ws := [(x, .inr (17, [.ref pl, .ref dy, .ref ag, .ref qch, .ref qsh, .ref qsc, .int 0, .int 0])), (dy, .inr (10, [.ref pl, .ref dc, .ref dl, .ref dp, .ref dcr, .ref dj, .ref ho, .ref idn, .ref lg, .int 0, .int 0, .int 0, .int 0, .int 0, .int 0, .int 0, .int 0, .int 0])), (lg, .inr (14, [.ref sg, .int 0])), (pl, .inr (16, [.ref qfl, .ref qac, .ref qcr, .ref qfg, .ref qgr, .ref qme, .ref qsf, .ref qsb, .ref qtu, .int 0, .int 0, .int 0, .int 0, .int 0, .int 0, .int 0, .int 0, .int (-1), .int 1])), (ho, .inl (aho, 6, .inl fho)), (mo_, .inr (25, [.ref ti, .ref mfl, .ref mcr, .ref mst, .ref mtu, .int 1, .int 0, .int 1, .ref mfg, .ref mgr, .ref mme, .null, .int 0])), (mfg, .inr (5, [.int 0, .ref ade, .int 0])), (mgr, .inr (5, [.int 0, .ref ade, .int 0])), (mfl, .inr (5, [.int 0, .ref ade, .int 0])), (mcr, .inr (5, [.int 0, .ref ade, .int 0])), (mme, .inr (5, [.int 0, .ref ade, .int 0]))]) (wc := [(x, .inr (17, [.ref pl, .ref dy, .ref ag, .ref qch, .ref qsh, .ref qsc, .int 0, .int 0])), (dy, .inr (10, [.ref pl, .ref dc, .ref dl, .ref dp, .ref dcr, .ref dj, .ref ho, .ref idn, .ref lg, .int 0, .int 0, .int 0, .int 0, .int 0, .int 0, .int 0, .int 0, .int 0])), (lg, .inr (14, [.ref sg, .int 0])), (pl, .inr (16, [.ref qfl, .ref qac, .ref qcr, .ref qfg, .ref qgr, .ref qme, .ref qsf, .ref qsb, .ref qtu, .int 0, .int 0, .int 0, .int 0, .int 0, .int 0, .int 0, .int 0, .int (-1), .int 1])), (ho, .inl (aho, 6, .inl fho))]) (wr := [(mo_, .inr (25, [.ref ti, .ref mfl, .ref mcr, .ref mst, .ref mtu, .int 1, .int 0, .int 1, .ref mfg, .ref mgr, .ref mme, .null, .int 0])), (mfg, .inr (5, [.int 0, .ref ade, .int 0])), (mgr, .inr (5, [.int 0, .ref ade, .int 0])), (mfl, .inr (5, [.int 0, .ref ade, .int 0])), (mcr, .inr (5, [.int 0, .ref ade, .int 0])), (mme, .inr (5, [.int 0, .ref ade, .int 0]))]) hP hD hK hS hA [0, 1, 2, 3, 4] [5, 6, 7, 8, 9, 10] [] rfl rfl (by decide) (by decide) rfl (fun r_ u1 H locs hw2 hP hD hK hS => ?_)
  have hP : va_P G vwCl [(mo_, .inr (25, [.ref ti, .ref mfl, .ref mcr, .ref mst, .ref mtu, .int 1, .int 0, .int 1, .ref mfg, .ref mgr, .ref mme, .null, .int 0])), (mfg, .inr (5, [.int 0, .ref ade, .int 0])), (mgr, .inr (5, [.int 0, .ref ade, .int 0])), (mfl, .inr (5, [.int 0, .ref ade, .int 0])), (mcr, .inr (5, [.int 0, .ref ade, .int 0])), (mme, .inr (5, [.int 0, .ref ade, .int 0]))] H := hP
  have hD : va_D A [(mo_, .inr (25, [.ref ti, .ref mfl, .ref mcr, .ref mst, .ref mtu, .int 1, .int 0, .int 1, .ref mfg, .ref mgr, .ref mme, .null, .int 0])), (mfg, .inr (5, [.int 0, .ref ade, .int 0])), (mgr, .inr (5, [.int 0, .ref ade, .int 0])), (mfl, .inr (5, [.int 0, .ref ade, .int 0])), (mcr, .inr (5, [.int 0, .ref ade, .int 0])), (mme, .inr (5, [.int 0, .ref ade, .int 0]))] := hD
  have hK : va_K G vwCl [] s := hK
  refine W.widen (k := 160) (n := 21200) (Nat.le_of_ble_eq_true rfl) (Nat.le_of_ble_eq_true rfl) ?_
  obtain rfl : r_ = 0 := hw2
  refine lv_aload_n hx hb dL_law_2068 rfl (lv_at hl 3 rfl) ?_
  refine ka_i (va_runV (As := []) (rest := [.int 0]) ⟨hx, hb, hml, hown, hts⟩ (c_m_missed l G N0 ade adB H.size mo_ ti mfl mcr mst mtu mfg mgr mme 0) (cwV 0 hts (kgV q1091 q1092 q1093 q49 q1094) rfl rfl rfl (by decide +kernel) ⟨(Nat.le_of_ble_eq_true rfl), (Nat.le_of_ble_eq_true rfl)⟩) (kpreV (ci := 25) (q0 := 0) hP hD hK hAN hT hN hS [0, 1, 2, 3, 4, 5] [] (by decide) rfl rfl rfl rfl rfl) rfl rfl hl.1 rfl (lv_room (Nat.le_of_ble_eq_true rfl)) dL_law_2069 ⟨(Nat.le_of_ble_eq_true rfl), (Nat.le_of_ble_eq_true rfl)⟩) (ws := [(mo_, .inr (25, [.ref ti, .ref mfl, .ref mcr, .ref mst, .ref mtu, .int 1, .int 0, .int 1, .ref mfg, .ref mgr, .ref mme, .null, .int 0])), (mfg, .inr (5, [.int 0, .ref ade, .int 0])), (mgr, .inr (5, [.int 0, .ref ade, .int 0])), (mfl, .inr (5, [.int 0, .ref ade, .int 0])), (mcr, .inr (5, [.int 0, .ref ade, .int 0])), (mme, .inr (5, [.int 0, .ref ade, .int 0]))]) (wc := [(mo_, .inr (25, [.ref ti, .ref mfl, .ref mcr, .ref mst, .ref mtu, .int 1, .int 0, .int 1, .ref mfg, .ref mgr, .ref mme, .null, .int 0])), (mfg, .inr (5, [.int 0, .ref ade, .int 0])), (mgr, .inr (5, [.int 0, .ref ade, .int 0])), (mfl, .inr (5, [.int 0, .ref ade, .int 0])), (mcr, .inr (5, [.int 0, .ref ade, .int 0])), (mme, .inr (5, [.int 0, .ref ade, .int 0]))]) (wr := []) hP hD hK hS hA [0, 1, 2, 3, 4, 5] [] [] rfl rfl (by decide) (by decide) rfl (fun r_ u4 H locs hw5 hP hD hK hS => ?_)
  obtain ⟨fs3, rfl⟩ : ∃ z_, z_ = u4 := ⟨_, rfl⟩
  have hP : va_P G vwCl [(mo_, .inr (25, fs3))] H := hP
  have hD : va_D A [(mo_, .inr (25, fs3))] := hD
  have hK : va_K G vwCl [] s := hK
  refine W.widen (k := 30184) (n := 141363) (Nat.le_of_ble_eq_true rfl) (Nat.le_of_ble_eq_true rfl) ?_
  have hf6 : fs3[12]? = some (.int (sp_m_missed)) := hw5.2
  obtain rfl : r_ = (sv_m_missed) := hw5.1
  refine lv_icmp_eq (tgt := 2435) hx hb dL_law_2072 (by decide) (fun _ => ?_) (fun h_ => absurd (show (0 : Int32) = (sv_m_missed) from rfl) h_)
  exact law_tail hl0 hx hb hr hml hown hts hX hbl hlocks hT hAN hA hN hbA hAs hS (Nat.le_of_ble_eq_true rfl) (Nat.le_of_ble_eq_true rfl) (lv_sub hl [0, 5] rfl)

set_option maxHeartbeats 4000000 in
set_option maxRecDepth 100000 in
theorem law_harm {p : Program} {l : Launch} {e : Env} {s : State} {m : MethodId} {below : List Frame} {meth : Method} {c : Code} {b : Nat} {xs : Nat → Int32} {A : Nat → Prop} (hl0 : l.stackTraces = false) (hx : p.tables.exec = Jvm.exec) (hb : c.code = cL_law) (hr : meth.sig.returnType = ret) (hml : c.maxLocals = 9) (hown : s.vm.findClass RL = some m.cls) (hts : ∀ w ∈ lw_all, w.before #[Value.ref b] s = true) (hX : va_X b 7 xs s s.heap) (hbl : b < s.heap.size) (hlocks : meth.locks = false) {N0 ade : Nat} {adB : Nat → Nat} (hT : BT N0 ade adB s) (hAN : ∀ q, A q → KA N0 q) (hA : ∀ q, s.heap.size ≤ q → A q) (hN : N0 ≤ s.heap.size) (hbA : ¬ A b) (hAs : ∀ q, A q → s.heap.size ≤ q) {G : va_G} {x : Nat} {ag : Nat} {qch : Nat} {qsh : Nat} {qsc : Nat} {dy : Nat} {dc : Nat} {dl : Nat} {dp : Nat} {dcr : Nat} {dj : Nat} {ho : Nat} {idn : Nat} {lg : Nat} {pl : Nat} {qfl : Nat} {qac : Nat} {qcr : Nat} {qfg : Nat} {qgr : Nat} {qme : Nat} {qsf : Nat} {qsb : Nat} {qtu : Nat} {sg : Nat} {aho : ClassId} {fho : Nat → Int32} {mo_ : Nat} {ti : Nat} {mfl : Nat} {mcr : Nat} {mst : Nat} {mtu : Nat} {mfg : Nat} {mgr : Nat} {mme : Nat} {ou : Nat} {oud : Nat}  {H : Heap} {locs : List Loc} (hP : va_P G vwCl [(x, .inr (17, [.ref pl, .ref dy, .ref ag, .ref qch, .ref qsh, .ref qsc, .int 0, .int 0])), (dy, .inr (10, [.ref pl, .ref dc, .ref dl, .ref dp, .ref dcr, .ref dj, .ref ho, .ref idn, .ref lg, .int 0, .int 0, .int 0, .int 0, .int 0, .int 0, .int 0, .int 0, .int 0])), (lg, .inr (14, [.ref sg, .int 0])), (pl, .inr (16, [.ref qfl, .ref qac, .ref qcr, .ref qfg, .ref qgr, .ref qme, .ref qsf, .ref qsb, .ref qtu, .int 0, .int 0, .int 0, .int 0, .int 0, .int 0, .int 0, .int 0, .int (-1), .int 1])), (ho, .inl (aho, 6, .inl fho)), (mo_, .inr (25, [.ref ti, .ref mfl, .ref mcr, .ref mst, .ref mtu, .int 1, .int 0, .int 1, .ref mfg, .ref mgr, .ref mme, .null, .int 0])), (mfg, .inr (5, [.int 0, .ref ade, .int 0])), (mgr, .inr (5, [.int 0, .ref ade, .int 0])), (mfl, .inr (5, [.int 0, .ref ade, .int 0])), (mcr, .inr (5, [.int 0, .ref ade, .int 0])), (mme, .inr (5, [.int 0, .ref ade, .int 0]))] H) (hD : va_D A [(x, .inr (17, [.ref pl, .ref dy, .ref ag, .ref qch, .ref qsh, .ref qsc, .int 0, .int 0])), (dy, .inr (10, [.ref pl, .ref dc, .ref dl, .ref dp, .ref dcr, .ref dj, .ref ho, .ref idn, .ref lg, .int 0, .int 0, .int 0, .int 0, .int 0, .int 0, .int 0, .int 0, .int 0])), (lg, .inr (14, [.ref sg, .int 0])), (pl, .inr (16, [.ref qfl, .ref qac, .ref qcr, .ref qfg, .ref qgr, .ref qme, .ref qsf, .ref qsb, .ref qtu, .int 0, .int 0, .int 0, .int 0, .int 0, .int 0, .int 0, .int 0, .int (-1), .int 1])), (ho, .inl (aho, 6, .inl fho)), (mo_, .inr (25, [.ref ti, .ref mfl, .ref mcr, .ref mst, .ref mtu, .int 1, .int 0, .int 1, .ref mfg, .ref mgr, .ref mme, .null, .int 0])), (mfg, .inr (5, [.int 0, .ref ade, .int 0])), (mgr, .inr (5, [.int 0, .ref ade, .int 0])), (mfl, .inr (5, [.int 0, .ref ade, .int 0])), (mcr, .inr (5, [.int 0, .ref ade, .int 0])), (mme, .inr (5, [.int 0, .ref ade, .int 0]))]) (hK : va_K G vwCl [(aho, .int)] s) (hS : va_S A s.heap H locs) {ls : Array Slot} (hl : lv_has ls 9 [(5, .int 0), (4, .ref oud), (3, .ref ou), (2, .ref mo_), (1, .ref x), (0, .ref b)]) : W p l e room_1 s m #[Value.ref b] below meth c H locs 160 21200 (lw_Z below #[Value.ref b] s) (F0 m 2077 ls []) := by
  refine lv_aload_n hx hb dL_law_2077 rfl (lv_at hl 4 rfl) ?_
  refine ka_i (va_runV (As := []) (rest := []) ⟨hx, hb, hml, hown, hts⟩ (c_X11_harm l G N0 ade adB H.size x ag qch qsh qsc dy dc dl dp dcr dj ho idn lg pl qfl qac qcr qfg qgr qme qsf qsb qtu sg aho fho) (cwV 0 hts (kgV q391 q392 q393 q36 q394) rfl rfl rfl (by decide +kernel) ⟨(Nat.le_of_ble_eq_true rfl), (Nat.le_of_ble_eq_true rfl)⟩) (kpreV (ci := 17) (q0 := 0) hP hD hK hAN hT hN hS [0, 1, 2, 3, 4] [0] (by decide) rfl rfl rfl rfl rfl) rfl rfl hl.1 rfl (lv_room (Nat.le_of_ble_eq_true rfl)) dL_law_2078 ⟨(Nat.le_of_ble_eq_true rfl), (Nat.le_of_ble_eq_true rfl)⟩) (ws := [(x, .inr (17, [.ref pl, .ref dy, .ref ag, .ref qch, .ref qsh, .ref qsc, .int 0, .int 0])), (dy, .inr (10, [.ref pl, .ref dc, .ref dl, .ref dp, .ref dcr, .ref dj, .ref ho, .ref idn, .ref lg, .int 0, .int 0, .int 0, .int 0, .int 0, .int 0, .int 0, .int 0, .int 0])), (lg, .inr (14, [.ref sg, .int 0])), (pl, .inr (16, [.ref qfl, .ref qac, .ref qcr, .ref qfg, .ref qgr, .ref qme, .ref qsf, .ref qsb, .ref qtu, .int 0, .int 0, .int 0, .int 0, .int 0, .int 0, .int 0, .int 0, .int (-1), .int 1])), (ho, .inl (aho, 6, .inl fho)), (mo_, .inr (25, [.ref ti, .ref mfl, .ref mcr, .ref mst, .ref mtu, .int 1, .int 0, .int 1, .ref mfg, .ref mgr, .ref mme, .null, .int 0])), (mfg, .inr (5, [.int 0, .ref ade, .int 0])), (mgr, .inr (5, [.int 0, .ref ade, .int 0])), (mfl, .inr (5, [.int 0, .ref ade, .int 0])), (mcr, .inr (5, [.int 0, .ref ade, .int 0])), (mme, .inr (5, [.int 0, .ref ade, .int 0]))]) (wc := [(x, .inr (17, [.ref pl, .ref dy, .ref ag, .ref qch, .ref qsh, .ref qsc, .int 0, .int 0])), (dy, .inr (10, [.ref pl, .ref dc, .ref dl, .ref dp, .ref dcr, .ref dj, .ref ho, .ref idn, .ref lg, .int 0, .int 0, .int 0, .int 0, .int 0, .int 0, .int 0, .int 0, .int 0])), (lg, .inr (14, [.ref sg, .int 0])), (pl, .inr (16, [.ref qfl, .ref qac, .ref qcr, .ref qfg, .ref qgr, .ref qme, .ref qsf, .ref qsb, .ref qtu, .int 0, .int 0, .int 0, .int 0, .int 0, .int 0, .int 0, .int 0, .int (-1), .int 1])), (ho, .inl (aho, 6, .inl fho))]) (wr := [(mo_, .inr (25, [.ref ti, .ref mfl, .ref mcr, .ref mst, .ref mtu, .int 1, .int 0, .int 1, .ref mfg, .ref mgr, .ref mme, .null, .int 0])), (mfg, .inr (5, [.int 0, .ref ade, .int 0])), (mgr, .inr (5, [.int 0, .ref ade, .int 0])), (mfl, .inr (5, [.int 0, .ref ade, .int 0])), (mcr, .inr (5, [.int 0, .ref ade, .int 0])), (mme, .inr (5, [.int 0, .ref ade, .int 0]))]) hP hD hK hS hA [0, 1, 2, 3, 4] [5, 6, 7, 8, 9, 10] [] rfl rfl (by decide) (by decide) rfl (fun r_ u1 H locs hw2 hP hD hK hS => ?_)
  have hP : va_P G vwCl [(mo_, .inr (25, [.ref ti, .ref mfl, .ref mcr, .ref mst, .ref mtu, .int 1, .int 0, .int 1, .ref mfg, .ref mgr, .ref mme, .null, .int 0])), (mfg, .inr (5, [.int 0, .ref ade, .int 0])), (mgr, .inr (5, [.int 0, .ref ade, .int 0])), (mfl, .inr (5, [.int 0, .ref ade, .int 0])), (mcr, .inr (5, [.int 0, .ref ade, .int 0])), (mme, .inr (5, [.int 0, .ref ade, .int 0]))] H := hP
  have hD : va_D A [(mo_, .inr (25, [.ref ti, .ref mfl, .ref mcr, .ref mst, .ref mtu, .int 1, .int 0, .int 1, .ref mfg, .ref mgr, .ref mme, .null, .int 0])), (mfg, .inr (5, [.int 0, .ref ade, .int 0])), (mgr, .inr (5, [.int 0, .ref ade, .int 0])), (mfl, .inr (5, [.int 0, .ref ade, .int 0])), (mcr, .inr (5, [.int 0, .ref ade, .int 0])), (mme, .inr (5, [.int 0, .ref ade, .int 0]))] := hD
  have hK : va_K G vwCl [] s := hK
  refine W.widen (k := 160) (n := 21200) (Nat.le_of_ble_eq_true rfl) (Nat.le_of_ble_eq_true rfl) ?_
  obtain rfl : r_ = 0 := hw2
  refine lv_aload_n hx hb dL_law_2081 rfl (lv_at hl 3 rfl) ?_
  refine ka_i (va_runV (As := []) (rest := [.int 0]) ⟨hx, hb, hml, hown, hts⟩ (c_m_harm l G N0 ade adB H.size mo_ ti mfl mcr mst mtu mfg mgr mme 0) (cwV 0 hts (kgV q1095 q1096 q1097 q49 q1098) rfl rfl rfl (by decide +kernel) ⟨(Nat.le_of_ble_eq_true rfl), (Nat.le_of_ble_eq_true rfl)⟩) (kpreV (ci := 25) (q0 := 0) hP hD hK hAN hT hN hS [0, 1, 2, 3, 4, 5] [] (by decide) rfl rfl rfl rfl rfl) rfl rfl hl.1 rfl (lv_room (Nat.le_of_ble_eq_true rfl)) dL_law_2082 ⟨(Nat.le_of_ble_eq_true rfl), (Nat.le_of_ble_eq_true rfl)⟩) (ws := [(mo_, .inr (25, [.ref ti, .ref mfl, .ref mcr, .ref mst, .ref mtu, .int 1, .int 0, .int 1, .ref mfg, .ref mgr, .ref mme, .null, .int 0])), (mfg, .inr (5, [.int 0, .ref ade, .int 0])), (mgr, .inr (5, [.int 0, .ref ade, .int 0])), (mfl, .inr (5, [.int 0, .ref ade, .int 0])), (mcr, .inr (5, [.int 0, .ref ade, .int 0])), (mme, .inr (5, [.int 0, .ref ade, .int 0]))]) (wc := [(mo_, .inr (25, [.ref ti, .ref mfl, .ref mcr, .ref mst, .ref mtu, .int 1, .int 0, .int 1, .ref mfg, .ref mgr, .ref mme, .null, .int 0])), (mfg, .inr (5, [.int 0, .ref ade, .int 0])), (mgr, .inr (5, [.int 0, .ref ade, .int 0])), (mfl, .inr (5, [.int 0, .ref ade, .int 0])), (mcr, .inr (5, [.int 0, .ref ade, .int 0])), (mme, .inr (5, [.int 0, .ref ade, .int 0]))]) (wr := []) hP hD hK hS hA [0, 1, 2, 3, 4, 5] [] [] rfl rfl (by decide) (by decide) rfl (fun r_ u4 H locs hw5 hP hD hK hS => ?_)
  obtain ⟨fs3, rfl⟩ : ∃ z_, z_ = u4 := ⟨_, rfl⟩
  have hP : va_P G vwCl [(mo_, .inr (25, fs3))] H := hP
  have hD : va_D A [(mo_, .inr (25, fs3))] := hD
  have hK : va_K G vwCl [] s := hK
  refine W.widen (k := 30186) (n := 141371) (Nat.le_of_ble_eq_true rfl) (Nat.le_of_ble_eq_true rfl) ?_
  have hf6 : fs3[12]? = some (.int (sp_m_harm)) := hw5.2
  obtain rfl : r_ = (sv_m_harm) := hw5.1
  refine lv_icmp_eq (tgt := 2435) hx hb dL_law_2085 (by decide) (fun _ => ?_) (fun h_ => absurd (show (0 : Int32) = (sv_m_harm) from rfl) h_)
  exact law_tail hl0 hx hb hr hml hown hts hX hbl hlocks hT hAN hA hN hbA hAs hS (Nat.le_of_ble_eq_true rfl) (Nat.le_of_ble_eq_true rfl) (lv_sub hl [0, 5] rfl)

set_option maxHeartbeats 4000000 in
set_option maxRecDepth 100000 in
theorem law_paid {p : Program} {l : Launch} {e : Env} {s : State} {m : MethodId} {below : List Frame} {meth : Method} {c : Code} {b : Nat} {xs : Nat → Int32} {A : Nat → Prop} (hl0 : l.stackTraces = false) (hx : p.tables.exec = Jvm.exec) (hb : c.code = cL_law) (hr : meth.sig.returnType = ret) (hml : c.maxLocals = 9) (hown : s.vm.findClass RL = some m.cls) (hts : ∀ w ∈ lw_all, w.before #[Value.ref b] s = true) (hX : va_X b 7 xs s s.heap) (hbl : b < s.heap.size) (hlocks : meth.locks = false) {N0 ade : Nat} {adB : Nat → Nat} (hT : BT N0 ade adB s) (hAN : ∀ q, A q → KA N0 q) (hA : ∀ q, s.heap.size ≤ q → A q) (hN : N0 ≤ s.heap.size) (hbA : ¬ A b) (hAs : ∀ q, A q → s.heap.size ≤ q) {G : va_G} {x : Nat} {ag : Nat} {qch : Nat} {qsh : Nat} {qsc : Nat} {dy : Nat} {dc : Nat} {dl : Nat} {dp : Nat} {dcr : Nat} {dj : Nat} {ho : Nat} {idn : Nat} {lg : Nat} {pl : Nat} {qfl : Nat} {qac : Nat} {qcr : Nat} {qfg : Nat} {qgr : Nat} {qme : Nat} {qsf : Nat} {qsb : Nat} {qtu : Nat} {sg : Nat} {aho : ClassId} {fho : Nat → Int32} {mo_ : Nat} {ti : Nat} {mfl : Nat} {mcr : Nat} {mst : Nat} {mtu : Nat} {mfg : Nat} {mgr : Nat} {mme : Nat} {ou : Nat} {oud : Nat}  {H : Heap} {locs : List Loc} (hP : va_P G vwCl [(x, .inr (17, [.ref pl, .ref dy, .ref ag, .ref qch, .ref qsh, .ref qsc, .int 0, .int 0])), (dy, .inr (10, [.ref pl, .ref dc, .ref dl, .ref dp, .ref dcr, .ref dj, .ref ho, .ref idn, .ref lg, .int 0, .int 0, .int 0, .int 0, .int 0, .int 0, .int 0, .int 0, .int 0])), (lg, .inr (14, [.ref sg, .int 0])), (pl, .inr (16, [.ref qfl, .ref qac, .ref qcr, .ref qfg, .ref qgr, .ref qme, .ref qsf, .ref qsb, .ref qtu, .int 0, .int 0, .int 0, .int 0, .int 0, .int 0, .int 0, .int 0, .int (-1), .int 1])), (ho, .inl (aho, 6, .inl fho)), (mo_, .inr (25, [.ref ti, .ref mfl, .ref mcr, .ref mst, .ref mtu, .int 1, .int 0, .int 1, .ref mfg, .ref mgr, .ref mme, .null, .int 0])), (mfg, .inr (5, [.int 0, .ref ade, .int 0])), (mgr, .inr (5, [.int 0, .ref ade, .int 0])), (mfl, .inr (5, [.int 0, .ref ade, .int 0])), (mcr, .inr (5, [.int 0, .ref ade, .int 0])), (mme, .inr (5, [.int 0, .ref ade, .int 0]))] H) (hD : va_D A [(x, .inr (17, [.ref pl, .ref dy, .ref ag, .ref qch, .ref qsh, .ref qsc, .int 0, .int 0])), (dy, .inr (10, [.ref pl, .ref dc, .ref dl, .ref dp, .ref dcr, .ref dj, .ref ho, .ref idn, .ref lg, .int 0, .int 0, .int 0, .int 0, .int 0, .int 0, .int 0, .int 0, .int 0])), (lg, .inr (14, [.ref sg, .int 0])), (pl, .inr (16, [.ref qfl, .ref qac, .ref qcr, .ref qfg, .ref qgr, .ref qme, .ref qsf, .ref qsb, .ref qtu, .int 0, .int 0, .int 0, .int 0, .int 0, .int 0, .int 0, .int 0, .int (-1), .int 1])), (ho, .inl (aho, 6, .inl fho)), (mo_, .inr (25, [.ref ti, .ref mfl, .ref mcr, .ref mst, .ref mtu, .int 1, .int 0, .int 1, .ref mfg, .ref mgr, .ref mme, .null, .int 0])), (mfg, .inr (5, [.int 0, .ref ade, .int 0])), (mgr, .inr (5, [.int 0, .ref ade, .int 0])), (mfl, .inr (5, [.int 0, .ref ade, .int 0])), (mcr, .inr (5, [.int 0, .ref ade, .int 0])), (mme, .inr (5, [.int 0, .ref ade, .int 0]))]) (hK : va_K G vwCl [(aho, .int)] s) (hS : va_S A s.heap H locs) {ls : Array Slot} (hl : lv_has ls 9 [(5, .int 0), (4, .ref oud), (3, .ref ou), (2, .ref mo_), (1, .ref x), (0, .ref b)]) : W p l e room_1 s m #[Value.ref b] below meth c H locs 160 21200 (lw_Z below #[Value.ref b] s) (F0 m 2090 ls []) := by
  refine lv_aload_n hx hb dL_law_2090 rfl (lv_at hl 4 rfl) ?_
  refine ka_i (va_runV (As := []) (rest := []) ⟨hx, hb, hml, hown, hts⟩ (c_X11_paid l G N0 ade adB H.size x ag qch qsh qsc dy dc dl dp dcr dj ho idn lg pl qfl qac qcr qfg qgr qme qsf qsb qtu sg aho fho) (cwV 0 hts (kgV q404 q405 q406 q36 q407) rfl rfl rfl (by decide +kernel) ⟨(Nat.le_of_ble_eq_true rfl), (Nat.le_of_ble_eq_true rfl)⟩) (kpreV (ci := 17) (q0 := 0) hP hD hK hAN hT hN hS [0, 1, 2, 3, 4] [0] (by decide) rfl rfl rfl rfl rfl) rfl rfl hl.1 rfl (lv_room (Nat.le_of_ble_eq_true rfl)) dL_law_2091 ⟨(Nat.le_of_ble_eq_true rfl), (Nat.le_of_ble_eq_true rfl)⟩) (ws := [(x, .inr (17, [.ref pl, .ref dy, .ref ag, .ref qch, .ref qsh, .ref qsc, .int 0, .int 0])), (dy, .inr (10, [.ref pl, .ref dc, .ref dl, .ref dp, .ref dcr, .ref dj, .ref ho, .ref idn, .ref lg, .int 0, .int 0, .int 0, .int 0, .int 0, .int 0, .int 0, .int 0, .int 0])), (lg, .inr (14, [.ref sg, .int 0])), (pl, .inr (16, [.ref qfl, .ref qac, .ref qcr, .ref qfg, .ref qgr, .ref qme, .ref qsf, .ref qsb, .ref qtu, .int 0, .int 0, .int 0, .int 0, .int 0, .int 0, .int 0, .int 0, .int (-1), .int 1])), (ho, .inl (aho, 6, .inl fho)), (mo_, .inr (25, [.ref ti, .ref mfl, .ref mcr, .ref mst, .ref mtu, .int 1, .int 0, .int 1, .ref mfg, .ref mgr, .ref mme, .null, .int 0])), (mfg, .inr (5, [.int 0, .ref ade, .int 0])), (mgr, .inr (5, [.int 0, .ref ade, .int 0])), (mfl, .inr (5, [.int 0, .ref ade, .int 0])), (mcr, .inr (5, [.int 0, .ref ade, .int 0])), (mme, .inr (5, [.int 0, .ref ade, .int 0]))]) (wc := [(x, .inr (17, [.ref pl, .ref dy, .ref ag, .ref qch, .ref qsh, .ref qsc, .int 0, .int 0])), (dy, .inr (10, [.ref pl, .ref dc, .ref dl, .ref dp, .ref dcr, .ref dj, .ref ho, .ref idn, .ref lg, .int 0, .int 0, .int 0, .int 0, .int 0, .int 0, .int 0, .int 0, .int 0])), (lg, .inr (14, [.ref sg, .int 0])), (pl, .inr (16, [.ref qfl, .ref qac, .ref qcr, .ref qfg, .ref qgr, .ref qme, .ref qsf, .ref qsb, .ref qtu, .int 0, .int 0, .int 0, .int 0, .int 0, .int 0, .int 0, .int 0, .int (-1), .int 1])), (ho, .inl (aho, 6, .inl fho))]) (wr := [(mo_, .inr (25, [.ref ti, .ref mfl, .ref mcr, .ref mst, .ref mtu, .int 1, .int 0, .int 1, .ref mfg, .ref mgr, .ref mme, .null, .int 0])), (mfg, .inr (5, [.int 0, .ref ade, .int 0])), (mgr, .inr (5, [.int 0, .ref ade, .int 0])), (mfl, .inr (5, [.int 0, .ref ade, .int 0])), (mcr, .inr (5, [.int 0, .ref ade, .int 0])), (mme, .inr (5, [.int 0, .ref ade, .int 0]))]) hP hD hK hS hA [0, 1, 2, 3, 4] [5, 6, 7, 8, 9, 10] [] rfl rfl (by decide) (by decide) rfl (fun r_ u1 H locs hw2 hP hD hK hS => ?_)
  have hP : va_P G vwCl [(mo_, .inr (25, [.ref ti, .ref mfl, .ref mcr, .ref mst, .ref mtu, .int 1, .int 0, .int 1, .ref mfg, .ref mgr, .ref mme, .null, .int 0])), (mfg, .inr (5, [.int 0, .ref ade, .int 0])), (mgr, .inr (5, [.int 0, .ref ade, .int 0])), (mfl, .inr (5, [.int 0, .ref ade, .int 0])), (mcr, .inr (5, [.int 0, .ref ade, .int 0])), (mme, .inr (5, [.int 0, .ref ade, .int 0]))] H := hP
  have hD : va_D A [(mo_, .inr (25, [.ref ti, .ref mfl, .ref mcr, .ref mst, .ref mtu, .int 1, .int 0, .int 1, .ref mfg, .ref mgr, .ref mme, .null, .int 0])), (mfg, .inr (5, [.int 0, .ref ade, .int 0])), (mgr, .inr (5, [.int 0, .ref ade, .int 0])), (mfl, .inr (5, [.int 0, .ref ade, .int 0])), (mcr, .inr (5, [.int 0, .ref ade, .int 0])), (mme, .inr (5, [.int 0, .ref ade, .int 0]))] := hD
  have hK : va_K G vwCl [] s := hK
  refine W.widen (k := 160) (n := 21200) (Nat.le_of_ble_eq_true rfl) (Nat.le_of_ble_eq_true rfl) ?_
  obtain rfl : r_ = 0 := hw2
  refine lv_aload_n hx hb dL_law_2094 rfl (lv_at hl 3 rfl) ?_
  refine ka_i (va_runV (As := []) (rest := [.int 0]) ⟨hx, hb, hml, hown, hts⟩ (c_m_paid l G N0 ade adB H.size mo_ ti mfl mcr mst mtu mfg mgr mme 0) (cwV 0 hts (kgV q1102 q1103 q1104 q49 q1105) rfl rfl rfl (by decide +kernel) ⟨(Nat.le_of_ble_eq_true rfl), (Nat.le_of_ble_eq_true rfl)⟩) (kpreV (ci := 25) (q0 := 0) hP hD hK hAN hT hN hS [0, 1, 2, 3, 4, 5] [] (by decide) rfl rfl rfl rfl rfl) rfl rfl hl.1 rfl (lv_room (Nat.le_of_ble_eq_true rfl)) dL_law_2095 ⟨(Nat.le_of_ble_eq_true rfl), (Nat.le_of_ble_eq_true rfl)⟩) (ws := [(mo_, .inr (25, [.ref ti, .ref mfl, .ref mcr, .ref mst, .ref mtu, .int 1, .int 0, .int 1, .ref mfg, .ref mgr, .ref mme, .null, .int 0])), (mfg, .inr (5, [.int 0, .ref ade, .int 0])), (mgr, .inr (5, [.int 0, .ref ade, .int 0])), (mfl, .inr (5, [.int 0, .ref ade, .int 0])), (mcr, .inr (5, [.int 0, .ref ade, .int 0])), (mme, .inr (5, [.int 0, .ref ade, .int 0]))]) (wc := [(mo_, .inr (25, [.ref ti, .ref mfl, .ref mcr, .ref mst, .ref mtu, .int 1, .int 0, .int 1, .ref mfg, .ref mgr, .ref mme, .null, .int 0])), (mfg, .inr (5, [.int 0, .ref ade, .int 0])), (mgr, .inr (5, [.int 0, .ref ade, .int 0])), (mfl, .inr (5, [.int 0, .ref ade, .int 0])), (mcr, .inr (5, [.int 0, .ref ade, .int 0])), (mme, .inr (5, [.int 0, .ref ade, .int 0]))]) (wr := []) hP hD hK hS hA [0, 1, 2, 3, 4, 5] [] [] rfl rfl (by decide) (by decide) rfl (fun r_ u4 H locs hw5 hP hD hK hS => ?_)
  obtain ⟨fs3, rfl⟩ : ∃ z_, z_ = u4 := ⟨_, rfl⟩
  have hP : va_P G vwCl [(mo_, .inr (25, fs3))] H := hP
  have hD : va_D A [(mo_, .inr (25, fs3))] := hD
  have hK : va_K G vwCl [] s := hK
  refine W.widen (k := 30185) (n := 141367) (Nat.le_of_ble_eq_true rfl) (Nat.le_of_ble_eq_true rfl) ?_
  have hf6 : fs3[12]? = some (.int (sp_m_paid)) := hw5.2
  obtain rfl : r_ = (sv_m_paid) := hw5.1
  refine lv_icmp_eq (tgt := 2435) hx hb dL_law_2098 (by decide) (fun _ => ?_) (fun h_ => absurd (show (0 : Int32) = (sv_m_paid) from rfl) h_)
  exact law_tail hl0 hx hb hr hml hown hts hX hbl hlocks hT hAN hA hN hbA hAs hS (Nat.le_of_ble_eq_true rfl) (Nat.le_of_ble_eq_true rfl) (lv_sub hl [0, 5] rfl)

set_option maxHeartbeats 4000000 in
set_option maxRecDepth 100000 in
theorem law_logLength {p : Program} {l : Launch} {e : Env} {s : State} {m : MethodId} {below : List Frame} {meth : Method} {c : Code} {b : Nat} {xs : Nat → Int32} {A : Nat → Prop} (hl0 : l.stackTraces = false) (hx : p.tables.exec = Jvm.exec) (hb : c.code = cL_law) (hr : meth.sig.returnType = ret) (hml : c.maxLocals = 9) (hown : s.vm.findClass RL = some m.cls) (hts : ∀ w ∈ lw_all, w.before #[Value.ref b] s = true) (hX : va_X b 7 xs s s.heap) (hbl : b < s.heap.size) (hlocks : meth.locks = false) {N0 ade : Nat} {adB : Nat → Nat} (hT : BT N0 ade adB s) (hAN : ∀ q, A q → KA N0 q) (hA : ∀ q, s.heap.size ≤ q → A q) (hN : N0 ≤ s.heap.size) (hbA : ¬ A b) (hAs : ∀ q, A q → s.heap.size ≤ q) {G : va_G} {x : Nat} {ag : Nat} {qch : Nat} {qsh : Nat} {qsc : Nat} {dy : Nat} {dc : Nat} {dl : Nat} {dp : Nat} {dcr : Nat} {dj : Nat} {ho : Nat} {idn : Nat} {lg : Nat} {pl : Nat} {qfl : Nat} {qac : Nat} {qcr : Nat} {qfg : Nat} {qgr : Nat} {qme : Nat} {qsf : Nat} {qsb : Nat} {qtu : Nat} {sg : Nat} {aho : ClassId} {fho : Nat → Int32} {mo_ : Nat} {ti : Nat} {mfl : Nat} {mcr : Nat} {mst : Nat} {mtu : Nat} {mfg : Nat} {mgr : Nat} {mme : Nat} {ou : Nat} {oud : Nat}  {H : Heap} {locs : List Loc} (hP : va_P G vwCl [(x, .inr (17, [.ref pl, .ref dy, .ref ag, .ref qch, .ref qsh, .ref qsc, .int 0, .int 0])), (dy, .inr (10, [.ref pl, .ref dc, .ref dl, .ref dp, .ref dcr, .ref dj, .ref ho, .ref idn, .ref lg, .int 0, .int 0, .int 0, .int 0, .int 0, .int 0, .int 0, .int 0, .int 0])), (lg, .inr (14, [.ref sg, .int 0])), (pl, .inr (16, [.ref qfl, .ref qac, .ref qcr, .ref qfg, .ref qgr, .ref qme, .ref qsf, .ref qsb, .ref qtu, .int 0, .int 0, .int 0, .int 0, .int 0, .int 0, .int 0, .int 0, .int (-1), .int 1])), (ho, .inl (aho, 6, .inl fho)), (mo_, .inr (25, [.ref ti, .ref mfl, .ref mcr, .ref mst, .ref mtu, .int 1, .int 0, .int 1, .ref mfg, .ref mgr, .ref mme, .null, .int 0])), (mfg, .inr (5, [.int 0, .ref ade, .int 0])), (mgr, .inr (5, [.int 0, .ref ade, .int 0])), (mfl, .inr (5, [.int 0, .ref ade, .int 0])), (mcr, .inr (5, [.int 0, .ref ade, .int 0])), (mme, .inr (5, [.int 0, .ref ade, .int 0]))] H) (hD : va_D A [(x, .inr (17, [.ref pl, .ref dy, .ref ag, .ref qch, .ref qsh, .ref qsc, .int 0, .int 0])), (dy, .inr (10, [.ref pl, .ref dc, .ref dl, .ref dp, .ref dcr, .ref dj, .ref ho, .ref idn, .ref lg, .int 0, .int 0, .int 0, .int 0, .int 0, .int 0, .int 0, .int 0, .int 0])), (lg, .inr (14, [.ref sg, .int 0])), (pl, .inr (16, [.ref qfl, .ref qac, .ref qcr, .ref qfg, .ref qgr, .ref qme, .ref qsf, .ref qsb, .ref qtu, .int 0, .int 0, .int 0, .int 0, .int 0, .int 0, .int 0, .int 0, .int (-1), .int 1])), (ho, .inl (aho, 6, .inl fho)), (mo_, .inr (25, [.ref ti, .ref mfl, .ref mcr, .ref mst, .ref mtu, .int 1, .int 0, .int 1, .ref mfg, .ref mgr, .ref mme, .null, .int 0])), (mfg, .inr (5, [.int 0, .ref ade, .int 0])), (mgr, .inr (5, [.int 0, .ref ade, .int 0])), (mfl, .inr (5, [.int 0, .ref ade, .int 0])), (mcr, .inr (5, [.int 0, .ref ade, .int 0])), (mme, .inr (5, [.int 0, .ref ade, .int 0]))]) (hK : va_K G vwCl [(aho, .int)] s) (hS : va_S A s.heap H locs) {ls : Array Slot} (hl : lv_has ls 9 [(5, .int 0), (4, .ref oud), (3, .ref ou), (2, .ref mo_), (1, .ref x), (0, .ref b)]) : W p l e room_1 s m #[Value.ref b] below meth c H locs 160 21200 (lw_Z below #[Value.ref b] s) (F0 m 2103 ls []) := by
  refine lv_aload_n hx hb dL_law_2103 rfl (lv_at hl 4 rfl) ?_
  refine ka_i (va_runV (As := []) (rest := []) ⟨hx, hb, hml, hown, hts⟩ (c_X11_logLength l G N0 ade adB H.size x ag qch qsh qsc dy dc dl dp dcr dj ho idn lg pl qfl qac qcr qfg qgr qme qsf qsb qtu sg aho fho) (cwV 0 hts (kgV q413 q414 q415 q36 q416) rfl rfl rfl (by decide +kernel) ⟨(Nat.le_of_ble_eq_true rfl), (Nat.le_of_ble_eq_true rfl)⟩) (kpreV (ci := 17) (q0 := 0) hP hD hK hAN hT hN hS [0, 1, 2, 3, 4] [0] (by decide) rfl rfl rfl rfl rfl) rfl rfl hl.1 rfl (lv_room (Nat.le_of_ble_eq_true rfl)) dL_law_2104 ⟨(Nat.le_of_ble_eq_true rfl), (Nat.le_of_ble_eq_true rfl)⟩) (ws := [(x, .inr (17, [.ref pl, .ref dy, .ref ag, .ref qch, .ref qsh, .ref qsc, .int 0, .int 0])), (dy, .inr (10, [.ref pl, .ref dc, .ref dl, .ref dp, .ref dcr, .ref dj, .ref ho, .ref idn, .ref lg, .int 0, .int 0, .int 0, .int 0, .int 0, .int 0, .int 0, .int 0, .int 0])), (lg, .inr (14, [.ref sg, .int 0])), (pl, .inr (16, [.ref qfl, .ref qac, .ref qcr, .ref qfg, .ref qgr, .ref qme, .ref qsf, .ref qsb, .ref qtu, .int 0, .int 0, .int 0, .int 0, .int 0, .int 0, .int 0, .int 0, .int (-1), .int 1])), (ho, .inl (aho, 6, .inl fho)), (mo_, .inr (25, [.ref ti, .ref mfl, .ref mcr, .ref mst, .ref mtu, .int 1, .int 0, .int 1, .ref mfg, .ref mgr, .ref mme, .null, .int 0])), (mfg, .inr (5, [.int 0, .ref ade, .int 0])), (mgr, .inr (5, [.int 0, .ref ade, .int 0])), (mfl, .inr (5, [.int 0, .ref ade, .int 0])), (mcr, .inr (5, [.int 0, .ref ade, .int 0])), (mme, .inr (5, [.int 0, .ref ade, .int 0]))]) (wc := [(x, .inr (17, [.ref pl, .ref dy, .ref ag, .ref qch, .ref qsh, .ref qsc, .int 0, .int 0])), (dy, .inr (10, [.ref pl, .ref dc, .ref dl, .ref dp, .ref dcr, .ref dj, .ref ho, .ref idn, .ref lg, .int 0, .int 0, .int 0, .int 0, .int 0, .int 0, .int 0, .int 0, .int 0])), (lg, .inr (14, [.ref sg, .int 0])), (pl, .inr (16, [.ref qfl, .ref qac, .ref qcr, .ref qfg, .ref qgr, .ref qme, .ref qsf, .ref qsb, .ref qtu, .int 0, .int 0, .int 0, .int 0, .int 0, .int 0, .int 0, .int 0, .int (-1), .int 1])), (ho, .inl (aho, 6, .inl fho))]) (wr := [(mo_, .inr (25, [.ref ti, .ref mfl, .ref mcr, .ref mst, .ref mtu, .int 1, .int 0, .int 1, .ref mfg, .ref mgr, .ref mme, .null, .int 0])), (mfg, .inr (5, [.int 0, .ref ade, .int 0])), (mgr, .inr (5, [.int 0, .ref ade, .int 0])), (mfl, .inr (5, [.int 0, .ref ade, .int 0])), (mcr, .inr (5, [.int 0, .ref ade, .int 0])), (mme, .inr (5, [.int 0, .ref ade, .int 0]))]) hP hD hK hS hA [0, 1, 2, 3, 4] [5, 6, 7, 8, 9, 10] [] rfl rfl (by decide) (by decide) rfl (fun r_ u1 H locs hw2 hP hD hK hS => ?_)
  have hP : va_P G vwCl [(mo_, .inr (25, [.ref ti, .ref mfl, .ref mcr, .ref mst, .ref mtu, .int 1, .int 0, .int 1, .ref mfg, .ref mgr, .ref mme, .null, .int 0])), (mfg, .inr (5, [.int 0, .ref ade, .int 0])), (mgr, .inr (5, [.int 0, .ref ade, .int 0])), (mfl, .inr (5, [.int 0, .ref ade, .int 0])), (mcr, .inr (5, [.int 0, .ref ade, .int 0])), (mme, .inr (5, [.int 0, .ref ade, .int 0]))] H := hP
  have hD : va_D A [(mo_, .inr (25, [.ref ti, .ref mfl, .ref mcr, .ref mst, .ref mtu, .int 1, .int 0, .int 1, .ref mfg, .ref mgr, .ref mme, .null, .int 0])), (mfg, .inr (5, [.int 0, .ref ade, .int 0])), (mgr, .inr (5, [.int 0, .ref ade, .int 0])), (mfl, .inr (5, [.int 0, .ref ade, .int 0])), (mcr, .inr (5, [.int 0, .ref ade, .int 0])), (mme, .inr (5, [.int 0, .ref ade, .int 0]))] := hD
  have hK : va_K G vwCl [] s := hK
  refine W.widen (k := 160) (n := 21200) (Nat.le_of_ble_eq_true rfl) (Nat.le_of_ble_eq_true rfl) ?_
  obtain rfl : r_ = 0 := hw2
  refine lv_aload_n hx hb dL_law_2107 rfl (lv_at hl 3 rfl) ?_
  refine ka_i (va_runV (As := []) (rest := [.int 0]) ⟨hx, hb, hml, hown, hts⟩ (c_m_logLength l G N0 ade adB H.size mo_ ti mfl mcr mst mtu mfg mgr mme 0) (cwV 0 hts (kgV q1109 q1110 q1111 q49 q1112) rfl rfl rfl (by decide +kernel) ⟨(Nat.le_of_ble_eq_true rfl), (Nat.le_of_ble_eq_true rfl)⟩) (kpreV (ci := 25) (q0 := 0) hP hD hK hAN hT hN hS [0, 1, 2, 3, 4, 5] [] (by decide) rfl rfl rfl rfl rfl) rfl rfl hl.1 rfl (lv_room (Nat.le_of_ble_eq_true rfl)) dL_law_2108 ⟨(Nat.le_of_ble_eq_true rfl), (Nat.le_of_ble_eq_true rfl)⟩) (ws := [(mo_, .inr (25, [.ref ti, .ref mfl, .ref mcr, .ref mst, .ref mtu, .int 1, .int 0, .int 1, .ref mfg, .ref mgr, .ref mme, .null, .int 0])), (mfg, .inr (5, [.int 0, .ref ade, .int 0])), (mgr, .inr (5, [.int 0, .ref ade, .int 0])), (mfl, .inr (5, [.int 0, .ref ade, .int 0])), (mcr, .inr (5, [.int 0, .ref ade, .int 0])), (mme, .inr (5, [.int 0, .ref ade, .int 0]))]) (wc := [(mo_, .inr (25, [.ref ti, .ref mfl, .ref mcr, .ref mst, .ref mtu, .int 1, .int 0, .int 1, .ref mfg, .ref mgr, .ref mme, .null, .int 0])), (mfg, .inr (5, [.int 0, .ref ade, .int 0])), (mgr, .inr (5, [.int 0, .ref ade, .int 0])), (mfl, .inr (5, [.int 0, .ref ade, .int 0])), (mcr, .inr (5, [.int 0, .ref ade, .int 0])), (mme, .inr (5, [.int 0, .ref ade, .int 0]))]) (wr := []) hP hD hK hS hA [0, 1, 2, 3, 4, 5] [] [] rfl rfl (by decide) (by decide) rfl (fun r_ u4 H locs hw5 hP hD hK hS => ?_)
  obtain ⟨fs3, rfl⟩ : ∃ z_, z_ = u4 := ⟨_, rfl⟩
  have hP : va_P G vwCl [(mo_, .inr (25, fs3))] H := hP
  have hD : va_D A [(mo_, .inr (25, fs3))] := hD
  have hK : va_K G vwCl [] s := hK
  refine W.widen (k := 30184) (n := 141363) (Nat.le_of_ble_eq_true rfl) (Nat.le_of_ble_eq_true rfl) ?_
  have hf6 : fs3[12]? = some (.int (sp_m_logLength)) := hw5.2
  obtain rfl : r_ = (sv_m_logLength) := hw5.1
  refine lv_icmp_eq (tgt := 2435) hx hb dL_law_2111 (by decide) (fun _ => ?_) (fun h_ => absurd (show (0 : Int32) = (sv_m_logLength) from rfl) h_)
  exact law_tail hl0 hx hb hr hml hown hts hX hbl hlocks hT hAN hA hN hbA hAs hS (Nat.le_of_ble_eq_true rfl) (Nat.le_of_ble_eq_true rfl) (lv_sub hl [0, 5] rfl)

set_option maxHeartbeats 4000000 in
set_option maxRecDepth 100000 in
theorem law_logAt {p : Program} {l : Launch} {e : Env} {s : State} {m : MethodId} {below : List Frame} {meth : Method} {c : Code} {b : Nat} {xs : Nat → Int32} {A : Nat → Prop} (hl0 : l.stackTraces = false) (hx : p.tables.exec = Jvm.exec) (hb : c.code = cL_law) (hr : meth.sig.returnType = ret) (hml : c.maxLocals = 9) (hown : s.vm.findClass RL = some m.cls) (hts : ∀ w ∈ lw_all, w.before #[Value.ref b] s = true) (hX : va_X b 7 xs s s.heap) (hbl : b < s.heap.size) (hlocks : meth.locks = false) {N0 ade : Nat} {adB : Nat → Nat} (hT : BT N0 ade adB s) (hAN : ∀ q, A q → KA N0 q) (hA : ∀ q, s.heap.size ≤ q → A q) (hN : N0 ≤ s.heap.size) (hbA : ¬ A b) (hAs : ∀ q, A q → s.heap.size ≤ q) {G : va_G} {x : Nat} {ag : Nat} {qch : Nat} {qsh : Nat} {qsc : Nat} {dy : Nat} {dc : Nat} {dl : Nat} {dp : Nat} {dcr : Nat} {dj : Nat} {ho : Nat} {idn : Nat} {lg : Nat} {pl : Nat} {qfl : Nat} {qac : Nat} {qcr : Nat} {qfg : Nat} {qgr : Nat} {qme : Nat} {qsf : Nat} {qsb : Nat} {qtu : Nat} {sg : Nat} {aho : ClassId} {fho : Nat → Int32} {ou : Nat} {alo : ClassId} {fo : Nat → Int64} {mo_ : Nat} {ti : Nat} {mfl : Nat} {mcr : Nat} {mst : Nat} {mtu : Nat} {mfg : Nat} {mgr : Nat} {mme : Nat} {oud : Nat}  {H : Heap} {locs : List Loc} (hP : va_P G vwCl [(x, .inr (17, [.ref pl, .ref dy, .ref ag, .ref qch, .ref qsh, .ref qsc, .int 0, .int 0])), (dy, .inr (10, [.ref pl, .ref dc, .ref dl, .ref dp, .ref dcr, .ref dj, .ref ho, .ref idn, .ref lg, .int 0, .int 0, .int 0, .int 0, .int 0, .int 0, .int 0, .int 0, .int 0])), (lg, .inr (14, [.ref sg, .int 0])), (pl, .inr (16, [.ref qfl, .ref qac, .ref qcr, .ref qfg, .ref qgr, .ref qme, .ref qsf, .ref qsb, .ref qtu, .int 0, .int 0, .int 0, .int 0, .int 0, .int 0, .int 0, .int 0, .int (-1), .int 1])), (ho, .inl (aho, 6, .inl fho)), (ou, .inl (alo, 1, .inr (.inl fo))), (mo_, .inr (25, [.ref ti, .ref mfl, .ref mcr, .ref mst, .ref mtu, .int 1, .int 0, .int 1, .ref mfg, .ref mgr, .ref mme, .null, .int 0])), (mfg, .inr (5, [.int 0, .ref ade, .int 0])), (mgr, .inr (5, [.int 0, .ref ade, .int 0])), (mfl, .inr (5, [.int 0, .ref ade, .int 0])), (mcr, .inr (5, [.int 0, .ref ade, .int 0])), (mme, .inr (5, [.int 0, .ref ade, .int 0]))] H) (hD : va_D A [(x, .inr (17, [.ref pl, .ref dy, .ref ag, .ref qch, .ref qsh, .ref qsc, .int 0, .int 0])), (dy, .inr (10, [.ref pl, .ref dc, .ref dl, .ref dp, .ref dcr, .ref dj, .ref ho, .ref idn, .ref lg, .int 0, .int 0, .int 0, .int 0, .int 0, .int 0, .int 0, .int 0, .int 0])), (lg, .inr (14, [.ref sg, .int 0])), (pl, .inr (16, [.ref qfl, .ref qac, .ref qcr, .ref qfg, .ref qgr, .ref qme, .ref qsf, .ref qsb, .ref qtu, .int 0, .int 0, .int 0, .int 0, .int 0, .int 0, .int 0, .int 0, .int (-1), .int 1])), (ho, .inl (aho, 6, .inl fho)), (ou, .inl (alo, 1, .inr (.inl fo))), (mo_, .inr (25, [.ref ti, .ref mfl, .ref mcr, .ref mst, .ref mtu, .int 1, .int 0, .int 1, .ref mfg, .ref mgr, .ref mme, .null, .int 0])), (mfg, .inr (5, [.int 0, .ref ade, .int 0])), (mgr, .inr (5, [.int 0, .ref ade, .int 0])), (mfl, .inr (5, [.int 0, .ref ade, .int 0])), (mcr, .inr (5, [.int 0, .ref ade, .int 0])), (mme, .inr (5, [.int 0, .ref ade, .int 0]))]) (hK : va_K G vwCl [(aho, .int), (alo, .long)] s) (hS : va_S A s.heap H locs) {ls : Array Slot} (hl : lv_has ls 9 [(5, .int 0), (4, .ref oud), (3, .ref ou), (2, .ref mo_), (1, .ref x), (0, .ref b)]) : W p l e room_1 s m #[Value.ref b] below meth c H locs 160 21200 (lw_Z below #[Value.ref b] s) (F0 m 2116 ls []) := by
  refine lv_aload_n hx hb dL_law_2116 rfl (lv_at hl 4 rfl) ?_
  refine lv_aload_n hx hb dL_law_2117 rfl (lv_at hl 5 rfl) ?_
  refine lv_iload hx hb dL_law_2118 (lv_at hl 0 rfl) ?_
  refine lv_iconst (v := 1) hx hb dL_law_2120 (by decide) ?_
  refine lv_iadd hx hb dL_law_2121 ?_
  refine lv_topi (fun v_ e_ => ?_)
  obtain rfl : v_ = 1 := e_.trans (by decide)
  refine va_sld hx hb hX hbl hbA hS (vin (by decide +kernel)) dL_law_2122 ?_
  refine lv_aload_n hx hb dL_law_2123 rfl (lv_at hl 2 rfl) ?_
  refine ka_i (vx_runSW (As := [.ref x, .int (xs (Int32.toNatClampNeg 1)), .ref ou]) (rest := []) ⟨hx, hb, hml, hown, hts⟩ (c_L_logAt l hl0 G N0 ade adB H.size x ag qch qsh qsc dy dc dl dp dcr dj ho idn lg pl qfl qac qcr qfg qgr qme qsf qsb qtu sg aho fho (xs (Int32.toNatClampNeg 1)) ou alo fo) (vx_cwSW 3 hts (kgS q655 q656 q35 q657) rfl rfl rfl (by decide +kernel) ⟨(Nat.le_of_ble_eq_true rfl), (Nat.le_of_ble_eq_true rfl)⟩) (kpreS hP hD hK hAN hT hN hS [0, 1, 2, 3, 4, 5] [0, 1] (by decide) rfl rfl) rfl rfl hl.1 rfl (lv_room (Nat.le_of_ble_eq_true rfl)) dL_law_2124 ⟨(Nat.le_of_ble_eq_true rfl), (Nat.le_of_ble_eq_true rfl)⟩) (ws := [(x, .inr (17, [.ref pl, .ref dy, .ref ag, .ref qch, .ref qsh, .ref qsc, .int 0, .int 0])), (dy, .inr (10, [.ref pl, .ref dc, .ref dl, .ref dp, .ref dcr, .ref dj, .ref ho, .ref idn, .ref lg, .int 0, .int 0, .int 0, .int 0, .int 0, .int 0, .int 0, .int 0, .int 0])), (lg, .inr (14, [.ref sg, .int 0])), (pl, .inr (16, [.ref qfl, .ref qac, .ref qcr, .ref qfg, .ref qgr, .ref qme, .ref qsf, .ref qsb, .ref qtu, .int 0, .int 0, .int 0, .int 0, .int 0, .int 0, .int 0, .int 0, .int (-1), .int 1])), (ho, .inl (aho, 6, .inl fho)), (ou, .inl (alo, 1, .inr (.inl fo))), (mo_, .inr (25, [.ref ti, .ref mfl, .ref mcr, .ref mst, .ref mtu, .int 1, .int 0, .int 1, .ref mfg, .ref mgr, .ref mme, .null, .int 0])), (mfg, .inr (5, [.int 0, .ref ade, .int 0])), (mgr, .inr (5, [.int 0, .ref ade, .int 0])), (mfl, .inr (5, [.int 0, .ref ade, .int 0])), (mcr, .inr (5, [.int 0, .ref ade, .int 0])), (mme, .inr (5, [.int 0, .ref ade, .int 0]))]) (wc := [(x, .inr (17, [.ref pl, .ref dy, .ref ag, .ref qch, .ref qsh, .ref qsc, .int 0, .int 0])), (dy, .inr (10, [.ref pl, .ref dc, .ref dl, .ref dp, .ref dcr, .ref dj, .ref ho, .ref idn, .ref lg, .int 0, .int 0, .int 0, .int 0, .int 0, .int 0, .int 0, .int 0, .int 0])), (lg, .inr (14, [.ref sg, .int 0])), (pl, .inr (16, [.ref qfl, .ref qac, .ref qcr, .ref qfg, .ref qgr, .ref qme, .ref qsf, .ref qsb, .ref qtu, .int 0, .int 0, .int 0, .int 0, .int 0, .int 0, .int 0, .int 0, .int (-1), .int 1])), (ho, .inl (aho, 6, .inl fho)), (ou, .inl (alo, 1, .inr (.inl fo)))]) (wr := [(mo_, .inr (25, [.ref ti, .ref mfl, .ref mcr, .ref mst, .ref mtu, .int 1, .int 0, .int 1, .ref mfg, .ref mgr, .ref mme, .null, .int 0])), (mfg, .inr (5, [.int 0, .ref ade, .int 0])), (mgr, .inr (5, [.int 0, .ref ade, .int 0])), (mfl, .inr (5, [.int 0, .ref ade, .int 0])), (mcr, .inr (5, [.int 0, .ref ade, .int 0])), (mme, .inr (5, [.int 0, .ref ade, .int 0]))]) hP hD hK hS hA [0, 1, 2, 3, 4, 5] [6, 7, 8, 9, 10, 11] [] rfl rfl (by decide) (by decide) rfl (fun r_ u1 H locs hw2 hP hD hK hS => ?_)
  have hP : va_P G vwCl [(mo_, .inr (25, [.ref ti, .ref mfl, .ref mcr, .ref mst, .ref mtu, .int 1, .int 0, .int 1, .ref mfg, .ref mgr, .ref mme, .null, .int 0])), (mfg, .inr (5, [.int 0, .ref ade, .int 0])), (mgr, .inr (5, [.int 0, .ref ade, .int 0])), (mfl, .inr (5, [.int 0, .ref ade, .int 0])), (mcr, .inr (5, [.int 0, .ref ade, .int 0])), (mme, .inr (5, [.int 0, .ref ade, .int 0]))] H := hP
  have hD : va_D A [(mo_, .inr (25, [.ref ti, .ref mfl, .ref mcr, .ref mst, .ref mtu, .int 1, .int 0, .int 1, .ref mfg, .ref mgr, .ref mme, .null, .int 0])), (mfg, .inr (5, [.int 0, .ref ade, .int 0])), (mgr, .inr (5, [.int 0, .ref ade, .int 0])), (mfl, .inr (5, [.int 0, .ref ade, .int 0])), (mcr, .inr (5, [.int 0, .ref ade, .int 0])), (mme, .inr (5, [.int 0, .ref ade, .int 0]))] := hD
  have hK : va_K G vwCl [] s := hK
  refine W.widen (k := 161) (n := 21206) (Nat.le_of_ble_eq_true rfl) (Nat.le_of_ble_eq_true rfl) ?_
  obtain rfl : r_ = 1 := hw2
  refine lv_istore (lv' := [(6, .int 1), (5, .int 0), (4, .ref oud), (3, .ref ou), (2, .ref mo_), (1, .ref x), (0, .ref b)]) hx hb dL_law_2127 hl (by decide) rfl (fun ls hl => ?_)
  refine lv_aload_n hx hb dL_law_2129 rfl (lv_at hl 4 rfl) ?_
  refine lv_aload_n hx hb dL_law_2130 rfl (lv_at hl 6 rfl) ?_
  refine lv_iload hx hb dL_law_2131 (lv_at hl 1 rfl) ?_
  refine lv_iconst (v := 1) hx hb dL_law_2133 (by decide) ?_
  refine lv_iadd hx hb dL_law_2134 ?_
  refine lv_topi (fun v_ e_ => ?_)
  obtain rfl : v_ = 1 := e_.trans (by decide)
  refine va_sld hx hb hX hbl hbA hS (vin (by decide +kernel)) dL_law_2135 ?_
  refine ka_i (va_runV (As := [.int (xs (Int32.toNatClampNeg 1))]) (rest := []) ⟨hx, hb, hml, hown, hts⟩ (c_m_logAt l G N0 ade adB H.size mo_ ti mfl mcr mst mtu mfg mgr mme 0 (xs (Int32.toNatClampNeg 1))) (cwV 1 hts (kgV q1114 q1115 q1116 q49 q1117) rfl rfl rfl (by decide +kernel) ⟨(Nat.le_of_ble_eq_true rfl), (Nat.le_of_ble_eq_true rfl)⟩) (kpreV (ci := 25) (q0 := 0) hP hD hK hAN hT hN hS [0, 1, 2, 3, 4, 5] [] (by decide) rfl rfl rfl rfl rfl) rfl rfl hl.1 rfl (lv_room (Nat.le_of_ble_eq_true rfl)) dL_law_2136 ⟨(Nat.le_of_ble_eq_true rfl), (Nat.le_of_ble_eq_true rfl)⟩) (ws := [(mo_, .inr (25, [.ref ti, .ref mfl, .ref mcr, .ref mst, .ref mtu, .int 1, .int 0, .int 1, .ref mfg, .ref mgr, .ref mme, .null, .int 0])), (mfg, .inr (5, [.int 0, .ref ade, .int 0])), (mgr, .inr (5, [.int 0, .ref ade, .int 0])), (mfl, .inr (5, [.int 0, .ref ade, .int 0])), (mcr, .inr (5, [.int 0, .ref ade, .int 0])), (mme, .inr (5, [.int 0, .ref ade, .int 0]))]) (wc := [(mo_, .inr (25, [.ref ti, .ref mfl, .ref mcr, .ref mst, .ref mtu, .int 1, .int 0, .int 1, .ref mfg, .ref mgr, .ref mme, .null, .int 0])), (mfg, .inr (5, [.int 0, .ref ade, .int 0])), (mgr, .inr (5, [.int 0, .ref ade, .int 0])), (mfl, .inr (5, [.int 0, .ref ade, .int 0])), (mcr, .inr (5, [.int 0, .ref ade, .int 0])), (mme, .inr (5, [.int 0, .ref ade, .int 0]))]) (wr := []) hP hD hK hS hA [0, 1, 2, 3, 4, 5] [] [] rfl rfl (by decide) (by decide) rfl (fun r_ u4 H locs hw5 hP hD hK hS => ?_)
  obtain ⟨fs3, rfl⟩ : ∃ z_, z_ = u4 := ⟨_, rfl⟩
  have hP : va_P G vwCl [(mo_, .inr (25, fs3))] H := hP
  have hD : va_D A [(mo_, .inr (25, fs3))] := hD
  have hK : va_K G vwCl [] s := hK
  refine W.widen (k := 30185) (n := 141369) (Nat.le_of_ble_eq_true rfl) (Nat.le_of_ble_eq_true rfl) ?_
  have hf6 : fs3[12]? = some (.int (sp_m_logAt (xs (Int32.toNatClampNeg 1)))) := hw5.2
  obtain rfl : r_ = (sv_m_logAt (xs (Int32.toNatClampNeg 1))) := hw5.1
  refine lv_istore (lv' := [(7, .int (sv_m_logAt (xs (Int32.toNatClampNeg 1)))), (6, .int 1), (5, .int 0), (4, .ref oud), (3, .ref ou), (2, .ref mo_), (1, .ref x), (0, .ref b)]) hx hb dL_law_2139 hl (by decide) rfl (fun ls hl => ?_)
  refine lv_aload_n hx hb dL_law_2141 rfl (lv_at hl 5 rfl) ?_
  refine ka_i (va_runV (As := []) (rest := []) ⟨hx, hb, hml, hown, hts⟩ (c_m_thrown l G N0 ade adB H.size mo_ fs3 (sp_m_logAt (xs (Int32.toNatClampNeg 1))) hf6) (cwV 0 hts (kgV q748 q749 q750 q49 q751) rfl rfl rfl (by decide +kernel) ⟨(Nat.le_of_ble_eq_true rfl), (Nat.le_of_ble_eq_true rfl)⟩) (kpreV (ci := 25) (q0 := 0) hP hD hK hAN hT hN hS [0] [] (by decide) rfl rfl rfl rfl rfl) rfl rfl hl.1 rfl (lv_room (Nat.le_of_ble_eq_true rfl)) dL_law_2142 ⟨(Nat.le_of_ble_eq_true rfl), (Nat.le_of_ble_eq_true rfl)⟩) (ws := [(mo_, .inr (25, fs3))]) (wc := [(mo_, .inr (25, fs3))]) (wr := []) hP hD hK hS hA [0] [] [] rfl rfl (by decide) (by decide) rfl (fun r_ u8 H locs hw9 hP hD hK hS => ?_)
  have hP : va_P G vwCl [(mo_, .inr (25, fs3))] H := hP
  have hD : va_D A [(mo_, .inr (25, fs3))] := hD
  have hK : va_K G vwCl [] s := hK
  refine W.widen (k := 30185) (n := 141369) (Nat.le_of_ble_eq_true rfl) (Nat.le_of_ble_eq_true rfl) ?_
  obtain rfl : r_ = (sp_m_logAt (xs (Int32.toNatClampNeg 1))) := hw9
  refine lv_iload hx hb dL_law_2145 (lv_at hl 1 rfl) ?_
  refine lv_icmp_eq (tgt := 2152) hx hb dL_law_2147 (by decide) (fun _ => ?_) (fun h_ => absurd (show (sp_m_logAt (xs (Int32.toNatClampNeg 1))) = 1 from rfl) h_)
  refine lv_iload hx hb dL_law_2152 (lv_at hl 1 rfl) ?_
  refine lv_if_ne (tgt := 2169) hx hb dL_law_2154 (by decide) (fun _ => ?_) (fun h_ => absurd h_ (by decide))
  refine lv_goto (tgt := 2435) hx hb dL_law_2169 (by decide) ?_
  exact law_tail hl0 hx hb hr hml hown hts hX hbl hlocks hT hAN hA hN hbA hAs hS (Nat.le_of_ble_eq_true rfl) (Nat.le_of_ble_eq_true rfl) (lv_sub hl [2, 7] rfl)

set_option maxHeartbeats 4000000 in
set_option maxRecDepth 100000 in
theorem law_recover {p : Program} {l : Launch} {e : Env} {s : State} {m : MethodId} {below : List Frame} {meth : Method} {c : Code} {b : Nat} {xs : Nat → Int32} {A : Nat → Prop} (hl0 : l.stackTraces = false) (hx : p.tables.exec = Jvm.exec) (hb : c.code = cL_law) (hr : meth.sig.returnType = ret) (hml : c.maxLocals = 9) (hown : s.vm.findClass RL = some m.cls) (hts : ∀ w ∈ lw_all, w.before #[Value.ref b] s = true) (hX : va_X b 7 xs s s.heap) (hbl : b < s.heap.size) (hlocks : meth.locks = false) {N0 ade : Nat} {adB : Nat → Nat} (hT : BT N0 ade adB s) (hAN : ∀ q, A q → KA N0 q) (hA : ∀ q, s.heap.size ≤ q → A q) (hN : N0 ≤ s.heap.size) (hbA : ¬ A b) (hAs : ∀ q, A q → s.heap.size ≤ q) {G : va_G} {x : Nat} {dy : Nat} {ag : Nat} {qch : Nat} {qsh : Nat} {qsc : Nat} {pl : Nat} {qfl : Nat} {qac : Nat} {qcr : Nat} {qfg : Nat} {qgr : Nat} {qme : Nat} {qsf : Nat} {qsb : Nat} {qtu : Nat} {ou : Nat} {alo : ClassId} {fo : Nat → Int64} {mo_ : Nat} {ti : Nat} {mfl : Nat} {mcr : Nat} {mst : Nat} {mtu : Nat} {mfg : Nat} {mgr : Nat} {mme : Nat} {oud : Nat}  {H : Heap} {locs : List Loc} (hP : va_P G vwCl [(x, .inr (17, [.ref pl, .ref dy, .ref ag, .ref qch, .ref qsh, .ref qsc, .int 0, .int 0])), (pl, .inr (16, [.ref qfl, .ref qac, .ref qcr, .ref qfg, .ref qgr, .ref qme, .ref qsf, .ref qsb, .ref qtu, .int 0, .int 0, .int 0, .int 0, .int 0, .int 0, .int 0, .int 0, .int (-1), .int 1])), (ou, .inl (alo, 1, .inr (.inl fo))), (mo_, .inr (25, [.ref ti, .ref mfl, .ref mcr, .ref mst, .ref mtu, .int 1, .int 0, .int 1, .ref mfg, .ref mgr, .ref mme, .null, .int 0])), (mfg, .inr (5, [.int 0, .ref ade, .int 0]))] H) (hD : va_D A [(x, .inr (17, [.ref pl, .ref dy, .ref ag, .ref qch, .ref qsh, .ref qsc, .int 0, .int 0])), (pl, .inr (16, [.ref qfl, .ref qac, .ref qcr, .ref qfg, .ref qgr, .ref qme, .ref qsf, .ref qsb, .ref qtu, .int 0, .int 0, .int 0, .int 0, .int 0, .int 0, .int 0, .int 0, .int (-1), .int 1])), (ou, .inl (alo, 1, .inr (.inl fo))), (mo_, .inr (25, [.ref ti, .ref mfl, .ref mcr, .ref mst, .ref mtu, .int 1, .int 0, .int 1, .ref mfg, .ref mgr, .ref mme, .null, .int 0])), (mfg, .inr (5, [.int 0, .ref ade, .int 0]))]) (hK : va_K G vwCl [(alo, .long)] s) (hS : va_S A s.heap H locs) {ls : Array Slot} (hl : lv_has ls 9 [(5, .int 0), (4, .ref oud), (3, .ref ou), (2, .ref mo_), (1, .ref x), (0, .ref b)]) : W p l e room_1 s m #[Value.ref b] below meth c H locs 160 21200 (lw_Z below #[Value.ref b] s) (F0 m 2172 ls []) := by
  refine lv_aload_n hx hb dL_law_2172 rfl (lv_at hl 4 rfl) ?_
  refine lv_aload_n hx hb dL_law_2173 rfl (lv_at hl 5 rfl) ?_
  refine lv_iload hx hb dL_law_2174 (lv_at hl 0 rfl) ?_
  refine lv_iconst (v := 1) hx hb dL_law_2176 (by decide) ?_
  refine lv_iadd hx hb dL_law_2177 ?_
  refine lv_topi (fun v_ e_ => ?_)
  obtain rfl : v_ = 1 := e_.trans (by decide)
  refine va_sld hx hb hX hbl hbA hS (vin (by decide +kernel)) dL_law_2178 ?_
  refine lv_aload_n hx hb dL_law_2179 rfl (lv_at hl 2 rfl) ?_
  refine ka_i (vx_runSW (As := [.ref x, .int (xs (Int32.toNatClampNeg 1)), .ref ou]) (rest := []) ⟨hx, hb, hml, hown, hts⟩ (c_L_recover l hl0 G N0 ade adB H.size x dy ag qch qsh qsc pl qfl qac qcr qfg qgr qme qsf qsb qtu (xs (Int32.toNatClampNeg 1)) ou alo fo) (vx_cwSW 3 hts (kgS q662 q663 q35 q664) rfl rfl rfl (by decide +kernel) ⟨(Nat.le_of_ble_eq_true rfl), (Nat.le_of_ble_eq_true rfl)⟩) (kpreS hP hD hK hAN hT hN hS [0, 1, 2] [0] (by decide) rfl rfl) rfl rfl hl.1 rfl (lv_room (Nat.le_of_ble_eq_true rfl)) dL_law_2180 ⟨(Nat.le_of_ble_eq_true rfl), (Nat.le_of_ble_eq_true rfl)⟩) (ws := [(x, .inr (17, [.ref pl, .ref dy, .ref ag, .ref qch, .ref qsh, .ref qsc, .int 0, .int 0])), (pl, .inr (16, [.ref qfl, .ref qac, .ref qcr, .ref qfg, .ref qgr, .ref qme, .ref qsf, .ref qsb, .ref qtu, .int 0, .int 0, .int 0, .int 0, .int 0, .int 0, .int 0, .int 0, .int (-1), .int 1])), (ou, .inl (alo, 1, .inr (.inl fo))), (mo_, .inr (25, [.ref ti, .ref mfl, .ref mcr, .ref mst, .ref mtu, .int 1, .int 0, .int 1, .ref mfg, .ref mgr, .ref mme, .null, .int 0])), (mfg, .inr (5, [.int 0, .ref ade, .int 0]))]) (wc := [(x, .inr (17, [.ref pl, .ref dy, .ref ag, .ref qch, .ref qsh, .ref qsc, .int 0, .int 0])), (pl, .inr (16, [.ref qfl, .ref qac, .ref qcr, .ref qfg, .ref qgr, .ref qme, .ref qsf, .ref qsb, .ref qtu, .int 0, .int 0, .int 0, .int 0, .int 0, .int 0, .int 0, .int 0, .int (-1), .int 1])), (ou, .inl (alo, 1, .inr (.inl fo)))]) (wr := [(mo_, .inr (25, [.ref ti, .ref mfl, .ref mcr, .ref mst, .ref mtu, .int 1, .int 0, .int 1, .ref mfg, .ref mgr, .ref mme, .null, .int 0])), (mfg, .inr (5, [.int 0, .ref ade, .int 0]))]) hP hD hK hS hA [0, 1, 2] [3, 4] [] rfl rfl (by decide) (by decide) rfl (fun r_ u1 H locs hw2 hP hD hK hS => ?_)
  have hP : va_P G vwCl [(mo_, .inr (25, [.ref ti, .ref mfl, .ref mcr, .ref mst, .ref mtu, .int 1, .int 0, .int 1, .ref mfg, .ref mgr, .ref mme, .null, .int 0])), (mfg, .inr (5, [.int 0, .ref ade, .int 0]))] H := hP
  have hD : va_D A [(mo_, .inr (25, [.ref ti, .ref mfl, .ref mcr, .ref mst, .ref mtu, .int 1, .int 0, .int 1, .ref mfg, .ref mgr, .ref mme, .null, .int 0])), (mfg, .inr (5, [.int 0, .ref ade, .int 0]))] := hD
  have hK : va_K G vwCl [] s := hK
  refine W.widen (k := 161) (n := 21206) (Nat.le_of_ble_eq_true rfl) (Nat.le_of_ble_eq_true rfl) ?_
  have hf3 : ¬ sp_choose (xs (Int32.toNatClampNeg 1)) = 0 := hw2.2
  obtain rfl : r_ = (sp_choose (xs (Int32.toNatClampNeg 1))) := hw2.1
  refine lv_istore (lv' := [(6, .int (sp_choose (xs (Int32.toNatClampNeg 1)))), (5, .int 0), (4, .ref oud), (3, .ref ou), (2, .ref mo_), (1, .ref x), (0, .ref b)]) hx hb dL_law_2183 hl (by decide) rfl (fun ls hl => ?_)
  refine lv_aload_n hx hb dL_law_2185 rfl (lv_at hl 4 rfl) ?_
  refine lv_aload_n hx hb dL_law_2186 rfl (lv_at hl 6 rfl) ?_
  refine lv_iload hx hb dL_law_2187 (lv_at hl 1 rfl) ?_
  refine lv_iconst (v := 1) hx hb dL_law_2189 (by decide) ?_
  refine lv_iadd hx hb dL_law_2190 ?_
  refine lv_topi (fun v_ e_ => ?_)
  obtain rfl : v_ = 1 := e_.trans (by decide)
  refine va_sld hx hb hX hbl hbA hS (vin (by decide +kernel)) dL_law_2191 ?_
  refine ka_i (va_runV (As := [.int (xs (Int32.toNatClampNeg 1))]) (rest := []) ⟨hx, hb, hml, hown, hts⟩ (c_m_recover l G N0 ade adB H.size mo_ ti mfl mcr mst mtu mfg mgr mme 0 (xs (Int32.toNatClampNeg 1))) (cwV 1 hts (kgV q1119 q1120 q1121 q49 q1122) rfl rfl rfl (by decide +kernel) ⟨(Nat.le_of_ble_eq_true rfl), (Nat.le_of_ble_eq_true rfl)⟩) (kpreV (ci := 25) (q0 := 0) hP hD hK hAN hT hN hS [0, 1] [] (by decide) rfl rfl rfl rfl rfl) rfl rfl hl.1 rfl (lv_room (Nat.le_of_ble_eq_true rfl)) dL_law_2192 ⟨(Nat.le_of_ble_eq_true rfl), (Nat.le_of_ble_eq_true rfl)⟩) (ws := [(mo_, .inr (25, [.ref ti, .ref mfl, .ref mcr, .ref mst, .ref mtu, .int 1, .int 0, .int 1, .ref mfg, .ref mgr, .ref mme, .null, .int 0])), (mfg, .inr (5, [.int 0, .ref ade, .int 0]))]) (wc := [(mo_, .inr (25, [.ref ti, .ref mfl, .ref mcr, .ref mst, .ref mtu, .int 1, .int 0, .int 1, .ref mfg, .ref mgr, .ref mme, .null, .int 0])), (mfg, .inr (5, [.int 0, .ref ade, .int 0]))]) (wr := []) hP hD hK hS hA [0, 1] [] [] rfl rfl (by decide) (by decide) rfl (fun r_ u5 H locs hw6 hP hD hK hS => ?_)
  obtain ⟨fs4, rfl⟩ : ∃ z_, z_ = u5 := ⟨_, rfl⟩
  have hP : va_P G vwCl [(mo_, .inr (25, fs4))] H := hP
  have hD : va_D A [(mo_, .inr (25, fs4))] := hD
  have hK : va_K G vwCl [] s := hK
  refine W.widen (k := 161) (n := 21206) (Nat.le_of_ble_eq_true rfl) (Nat.le_of_ble_eq_true rfl) ?_
  have hf7 : fs4[12]? = some (.int (sp_m_recover (xs (Int32.toNatClampNeg 1)))) := hw6.2
  obtain rfl : r_ = (sv_m_recover (xs (Int32.toNatClampNeg 1))) := hw6.1
  refine lv_istore (lv' := [(7, .int (sv_m_recover (xs (Int32.toNatClampNeg 1)))), (6, .int (sp_choose (xs (Int32.toNatClampNeg 1)))), (5, .int 0), (4, .ref oud), (3, .ref ou), (2, .ref mo_), (1, .ref x), (0, .ref b)]) hx hb dL_law_2195 hl (by decide) rfl (fun ls hl => ?_)
  refine lv_aload_n hx hb dL_law_2197 rfl (lv_at hl 5 rfl) ?_
  refine ka_i (va_runV (As := []) (rest := []) ⟨hx, hb, hml, hown, hts⟩ (c_m_thrown l G N0 ade adB H.size mo_ fs4 (sp_m_recover (xs (Int32.toNatClampNeg 1))) hf7) (cwV 0 hts (kgV q748 q749 q750 q49 q751) rfl rfl rfl (by decide +kernel) ⟨(Nat.le_of_ble_eq_true rfl), (Nat.le_of_ble_eq_true rfl)⟩) (kpreV (ci := 25) (q0 := 0) hP hD hK hAN hT hN hS [0] [] (by decide) rfl rfl rfl rfl rfl) rfl rfl hl.1 rfl (lv_room (Nat.le_of_ble_eq_true rfl)) dL_law_2198 ⟨(Nat.le_of_ble_eq_true rfl), (Nat.le_of_ble_eq_true rfl)⟩) (ws := [(mo_, .inr (25, fs4))]) (wc := [(mo_, .inr (25, fs4))]) (wr := []) hP hD hK hS hA [0] [] [] rfl rfl (by decide) (by decide) rfl (fun r_ u9 H locs hw10 hP hD hK hS => ?_)
  have hP : va_P G vwCl [(mo_, .inr (25, fs4))] H := hP
  have hD : va_D A [(mo_, .inr (25, fs4))] := hD
  have hK : va_K G vwCl [] s := hK
  refine W.widen (k := 161) (n := 21206) (Nat.le_of_ble_eq_true rfl) (Nat.le_of_ble_eq_true rfl) ?_
  obtain rfl : r_ = (sp_m_recover (xs (Int32.toNatClampNeg 1))) := hw10
  refine lv_iload hx hb dL_law_2201 (lv_at hl 1 rfl) ?_
  refine lv_icmp_eq (tgt := 2208) hx hb dL_law_2203 (by decide) (fun _ => ?_) (fun h_ => absurd (tm_recover (xs (Int32.toNatClampNeg 1))) h_)
  refine lv_iload hx hb dL_law_2208 (lv_at hl 1 rfl) ?_
  refine lv_if_ne (tgt := 2225) hx hb dL_law_2210 (by decide) (fun _ => ?_) (fun h_ => absurd h_ hf3)
  refine lv_goto (tgt := 2435) hx hb dL_law_2225 (by decide) ?_
  exact law_tail hl0 hx hb hr hml hown hts hX hbl hlocks hT hAN hA hN hbA hAs hS (Nat.le_of_ble_eq_true rfl) (Nat.le_of_ble_eq_true rfl) (lv_sub hl [2, 7] rfl)

set_option maxHeartbeats 4000000 in
set_option maxRecDepth 100000 in
theorem law_isBest {p : Program} {l : Launch} {e : Env} {s : State} {m : MethodId} {below : List Frame} {meth : Method} {c : Code} {b : Nat} {xs : Nat → Int32} {A : Nat → Prop} (hl0 : l.stackTraces = false) (hx : p.tables.exec = Jvm.exec) (hb : c.code = cL_law) (hr : meth.sig.returnType = ret) (hml : c.maxLocals = 9) (hown : s.vm.findClass RL = some m.cls) (hts : ∀ w ∈ lw_all, w.before #[Value.ref b] s = true) (hX : va_X b 7 xs s s.heap) (hbl : b < s.heap.size) (hlocks : meth.locks = false) {N0 ade : Nat} {adB : Nat → Nat} (hT : BT N0 ade adB s) (hAN : ∀ q, A q → KA N0 q) (hA : ∀ q, s.heap.size ≤ q → A q) (hN : N0 ≤ s.heap.size) (hbA : ¬ A b) (hAs : ∀ q, A q → s.heap.size ≤ q) {G : va_G} {x : Nat} {dy : Nat} {ag : Nat} {qch : Nat} {qsh : Nat} {qsc : Nat} {pl : Nat} {qfl : Nat} {qac : Nat} {qcr : Nat} {qfg : Nat} {qgr : Nat} {qme : Nat} {qsf : Nat} {qsb : Nat} {qtu : Nat} {ou : Nat} {alo : ClassId} {fo : Nat → Int64} {mo_ : Nat} {ti : Nat} {mfl : Nat} {mcr : Nat} {mst : Nat} {mtu : Nat} {mfg : Nat} {mgr : Nat} {mme : Nat} {oud : Nat}  {H : Heap} {locs : List Loc} (hP : va_P G vwCl [(x, .inr (17, [.ref pl, .ref dy, .ref ag, .ref qch, .ref qsh, .ref qsc, .int 0, .int 0])), (pl, .inr (16, [.ref qfl, .ref qac, .ref qcr, .ref qfg, .ref qgr, .ref qme, .ref qsf, .ref qsb, .ref qtu, .int 0, .int 0, .int 0, .int 0, .int 0, .int 0, .int 0, .int 0, .int (-1), .int 1])), (ou, .inl (alo, 1, .inr (.inl fo))), (mo_, .inr (25, [.ref ti, .ref mfl, .ref mcr, .ref mst, .ref mtu, .int 1, .int 0, .int 1, .ref mfg, .ref mgr, .ref mme, .null, .int 0])), (mfg, .inr (5, [.int 0, .ref ade, .int 0]))] H) (hD : va_D A [(x, .inr (17, [.ref pl, .ref dy, .ref ag, .ref qch, .ref qsh, .ref qsc, .int 0, .int 0])), (pl, .inr (16, [.ref qfl, .ref qac, .ref qcr, .ref qfg, .ref qgr, .ref qme, .ref qsf, .ref qsb, .ref qtu, .int 0, .int 0, .int 0, .int 0, .int 0, .int 0, .int 0, .int 0, .int (-1), .int 1])), (ou, .inl (alo, 1, .inr (.inl fo))), (mo_, .inr (25, [.ref ti, .ref mfl, .ref mcr, .ref mst, .ref mtu, .int 1, .int 0, .int 1, .ref mfg, .ref mgr, .ref mme, .null, .int 0])), (mfg, .inr (5, [.int 0, .ref ade, .int 0]))]) (hK : va_K G vwCl [(alo, .long)] s) (hS : va_S A s.heap H locs) {ls : Array Slot} (hl : lv_has ls 9 [(5, .int 0), (4, .ref oud), (3, .ref ou), (2, .ref mo_), (1, .ref x), (0, .ref b)]) : W p l e room_1 s m #[Value.ref b] below meth c H locs 160 21200 (lw_Z below #[Value.ref b] s) (F0 m 2228 ls []) := by
  refine lv_aload_n hx hb dL_law_2228 rfl (lv_at hl 4 rfl) ?_
  refine lv_aload_n hx hb dL_law_2229 rfl (lv_at hl 5 rfl) ?_
  refine lv_iload hx hb dL_law_2230 (lv_at hl 0 rfl) ?_
  refine lv_iconst (v := 1) hx hb dL_law_2232 (by decide) ?_
  refine lv_iadd hx hb dL_law_2233 ?_
  refine lv_topi (fun v_ e_ => ?_)
  obtain rfl : v_ = 1 := e_.trans (by decide)
  refine va_sld hx hb hX hbl hbA hS (vin (by decide +kernel)) dL_law_2234 ?_
  refine lv_aload_n hx hb dL_law_2235 rfl (lv_at hl 2 rfl) ?_
  refine ka_i (vx_runSW (As := [.ref x, .int (xs (Int32.toNatClampNeg 1)), .ref ou]) (rest := []) ⟨hx, hb, hml, hown, hts⟩ (c_L_isBest l hl0 G N0 ade adB H.size x dy ag qch qsh qsc pl qfl qac qcr qfg qgr qme qsf qsb qtu (xs (Int32.toNatClampNeg 1)) ou alo fo) (vx_cwSW 3 hts (kgS q680 q681 q35 q682) rfl rfl rfl (by decide +kernel) ⟨(Nat.le_of_ble_eq_true rfl), (Nat.le_of_ble_eq_true rfl)⟩) (kpreS hP hD hK hAN hT hN hS [0, 1, 2] [0] (by decide) rfl rfl) rfl rfl hl.1 rfl (lv_room (Nat.le_of_ble_eq_true rfl)) dL_law_2236 ⟨(Nat.le_of_ble_eq_true rfl), (Nat.le_of_ble_eq_true rfl)⟩) (ws := [(x, .inr (17, [.ref pl, .ref dy, .ref ag, .ref qch, .ref qsh, .ref qsc, .int 0, .int 0])), (pl, .inr (16, [.ref qfl, .ref qac, .ref qcr, .ref qfg, .ref qgr, .ref qme, .ref qsf, .ref qsb, .ref qtu, .int 0, .int 0, .int 0, .int 0, .int 0, .int 0, .int 0, .int 0, .int (-1), .int 1])), (ou, .inl (alo, 1, .inr (.inl fo))), (mo_, .inr (25, [.ref ti, .ref mfl, .ref mcr, .ref mst, .ref mtu, .int 1, .int 0, .int 1, .ref mfg, .ref mgr, .ref mme, .null, .int 0])), (mfg, .inr (5, [.int 0, .ref ade, .int 0]))]) (wc := [(x, .inr (17, [.ref pl, .ref dy, .ref ag, .ref qch, .ref qsh, .ref qsc, .int 0, .int 0])), (pl, .inr (16, [.ref qfl, .ref qac, .ref qcr, .ref qfg, .ref qgr, .ref qme, .ref qsf, .ref qsb, .ref qtu, .int 0, .int 0, .int 0, .int 0, .int 0, .int 0, .int 0, .int 0, .int (-1), .int 1])), (ou, .inl (alo, 1, .inr (.inl fo)))]) (wr := [(mo_, .inr (25, [.ref ti, .ref mfl, .ref mcr, .ref mst, .ref mtu, .int 1, .int 0, .int 1, .ref mfg, .ref mgr, .ref mme, .null, .int 0])), (mfg, .inr (5, [.int 0, .ref ade, .int 0]))]) hP hD hK hS hA [0, 1, 2] [3, 4] [] rfl rfl (by decide) (by decide) rfl (fun r_ u1 H locs hw2 hP hD hK hS => ?_)
  have hP : va_P G vwCl [(mo_, .inr (25, [.ref ti, .ref mfl, .ref mcr, .ref mst, .ref mtu, .int 1, .int 0, .int 1, .ref mfg, .ref mgr, .ref mme, .null, .int 0])), (mfg, .inr (5, [.int 0, .ref ade, .int 0]))] H := hP
  have hD : va_D A [(mo_, .inr (25, [.ref ti, .ref mfl, .ref mcr, .ref mst, .ref mtu, .int 1, .int 0, .int 1, .ref mfg, .ref mgr, .ref mme, .null, .int 0])), (mfg, .inr (5, [.int 0, .ref ade, .int 0]))] := hD
  have hK : va_K G vwCl [] s := hK
  refine W.widen (k := 161) (n := 21206) (Nat.le_of_ble_eq_true rfl) (Nat.le_of_ble_eq_true rfl) ?_
  have hf3 : ¬ sp_choose (xs (Int32.toNatClampNeg 1)) = 0 := hw2.2
  obtain rfl : r_ = (sp_choose (xs (Int32.toNatClampNeg 1))) := hw2.1
  refine lv_istore (lv' := [(6, .int (sp_choose (xs (Int32.toNatClampNeg 1)))), (5, .int 0), (4, .ref oud), (3, .ref ou), (2, .ref mo_), (1, .ref x), (0, .ref b)]) hx hb dL_law_2239 hl (by decide) rfl (fun ls hl => ?_)
  refine lv_aload_n hx hb dL_law_2241 rfl (lv_at hl 4 rfl) ?_
  refine lv_aload_n hx hb dL_law_2242 rfl (lv_at hl 6 rfl) ?_
  refine lv_iload hx hb dL_law_2243 (lv_at hl 1 rfl) ?_
  refine lv_iconst (v := 1) hx hb dL_law_2245 (by decide) ?_
  refine lv_iadd hx hb dL_law_2246 ?_
  refine lv_topi (fun v_ e_ => ?_)
  obtain rfl : v_ = 1 := e_.trans (by decide)
  refine va_sld hx hb hX hbl hbA hS (vin (by decide +kernel)) dL_law_2247 ?_
  refine ka_i (va_runV (As := [.int (xs (Int32.toNatClampNeg 1))]) (rest := []) ⟨hx, hb, hml, hown, hts⟩ (c_m_isBest l G N0 ade adB H.size mo_ ti mfl mcr mst mtu mfg mgr mme 0 (xs (Int32.toNatClampNeg 1))) (cwV 1 hts (kgV q1130 q1131 q1132 q49 q1133) rfl rfl rfl (by decide +kernel) ⟨(Nat.le_of_ble_eq_true rfl), (Nat.le_of_ble_eq_true rfl)⟩) (kpreV (ci := 25) (q0 := 0) hP hD hK hAN hT hN hS [0, 1] [] (by decide) rfl rfl rfl rfl rfl) rfl rfl hl.1 rfl (lv_room (Nat.le_of_ble_eq_true rfl)) dL_law_2248 ⟨(Nat.le_of_ble_eq_true rfl), (Nat.le_of_ble_eq_true rfl)⟩) (ws := [(mo_, .inr (25, [.ref ti, .ref mfl, .ref mcr, .ref mst, .ref mtu, .int 1, .int 0, .int 1, .ref mfg, .ref mgr, .ref mme, .null, .int 0])), (mfg, .inr (5, [.int 0, .ref ade, .int 0]))]) (wc := [(mo_, .inr (25, [.ref ti, .ref mfl, .ref mcr, .ref mst, .ref mtu, .int 1, .int 0, .int 1, .ref mfg, .ref mgr, .ref mme, .null, .int 0])), (mfg, .inr (5, [.int 0, .ref ade, .int 0]))]) (wr := []) hP hD hK hS hA [0, 1] [] [] rfl rfl (by decide) (by decide) rfl (fun r_ u5 H locs hw6 hP hD hK hS => ?_)
  obtain ⟨fs4, rfl⟩ : ∃ z_, z_ = u5 := ⟨_, rfl⟩
  have hP : va_P G vwCl [(mo_, .inr (25, fs4))] H := hP
  have hD : va_D A [(mo_, .inr (25, fs4))] := hD
  have hK : va_K G vwCl [] s := hK
  refine W.widen (k := 161) (n := 21206) (Nat.le_of_ble_eq_true rfl) (Nat.le_of_ble_eq_true rfl) ?_
  have hf7 : fs4[12]? = some (.int (sp_m_isBest (xs (Int32.toNatClampNeg 1)))) := hw6.2
  obtain rfl : r_ = (sv_m_isBest (xs (Int32.toNatClampNeg 1))) := hw6.1
  refine lv_istore (lv' := [(7, .int (sv_m_isBest (xs (Int32.toNatClampNeg 1)))), (6, .int (sp_choose (xs (Int32.toNatClampNeg 1)))), (5, .int 0), (4, .ref oud), (3, .ref ou), (2, .ref mo_), (1, .ref x), (0, .ref b)]) hx hb dL_law_2251 hl (by decide) rfl (fun ls hl => ?_)
  refine lv_aload_n hx hb dL_law_2253 rfl (lv_at hl 5 rfl) ?_
  refine ka_i (va_runV (As := []) (rest := []) ⟨hx, hb, hml, hown, hts⟩ (c_m_thrown l G N0 ade adB H.size mo_ fs4 (sp_m_isBest (xs (Int32.toNatClampNeg 1))) hf7) (cwV 0 hts (kgV q748 q749 q750 q49 q751) rfl rfl rfl (by decide +kernel) ⟨(Nat.le_of_ble_eq_true rfl), (Nat.le_of_ble_eq_true rfl)⟩) (kpreV (ci := 25) (q0 := 0) hP hD hK hAN hT hN hS [0] [] (by decide) rfl rfl rfl rfl rfl) rfl rfl hl.1 rfl (lv_room (Nat.le_of_ble_eq_true rfl)) dL_law_2254 ⟨(Nat.le_of_ble_eq_true rfl), (Nat.le_of_ble_eq_true rfl)⟩) (ws := [(mo_, .inr (25, fs4))]) (wc := [(mo_, .inr (25, fs4))]) (wr := []) hP hD hK hS hA [0] [] [] rfl rfl (by decide) (by decide) rfl (fun r_ u9 H locs hw10 hP hD hK hS => ?_)
  have hP : va_P G vwCl [(mo_, .inr (25, fs4))] H := hP
  have hD : va_D A [(mo_, .inr (25, fs4))] := hD
  have hK : va_K G vwCl [] s := hK
  refine W.widen (k := 161) (n := 21206) (Nat.le_of_ble_eq_true rfl) (Nat.le_of_ble_eq_true rfl) ?_
  obtain rfl : r_ = (sp_m_isBest (xs (Int32.toNatClampNeg 1))) := hw10
  refine lv_iload hx hb dL_law_2257 (lv_at hl 1 rfl) ?_
  refine lv_icmp_eq (tgt := 2264) hx hb dL_law_2259 (by decide) (fun _ => ?_) (fun h_ => absurd (tm_isBest (xs (Int32.toNatClampNeg 1))) h_)
  refine lv_iload hx hb dL_law_2264 (lv_at hl 1 rfl) ?_
  refine lv_if_ne (tgt := 2288) hx hb dL_law_2266 (by decide) (fun _ => ?_) (fun h_ => absurd h_ hf3)
  refine lv_goto (tgt := 2435) hx hb dL_law_2288 (by decide) ?_
  exact law_tail hl0 hx hb hr hml hown hts hX hbl hlocks hT hAN hA hN hbA hAs hS (Nat.le_of_ble_eq_true rfl) (Nat.le_of_ble_eq_true rfl) (lv_sub hl [2, 7] rfl)

set_option maxHeartbeats 4000000 in
set_option maxRecDepth 100000 in
theorem law_onTimeShare {p : Program} {l : Launch} {e : Env} {s : State} {m : MethodId} {below : List Frame} {meth : Method} {c : Code} {b : Nat} {xs : Nat → Int32} {A : Nat → Prop} (hl0 : l.stackTraces = false) (hx : p.tables.exec = Jvm.exec) (hb : c.code = cL_law) (hr : meth.sig.returnType = ret) (hml : c.maxLocals = 9) (hown : s.vm.findClass RL = some m.cls) (hts : ∀ w ∈ lw_all, w.before #[Value.ref b] s = true) (hX : va_X b 7 xs s s.heap) (hbl : b < s.heap.size) (hlocks : meth.locks = false) {N0 ade : Nat} {adB : Nat → Nat} (hT : BT N0 ade adB s) (hAN : ∀ q, A q → KA N0 q) (hA : ∀ q, s.heap.size ≤ q → A q) (hN : N0 ≤ s.heap.size) (hbA : ¬ A b) (hAs : ∀ q, A q → s.heap.size ≤ q) {G : va_G} {x : Nat} {dy : Nat} {ag : Nat} {qch : Nat} {qsh : Nat} {qsc : Nat} {pl : Nat} {qfl : Nat} {qac : Nat} {qcr : Nat} {qfg : Nat} {qgr : Nat} {qme : Nat} {qsf : Nat} {qsb : Nat} {qtu : Nat} {ou : Nat} {alo : ClassId} {fo : Nat → UInt64} {mo_ : Nat} {ti : Nat} {mfl : Nat} {mcr : Nat} {mst : Nat} {mtu : Nat} {mfg : Nat} {mgr : Nat} {mme : Nat} {oul : Nat}  {H : Heap} {locs : List Loc} (hP : va_P G vwCl [(x, .inr (17, [.ref pl, .ref dy, .ref ag, .ref qch, .ref qsh, .ref qsc, .int 0, .int 0])), (pl, .inr (16, [.ref qfl, .ref qac, .ref qcr, .ref qfg, .ref qgr, .ref qme, .ref qsf, .ref qsb, .ref qtu, .int 0, .int 0, .int 0, .int 0, .int 0, .int 0, .int 0, .int 0, .int (-1), .int 1])), (ou, .inl (alo, 1, .inr (.inr (.inr (.inl fo))))), (mo_, .inr (25, [.ref ti, .ref mfl, .ref mcr, .ref mst, .ref mtu, .int 1, .int 0, .int 1, .ref mfg, .ref mgr, .ref mme, .null, .int 0])), (mfg, .inr (5, [.int 0, .ref ade, .int 0]))] H) (hD : va_D A [(x, .inr (17, [.ref pl, .ref dy, .ref ag, .ref qch, .ref qsh, .ref qsc, .int 0, .int 0])), (pl, .inr (16, [.ref qfl, .ref qac, .ref qcr, .ref qfg, .ref qgr, .ref qme, .ref qsf, .ref qsb, .ref qtu, .int 0, .int 0, .int 0, .int 0, .int 0, .int 0, .int 0, .int 0, .int (-1), .int 1])), (ou, .inl (alo, 1, .inr (.inr (.inr (.inl fo))))), (mo_, .inr (25, [.ref ti, .ref mfl, .ref mcr, .ref mst, .ref mtu, .int 1, .int 0, .int 1, .ref mfg, .ref mgr, .ref mme, .null, .int 0])), (mfg, .inr (5, [.int 0, .ref ade, .int 0]))]) (hK : va_K G vwCl [(alo, .double)] s) (hS : va_S A s.heap H locs) {ls : Array Slot} (hl : lv_has ls 9 [(5, .int 0), (4, .ref ou), (3, .ref oul), (2, .ref mo_), (1, .ref x), (0, .ref b)]) : W p l e room_1 s m #[Value.ref b] below meth c H locs 160 21200 (lw_Z below #[Value.ref b] s) (F0 m 2291 ls []) := by
  refine lv_aload_n hx hb dL_law_2291 rfl (lv_at hl 4 rfl) ?_
  refine lv_aload hx hb dL_law_2292 (lv_at hl 1 rfl) ?_
  refine ka_i (vx_runSW (As := [.ref x, .ref ou]) (rest := []) ⟨hx, hb, hml, hown, hts⟩ (c_L_onTimeShare l hl0 G N0 ade adB H.size x dy ag qch qsh qsc pl qfl qac qcr qfg qgr qme qsf qsb qtu ou alo fo) (vx_cwSW 2 hts (kgS q687 q688 q35 q689) rfl rfl rfl (by decide +kernel) ⟨(Nat.le_of_ble_eq_true rfl), (Nat.le_of_ble_eq_true rfl)⟩) (kpreS hP hD hK hAN hT hN hS [0, 1, 2] [0] (by decide) rfl rfl) rfl rfl hl.1 rfl (lv_room (Nat.le_of_ble_eq_true rfl)) dL_law_2294 ⟨(Nat.le_of_ble_eq_true rfl), (Nat.le_of_ble_eq_true rfl)⟩) (ws := [(x, .inr (17, [.ref pl, .ref dy, .ref ag, .ref qch, .ref qsh, .ref qsc, .int 0, .int 0])), (pl, .inr (16, [.ref qfl, .ref qac, .ref qcr, .ref qfg, .ref qgr, .ref qme, .ref qsf, .ref qsb, .ref qtu, .int 0, .int 0, .int 0, .int 0, .int 0, .int 0, .int 0, .int 0, .int (-1), .int 1])), (ou, .inl (alo, 1, .inr (.inr (.inr (.inl fo))))), (mo_, .inr (25, [.ref ti, .ref mfl, .ref mcr, .ref mst, .ref mtu, .int 1, .int 0, .int 1, .ref mfg, .ref mgr, .ref mme, .null, .int 0])), (mfg, .inr (5, [.int 0, .ref ade, .int 0]))]) (wc := [(x, .inr (17, [.ref pl, .ref dy, .ref ag, .ref qch, .ref qsh, .ref qsc, .int 0, .int 0])), (pl, .inr (16, [.ref qfl, .ref qac, .ref qcr, .ref qfg, .ref qgr, .ref qme, .ref qsf, .ref qsb, .ref qtu, .int 0, .int 0, .int 0, .int 0, .int 0, .int 0, .int 0, .int 0, .int (-1), .int 1])), (ou, .inl (alo, 1, .inr (.inr (.inr (.inl fo)))))]) (wr := [(mo_, .inr (25, [.ref ti, .ref mfl, .ref mcr, .ref mst, .ref mtu, .int 1, .int 0, .int 1, .ref mfg, .ref mgr, .ref mme, .null, .int 0])), (mfg, .inr (5, [.int 0, .ref ade, .int 0]))]) hP hD hK hS hA [0, 1, 2] [3, 4] [] rfl rfl (by decide) (by decide) rfl (fun r_ u1 H locs hw2 hP hD hK hS => ?_)
  have hP : va_P G vwCl [(mo_, .inr (25, [.ref ti, .ref mfl, .ref mcr, .ref mst, .ref mtu, .int 1, .int 0, .int 1, .ref mfg, .ref mgr, .ref mme, .null, .int 0])), (mfg, .inr (5, [.int 0, .ref ade, .int 0]))] H := hP
  have hD : va_D A [(mo_, .inr (25, [.ref ti, .ref mfl, .ref mcr, .ref mst, .ref mtu, .int 1, .int 0, .int 1, .ref mfg, .ref mgr, .ref mme, .null, .int 0])), (mfg, .inr (5, [.int 0, .ref ade, .int 0]))] := hD
  have hK : va_K G vwCl [] s := hK
  refine W.widen (k := 161) (n := 21206) (Nat.le_of_ble_eq_true rfl) (Nat.le_of_ble_eq_true rfl) ?_
  obtain rfl : r_ = 1 := hw2
  refine lv_istore (lv' := [(6, .int 1), (5, .int 0), (4, .ref ou), (3, .ref oul), (2, .ref mo_), (1, .ref x), (0, .ref b)]) hx hb dL_law_2297 hl (by decide) rfl (fun ls hl => ?_)
  refine lv_aload_n hx hb dL_law_2299 rfl (lv_at hl 4 rfl) ?_
  refine ka_f (va_runV (As := []) (rest := []) ⟨hx, hb, hml, hown, hts⟩ (c_m_onTimeShare l G N0 ade adB H.size mo_ ti mfl mcr mst mtu mfg mgr mme 0) (cwV 0 hts (kgV q1134 q1135 q1136 q49 q1137) rfl rfl rfl (by decide +kernel) ⟨(Nat.le_of_ble_eq_true rfl), (Nat.le_of_ble_eq_true rfl)⟩) (kpreV (ci := 25) (q0 := 0) hP hD hK hAN hT hN hS [0, 1] [] (by decide) rfl rfl rfl rfl rfl) rfl rfl hl.1 rfl (lv_room (Nat.le_of_ble_eq_true rfl)) dL_law_2300 ⟨(Nat.le_of_ble_eq_true rfl), (Nat.le_of_ble_eq_true rfl)⟩) (ws := [(mo_, .inr (25, [.ref ti, .ref mfl, .ref mcr, .ref mst, .ref mtu, .int 1, .int 0, .int 1, .ref mfg, .ref mgr, .ref mme, .null, .int 0])), (mfg, .inr (5, [.int 0, .ref ade, .int 0]))]) (wc := [(mo_, .inr (25, [.ref ti, .ref mfl, .ref mcr, .ref mst, .ref mtu, .int 1, .int 0, .int 1, .ref mfg, .ref mgr, .ref mme, .null, .int 0])), (mfg, .inr (5, [.int 0, .ref ade, .int 0]))]) (wr := []) hP hD hK hS hA [0, 1] [] [] rfl rfl (by decide) (by decide) rfl (fun r_ u4 H locs hw5 hP hD hK hS => ?_)
  obtain ⟨fs3, rfl⟩ : ∃ z_, z_ = u4 := ⟨_, rfl⟩
  have hP : va_P G vwCl [(mo_, .inr (25, fs3))] H := hP
  have hD : va_D A [(mo_, .inr (25, fs3))] := hD
  have hK : va_K G vwCl [] s := hK
  refine W.widen (k := 161) (n := 21206) (Nat.le_of_ble_eq_true rfl) (Nat.le_of_ble_eq_true rfl) ?_
  have hf6 : fs3[12]? = some (.int (sp_m_onTimeShare)) := hw5
  refine lv_fstore (lv' := [(7, .float r_), (6, .int 1), (5, .int 0), (4, .ref ou), (3, .ref oul), (2, .ref mo_), (1, .ref x), (0, .ref b)]) hx hb dL_law_2303 hl (by decide) rfl (fun ls hl => ?_)
  refine lv_aload_n hx hb dL_law_2305 rfl (lv_at hl 5 rfl) ?_
  refine ka_i (va_runV (As := []) (rest := []) ⟨hx, hb, hml, hown, hts⟩ (c_m_thrown l G N0 ade adB H.size mo_ fs3 (sp_m_onTimeShare) hf6) (cwV 0 hts (kgV q748 q749 q750 q49 q751) rfl rfl rfl (by decide +kernel) ⟨(Nat.le_of_ble_eq_true rfl), (Nat.le_of_ble_eq_true rfl)⟩) (kpreV (ci := 25) (q0 := 0) hP hD hK hAN hT hN hS [0] [] (by decide) rfl rfl rfl rfl rfl) rfl rfl hl.1 rfl (lv_room (Nat.le_of_ble_eq_true rfl)) dL_law_2306 ⟨(Nat.le_of_ble_eq_true rfl), (Nat.le_of_ble_eq_true rfl)⟩) (ws := [(mo_, .inr (25, fs3))]) (wc := [(mo_, .inr (25, fs3))]) (wr := []) hP hD hK hS hA [0] [] [] rfl rfl (by decide) (by decide) rfl (fun r_ u7 H locs hw8 hP hD hK hS => ?_)
  have hP : va_P G vwCl [(mo_, .inr (25, fs3))] H := hP
  have hD : va_D A [(mo_, .inr (25, fs3))] := hD
  have hK : va_K G vwCl [] s := hK
  refine W.widen (k := 161) (n := 21206) (Nat.le_of_ble_eq_true rfl) (Nat.le_of_ble_eq_true rfl) ?_
  obtain rfl : r_ = (sp_m_onTimeShare) := hw8
  refine lv_iload hx hb dL_law_2309 (lv_at hl 1 rfl) ?_
  refine lv_icmp_eq (tgt := 2316) hx hb dL_law_2311 (by decide) (fun _ => ?_) (fun h_ => absurd (show (sp_m_onTimeShare) = 1 from rfl) h_)
  refine lv_iload hx hb dL_law_2316 (lv_at hl 1 rfl) ?_
  refine lv_if_ne (tgt := 2354) hx hb dL_law_2318 (by decide) (fun _ => ?_) (fun h_ => absurd h_ (by decide))
  refine lv_goto (tgt := 2435) hx hb dL_law_2354 (by decide) ?_
  exact law_tail hl0 hx hb hr hml hown hts hX hbl hlocks hT hAN hA hN hbA hAs hS (Nat.le_of_ble_eq_true rfl) (Nat.le_of_ble_eq_true rfl) (lv_sub hl [2, 7] rfl)

set_option maxHeartbeats 4000000 in
set_option maxRecDepth 100000 in
theorem law_meanLateness {p : Program} {l : Launch} {e : Env} {s : State} {m : MethodId} {below : List Frame} {meth : Method} {c : Code} {b : Nat} {xs : Nat → Int32} {A : Nat → Prop} (hl0 : l.stackTraces = false) (hx : p.tables.exec = Jvm.exec) (hb : c.code = cL_law) (hr : meth.sig.returnType = ret) (hml : c.maxLocals = 9) (hown : s.vm.findClass RL = some m.cls) (hts : ∀ w ∈ lw_all, w.before #[Value.ref b] s = true) (hX : va_X b 7 xs s s.heap) (hbl : b < s.heap.size) (hlocks : meth.locks = false) {N0 ade : Nat} {adB : Nat → Nat} (hT : BT N0 ade adB s) (hAN : ∀ q, A q → KA N0 q) (hA : ∀ q, s.heap.size ≤ q → A q) (hN : N0 ≤ s.heap.size) (hbA : ¬ A b) (hAs : ∀ q, A q → s.heap.size ≤ q) {G : va_G} {x : Nat} {dy : Nat} {ag : Nat} {qch : Nat} {qsh : Nat} {qsc : Nat} {pl : Nat} {qfl : Nat} {qac : Nat} {qcr : Nat} {qfg : Nat} {qgr : Nat} {qme : Nat} {qsf : Nat} {qsb : Nat} {qtu : Nat} {ou : Nat} {alo : ClassId} {fo : Nat → UInt64} {mo_ : Nat} {ti : Nat} {mfl : Nat} {mcr : Nat} {mst : Nat} {mtu : Nat} {mfg : Nat} {mgr : Nat} {mme : Nat} {oul : Nat}  {H : Heap} {locs : List Loc} (hP : va_P G vwCl [(x, .inr (17, [.ref pl, .ref dy, .ref ag, .ref qch, .ref qsh, .ref qsc, .int 0, .int 0])), (pl, .inr (16, [.ref qfl, .ref qac, .ref qcr, .ref qfg, .ref qgr, .ref qme, .ref qsf, .ref qsb, .ref qtu, .int 0, .int 0, .int 0, .int 0, .int 0, .int 0, .int 0, .int 0, .int (-1), .int 1])), (ou, .inl (alo, 1, .inr (.inr (.inr (.inl fo))))), (mo_, .inr (25, [.ref ti, .ref mfl, .ref mcr, .ref mst, .ref mtu, .int 1, .int 0, .int 1, .ref mfg, .ref mgr, .ref mme, .null, .int 0])), (mfg, .inr (5, [.int 0, .ref ade, .int 0])), (mgr, .inr (5, [.int 0, .ref ade, .int 0])), (mfl, .inr (5, [.int 0, .ref ade, .int 0])), (mcr, .inr (5, [.int 0, .ref ade, .int 0])), (mme, .inr (5, [.int 0, .ref ade, .int 0]))] H) (hD : va_D A [(x, .inr (17, [.ref pl, .ref dy, .ref ag, .ref qch, .ref qsh, .ref qsc, .int 0, .int 0])), (pl, .inr (16, [.ref qfl, .ref qac, .ref qcr, .ref qfg, .ref qgr, .ref qme, .ref qsf, .ref qsb, .ref qtu, .int 0, .int 0, .int 0, .int 0, .int 0, .int 0, .int 0, .int 0, .int (-1), .int 1])), (ou, .inl (alo, 1, .inr (.inr (.inr (.inl fo))))), (mo_, .inr (25, [.ref ti, .ref mfl, .ref mcr, .ref mst, .ref mtu, .int 1, .int 0, .int 1, .ref mfg, .ref mgr, .ref mme, .null, .int 0])), (mfg, .inr (5, [.int 0, .ref ade, .int 0])), (mgr, .inr (5, [.int 0, .ref ade, .int 0])), (mfl, .inr (5, [.int 0, .ref ade, .int 0])), (mcr, .inr (5, [.int 0, .ref ade, .int 0])), (mme, .inr (5, [.int 0, .ref ade, .int 0]))]) (hK : va_K G vwCl [(alo, .double)] s) (hS : va_S A s.heap H locs) {ls : Array Slot} (hl : lv_has ls 9 [(5, .int 0), (4, .ref ou), (3, .ref oul), (2, .ref mo_), (1, .ref x), (0, .ref b)]) : W p l e room_1 s m #[Value.ref b] below meth c H locs 160 21200 (lw_Z below #[Value.ref b] s) (F0 m 2357 ls []) := by
  refine lv_aload_n hx hb dL_law_2357 rfl (lv_at hl 4 rfl) ?_
  refine lv_aload hx hb dL_law_2358 (lv_at hl 1 rfl) ?_
  refine ka_i (vx_runSW (As := [.ref x, .ref ou]) (rest := []) ⟨hx, hb, hml, hown, hts⟩ (c_L_meanLateness l hl0 G N0 ade adB H.size x dy ag qch qsh qsc pl qfl qac qcr qfg qgr qme qsf qsb qtu ou alo fo) (vx_cwSW 2 hts (kgS q701 q702 q35 q703) rfl rfl rfl (by decide +kernel) ⟨(Nat.le_of_ble_eq_true rfl), (Nat.le_of_ble_eq_true rfl)⟩) (kpreS hP hD hK hAN hT hN hS [0, 1, 2] [0] (by decide) rfl rfl) rfl rfl hl.1 rfl (lv_room (Nat.le_of_ble_eq_true rfl)) dL_law_2360 ⟨(Nat.le_of_ble_eq_true rfl), (Nat.le_of_ble_eq_true rfl)⟩) (ws := [(x, .inr (17, [.ref pl, .ref dy, .ref ag, .ref qch, .ref qsh, .ref qsc, .int 0, .int 0])), (pl, .inr (16, [.ref qfl, .ref qac, .ref qcr, .ref qfg, .ref qgr, .ref qme, .ref qsf, .ref qsb, .ref qtu, .int 0, .int 0, .int 0, .int 0, .int 0, .int 0, .int 0, .int 0, .int (-1), .int 1])), (ou, .inl (alo, 1, .inr (.inr (.inr (.inl fo))))), (mo_, .inr (25, [.ref ti, .ref mfl, .ref mcr, .ref mst, .ref mtu, .int 1, .int 0, .int 1, .ref mfg, .ref mgr, .ref mme, .null, .int 0])), (mfg, .inr (5, [.int 0, .ref ade, .int 0])), (mgr, .inr (5, [.int 0, .ref ade, .int 0])), (mfl, .inr (5, [.int 0, .ref ade, .int 0])), (mcr, .inr (5, [.int 0, .ref ade, .int 0])), (mme, .inr (5, [.int 0, .ref ade, .int 0]))]) (wc := [(x, .inr (17, [.ref pl, .ref dy, .ref ag, .ref qch, .ref qsh, .ref qsc, .int 0, .int 0])), (pl, .inr (16, [.ref qfl, .ref qac, .ref qcr, .ref qfg, .ref qgr, .ref qme, .ref qsf, .ref qsb, .ref qtu, .int 0, .int 0, .int 0, .int 0, .int 0, .int 0, .int 0, .int 0, .int (-1), .int 1])), (ou, .inl (alo, 1, .inr (.inr (.inr (.inl fo)))))]) (wr := [(mo_, .inr (25, [.ref ti, .ref mfl, .ref mcr, .ref mst, .ref mtu, .int 1, .int 0, .int 1, .ref mfg, .ref mgr, .ref mme, .null, .int 0])), (mfg, .inr (5, [.int 0, .ref ade, .int 0])), (mgr, .inr (5, [.int 0, .ref ade, .int 0])), (mfl, .inr (5, [.int 0, .ref ade, .int 0])), (mcr, .inr (5, [.int 0, .ref ade, .int 0])), (mme, .inr (5, [.int 0, .ref ade, .int 0]))]) hP hD hK hS hA [0, 1, 2] [3, 4, 5, 6, 7, 8] [] rfl rfl (by decide) (by decide) rfl (fun r_ u1 H locs hw2 hP hD hK hS => ?_)
  have hP : va_P G vwCl [(mo_, .inr (25, [.ref ti, .ref mfl, .ref mcr, .ref mst, .ref mtu, .int 1, .int 0, .int 1, .ref mfg, .ref mgr, .ref mme, .null, .int 0])), (mfg, .inr (5, [.int 0, .ref ade, .int 0])), (mgr, .inr (5, [.int 0, .ref ade, .int 0])), (mfl, .inr (5, [.int 0, .ref ade, .int 0])), (mcr, .inr (5, [.int 0, .ref ade, .int 0])), (mme, .inr (5, [.int 0, .ref ade, .int 0]))] H := hP
  have hD : va_D A [(mo_, .inr (25, [.ref ti, .ref mfl, .ref mcr, .ref mst, .ref mtu, .int 1, .int 0, .int 1, .ref mfg, .ref mgr, .ref mme, .null, .int 0])), (mfg, .inr (5, [.int 0, .ref ade, .int 0])), (mgr, .inr (5, [.int 0, .ref ade, .int 0])), (mfl, .inr (5, [.int 0, .ref ade, .int 0])), (mcr, .inr (5, [.int 0, .ref ade, .int 0])), (mme, .inr (5, [.int 0, .ref ade, .int 0]))] := hD
  have hK : va_K G vwCl [] s := hK
  refine W.widen (k := 161) (n := 21206) (Nat.le_of_ble_eq_true rfl) (Nat.le_of_ble_eq_true rfl) ?_
  obtain rfl : r_ = 1 := hw2
  refine lv_istore (lv' := [(6, .int 1), (5, .int 0), (4, .ref ou), (3, .ref oul), (2, .ref mo_), (1, .ref x), (0, .ref b)]) hx hb dL_law_2363 hl (by decide) rfl (fun ls hl => ?_)
  refine lv_aload_n hx hb dL_law_2365 rfl (lv_at hl 4 rfl) ?_
  refine ka_d (va_runV (As := []) (rest := []) ⟨hx, hb, hml, hown, hts⟩ (c_m_meanLateness l G N0 ade adB H.size mo_ ti mfl mcr mst mtu mfg mgr mme 0) (cwV 0 hts (kgV q1142 q1143 q1144 q49 q1145) rfl rfl rfl (by decide +kernel) ⟨(Nat.le_of_ble_eq_true rfl), (Nat.le_of_ble_eq_true rfl)⟩) (kpreV (ci := 25) (q0 := 0) hP hD hK hAN hT hN hS [0, 1, 2, 3, 4, 5] [] (by decide) rfl rfl rfl rfl rfl) rfl rfl hl.1 rfl (lv_room (Nat.le_of_ble_eq_true rfl)) dL_law_2366 ⟨(Nat.le_of_ble_eq_true rfl), (Nat.le_of_ble_eq_true rfl)⟩) (ws := [(mo_, .inr (25, [.ref ti, .ref mfl, .ref mcr, .ref mst, .ref mtu, .int 1, .int 0, .int 1, .ref mfg, .ref mgr, .ref mme, .null, .int 0])), (mfg, .inr (5, [.int 0, .ref ade, .int 0])), (mgr, .inr (5, [.int 0, .ref ade, .int 0])), (mfl, .inr (5, [.int 0, .ref ade, .int 0])), (mcr, .inr (5, [.int 0, .ref ade, .int 0])), (mme, .inr (5, [.int 0, .ref ade, .int 0]))]) (wc := [(mo_, .inr (25, [.ref ti, .ref mfl, .ref mcr, .ref mst, .ref mtu, .int 1, .int 0, .int 1, .ref mfg, .ref mgr, .ref mme, .null, .int 0])), (mfg, .inr (5, [.int 0, .ref ade, .int 0])), (mgr, .inr (5, [.int 0, .ref ade, .int 0])), (mfl, .inr (5, [.int 0, .ref ade, .int 0])), (mcr, .inr (5, [.int 0, .ref ade, .int 0])), (mme, .inr (5, [.int 0, .ref ade, .int 0]))]) (wr := []) hP hD hK hS hA [0, 1, 2, 3, 4, 5] [] [] rfl rfl (by decide) (by decide) rfl (fun r_ u4 H locs hw5 hP hD hK hS => ?_)
  obtain ⟨fs3, rfl⟩ : ∃ z_, z_ = u4 := ⟨_, rfl⟩
  have hP : va_P G vwCl [(mo_, .inr (25, fs3))] H := hP
  have hD : va_D A [(mo_, .inr (25, fs3))] := hD
  have hK : va_K G vwCl [] s := hK
  refine W.widen (k := 30186) (n := 141373) (Nat.le_of_ble_eq_true rfl) (Nat.le_of_ble_eq_true rfl) ?_
  have hf6 : fs3[12]? = some (.int (sp_m_meanLateness)) := hw5
  refine lv_dstore (lv' := [(7, .double r_), (6, .int 1), (5, .int 0), (4, .ref ou), (3, .ref oul), (2, .ref mo_), (1, .ref x), (0, .ref b)]) hx hb dL_law_2369 hl (by decide) rfl (fun ls hl => ?_)
  refine lv_aload_n hx hb dL_law_2371 rfl (lv_at hl 5 rfl) ?_
  refine ka_i (va_runV (As := []) (rest := []) ⟨hx, hb, hml, hown, hts⟩ (c_m_thrown l G N0 ade adB H.size mo_ fs3 (sp_m_meanLateness) hf6) (cwV 0 hts (kgV q748 q749 q750 q49 q751) rfl rfl rfl (by decide +kernel) ⟨(Nat.le_of_ble_eq_true rfl), (Nat.le_of_ble_eq_true rfl)⟩) (kpreV (ci := 25) (q0 := 0) hP hD hK hAN hT hN hS [0] [] (by decide) rfl rfl rfl rfl rfl) rfl rfl hl.1 rfl (lv_room (Nat.le_of_ble_eq_true rfl)) dL_law_2372 ⟨(Nat.le_of_ble_eq_true rfl), (Nat.le_of_ble_eq_true rfl)⟩) (ws := [(mo_, .inr (25, fs3))]) (wc := [(mo_, .inr (25, fs3))]) (wr := []) hP hD hK hS hA [0] [] [] rfl rfl (by decide) (by decide) rfl (fun r_ u7 H locs hw8 hP hD hK hS => ?_)
  have hP : va_P G vwCl [(mo_, .inr (25, fs3))] H := hP
  have hD : va_D A [(mo_, .inr (25, fs3))] := hD
  have hK : va_K G vwCl [] s := hK
  refine W.widen (k := 30186) (n := 141373) (Nat.le_of_ble_eq_true rfl) (Nat.le_of_ble_eq_true rfl) ?_
  obtain rfl : r_ = (sp_m_meanLateness) := hw8
  refine lv_iload hx hb dL_law_2375 (lv_at hl 1 rfl) ?_
  refine lv_icmp_eq (tgt := 2382) hx hb dL_law_2377 (by decide) (fun _ => ?_) (fun h_ => absurd (show (sp_m_meanLateness) = 1 from rfl) h_)
  refine lv_iload hx hb dL_law_2382 (lv_at hl 1 rfl) ?_
  refine lv_if_ne (tgt := 2419) hx hb dL_law_2384 (by decide) (fun _ => ?_) (fun h_ => absurd h_ (by decide))
  refine lv_goto (tgt := 2435) hx hb dL_law_2419 (by decide) ?_
  exact law_tail hl0 hx hb hr hml hown hts hX hbl hlocks hT hAN hA hN hbA hAs hS (Nat.le_of_ble_eq_true rfl) (Nat.le_of_ble_eq_true rfl) (lv_sub hl [2, 7] rfl)

set_option maxHeartbeats 4000000 in
set_option maxRecDepth 100000 in
theorem law_isSound {p : Program} {l : Launch} {e : Env} {s : State} {m : MethodId} {below : List Frame} {meth : Method} {c : Code} {b : Nat} {xs : Nat → Int32} {A : Nat → Prop} (hl0 : l.stackTraces = false) (hx : p.tables.exec = Jvm.exec) (hb : c.code = cL_law) (hr : meth.sig.returnType = ret) (hml : c.maxLocals = 9) (hown : s.vm.findClass RL = some m.cls) (hts : ∀ w ∈ lw_all, w.before #[Value.ref b] s = true) (hX : va_X b 7 xs s s.heap) (hbl : b < s.heap.size) (hlocks : meth.locks = false) {N0 ade : Nat} {adB : Nat → Nat} (hT : BT N0 ade adB s) (hAN : ∀ q, A q → KA N0 q) (hA : ∀ q, s.heap.size ≤ q → A q) (hN : N0 ≤ s.heap.size) (hbA : ¬ A b) (hAs : ∀ q, A q → s.heap.size ≤ q) {G : va_G} {x : Nat} {ag : Nat} {qch : Nat} {qsh : Nat} {qsc : Nat} {dy : Nat} {dc : Nat} {dl : Nat} {dp : Nat} {dcr : Nat} {dj : Nat} {ho : Nat} {idn : Nat} {lg : Nat} {pl : Nat} {qfl : Nat} {qac : Nat} {qcr : Nat} {qfg : Nat} {qgr : Nat} {qme : Nat} {qsf : Nat} {qsb : Nat} {qtu : Nat} {sg : Nat} {aho : ClassId} {fho : Nat → Int32} {zdc : Nat} {zdl : Nat} {zdp : Nat} {zdcr : Nat} {zdj : Nat} {zho : Nat} {zidn : Nat} {zlg : Nat} {zsg : Nat} {zaho : ClassId} {zfho : Nat → Int32} {mo_ : Nat} {ti : Nat} {mfl : Nat} {mcr : Nat} {mst : Nat} {mtu : Nat} {mfg : Nat} {mgr : Nat} {mme : Nat} {ou : Nat} {oud : Nat}  {H : Heap} {locs : List Loc} (hP : va_P G vwCl [(x, .inr (17, [.ref pl, .ref dy, .ref ag, .ref qch, .ref qsh, .ref qsc, .int 0, .int 0])), (dy, .inr (10, [.ref pl, .ref dc, .ref dl, .ref dp, .ref dcr, .ref dj, .ref ho, .ref idn, .ref lg, .int 0, .int 0, .int 0, .int 0, .int 0, .int 0, .int 0, .int 0, .int 0])), (lg, .inr (14, [.ref sg, .int 0])), (pl, .inr (16, [.ref qfl, .ref qac, .ref qcr, .ref qfg, .ref qgr, .ref qme, .ref qsf, .ref qsb, .ref qtu, .int 0, .int 0, .int 0, .int 0, .int 0, .int 0, .int 0, .int 0, .int (-1), .int 1])), (ho, .inl (aho, 6, .inl fho)), (ag, .inr (10, [.ref pl, .ref zdc, .ref zdl, .ref zdp, .ref zdcr, .ref zdj, .ref zho, .ref zidn, .ref zlg, .int 0, .int 0, .int 0, .int 0, .int 0, .int 0, .int 0, .int 0, .int 0])), (zlg, .inr (14, [.ref zsg, .int 0])), (zho, .inl (zaho, 6, .inl zfho)), (mo_, .inr (25, [.ref ti, .ref mfl, .ref mcr, .ref mst, .ref mtu, .int 1, .int 0, .int 1, .ref mfg, .ref mgr, .ref mme, .null, .int 0]))] H) (hD : va_D A [(x, .inr (17, [.ref pl, .ref dy, .ref ag, .ref qch, .ref qsh, .ref qsc, .int 0, .int 0])), (dy, .inr (10, [.ref pl, .ref dc, .ref dl, .ref dp, .ref dcr, .ref dj, .ref ho, .ref idn, .ref lg, .int 0, .int 0, .int 0, .int 0, .int 0, .int 0, .int 0, .int 0, .int 0])), (lg, .inr (14, [.ref sg, .int 0])), (pl, .inr (16, [.ref qfl, .ref qac, .ref qcr, .ref qfg, .ref qgr, .ref qme, .ref qsf, .ref qsb, .ref qtu, .int 0, .int 0, .int 0, .int 0, .int 0, .int 0, .int 0, .int 0, .int (-1), .int 1])), (ho, .inl (aho, 6, .inl fho)), (ag, .inr (10, [.ref pl, .ref zdc, .ref zdl, .ref zdp, .ref zdcr, .ref zdj, .ref zho, .ref zidn, .ref zlg, .int 0, .int 0, .int 0, .int 0, .int 0, .int 0, .int 0, .int 0, .int 0])), (zlg, .inr (14, [.ref zsg, .int 0])), (zho, .inl (zaho, 6, .inl zfho)), (mo_, .inr (25, [.ref ti, .ref mfl, .ref mcr, .ref mst, .ref mtu, .int 1, .int 0, .int 1, .ref mfg, .ref mgr, .ref mme, .null, .int 0]))]) (hK : va_K G vwCl [(aho, .int), (zaho, .int)] s) (hS : va_S A s.heap H locs) {ls : Array Slot} (hl : lv_has ls 9 [(5, .int 0), (4, .ref oud), (3, .ref ou), (2, .ref mo_), (1, .ref x), (0, .ref b)]) : W p l e room_1 s m #[Value.ref b] below meth c H locs 160 21200 (lw_Z below #[Value.ref b] s) (F0 m 2422 ls []) := by
  refine lv_aload_n hx hb dL_law_2422 rfl (lv_at hl 4 rfl) ?_
  refine ka_i (va_runV (As := []) (rest := []) ⟨hx, hb, hml, hown, hts⟩ (c_X11_isSound l G N0 ade adB H.size x ag qch qsh qsc dy dc dl dp dcr dj ho idn lg pl qfl qac qcr qfg qgr qme qsf qsb qtu sg aho fho zdc zdl zdp zdcr zdj zho zidn zlg zsg zaho zfho) (cwV 0 hts (kgV q417 q418 q419 q36 q420) rfl rfl rfl (by decide +kernel) ⟨(Nat.le_of_ble_eq_true rfl), (Nat.le_of_ble_eq_true rfl)⟩) (kpreV (ci := 17) (q0 := 0) hP hD hK hAN hT hN hS [0, 1, 2, 3, 4, 5, 6, 7] [0, 1] (by decide) rfl rfl rfl rfl rfl) rfl rfl hl.1 rfl (lv_room (Nat.le_of_ble_eq_true rfl)) dL_law_2423 ⟨(Nat.le_of_ble_eq_true rfl), (Nat.le_of_ble_eq_true rfl)⟩) (ws := [(x, .inr (17, [.ref pl, .ref dy, .ref ag, .ref qch, .ref qsh, .ref qsc, .int 0, .int 0])), (dy, .inr (10, [.ref pl, .ref dc, .ref dl, .ref dp, .ref dcr, .ref dj, .ref ho, .ref idn, .ref lg, .int 0, .int 0, .int 0, .int 0, .int 0, .int 0, .int 0, .int 0, .int 0])), (lg, .inr (14, [.ref sg, .int 0])), (pl, .inr (16, [.ref qfl, .ref qac, .ref qcr, .ref qfg, .ref qgr, .ref qme, .ref qsf, .ref qsb, .ref qtu, .int 0, .int 0, .int 0, .int 0, .int 0, .int 0, .int 0, .int 0, .int (-1), .int 1])), (ho, .inl (aho, 6, .inl fho)), (ag, .inr (10, [.ref pl, .ref zdc, .ref zdl, .ref zdp, .ref zdcr, .ref zdj, .ref zho, .ref zidn, .ref zlg, .int 0, .int 0, .int 0, .int 0, .int 0, .int 0, .int 0, .int 0, .int 0])), (zlg, .inr (14, [.ref zsg, .int 0])), (zho, .inl (zaho, 6, .inl zfho)), (mo_, .inr (25, [.ref ti, .ref mfl, .ref mcr, .ref mst, .ref mtu, .int 1, .int 0, .int 1, .ref mfg, .ref mgr, .ref mme, .null, .int 0]))]) (wc := [(x, .inr (17, [.ref pl, .ref dy, .ref ag, .ref qch, .ref qsh, .ref qsc, .int 0, .int 0])), (dy, .inr (10, [.ref pl, .ref dc, .ref dl, .ref dp, .ref dcr, .ref dj, .ref ho, .ref idn, .ref lg, .int 0, .int 0, .int 0, .int 0, .int 0, .int 0, .int 0, .int 0, .int 0])), (lg, .inr (14, [.ref sg, .int 0])), (pl, .inr (16, [.ref qfl, .ref qac, .ref qcr, .ref qfg, .ref qgr, .ref qme, .ref qsf, .ref qsb, .ref qtu, .int 0, .int 0, .int 0, .int 0, .int 0, .int 0, .int 0, .int 0, .int (-1), .int 1])), (ho, .inl (aho, 6, .inl fho)), (ag, .inr (10, [.ref pl, .ref zdc, .ref zdl, .ref zdp, .ref zdcr, .ref zdj, .ref zho, .ref zidn, .ref zlg, .int 0, .int 0, .int 0, .int 0, .int 0, .int 0, .int 0, .int 0, .int 0])), (zlg, .inr (14, [.ref zsg, .int 0])), (zho, .inl (zaho, 6, .inl zfho))]) (wr := [(mo_, .inr (25, [.ref ti, .ref mfl, .ref mcr, .ref mst, .ref mtu, .int 1, .int 0, .int 1, .ref mfg, .ref mgr, .ref mme, .null, .int 0]))]) hP hD hK hS hA [0, 1, 2, 3, 4, 5, 6, 7] [8] [] rfl rfl (by decide) (by decide) rfl (fun r_ u1 H locs hw2 hP hD hK hS => ?_)
  have hP : va_P G vwCl [(mo_, .inr (25, [.ref ti, .ref mfl, .ref mcr, .ref mst, .ref mtu, .int 1, .int 0, .int 1, .ref mfg, .ref mgr, .ref mme, .null, .int 0]))] H := hP
  have hD : va_D A [(mo_, .inr (25, [.ref ti, .ref mfl, .ref mcr, .ref mst, .ref mtu, .int 1, .int 0, .int 1, .ref mfg, .ref mgr, .ref mme, .null, .int 0]))] := hD
  have hK : va_K G vwCl [] s := hK
  refine W.widen (k := 160) (n := 21200) (Nat.le_of_ble_eq_true rfl) (Nat.le_of_ble_eq_true rfl) ?_
  obtain rfl : r_ = 1 := hw2
  refine lv_aload_n hx hb dL_law_2426 rfl (lv_at hl 3 rfl) ?_
  refine ka_i (va_runV (As := []) (rest := [.int 1]) ⟨hx, hb, hml, hown, hts⟩ (c_m_isSound l G N0 ade adB H.size mo_ ti mfl mcr mst mtu mfg mgr mme 0) (cwV 0 hts (kgV q1146 q1147 q1148 q49 q1149) rfl rfl rfl (by decide +kernel) ⟨(Nat.le_of_ble_eq_true rfl), (Nat.le_of_ble_eq_true rfl)⟩) (kpreV (ci := 25) (q0 := 0) hP hD hK hAN hT hN hS [0] [] (by decide) rfl rfl rfl rfl rfl) rfl rfl hl.1 rfl (lv_room (Nat.le_of_ble_eq_true rfl)) dL_law_2427 ⟨(Nat.le_of_ble_eq_true rfl), (Nat.le_of_ble_eq_true rfl)⟩) (ws := [(mo_, .inr (25, [.ref ti, .ref mfl, .ref mcr, .ref mst, .ref mtu, .int 1, .int 0, .int 1, .ref mfg, .ref mgr, .ref mme, .null, .int 0]))]) (wc := [(mo_, .inr (25, [.ref ti, .ref mfl, .ref mcr, .ref mst, .ref mtu, .int 1, .int 0, .int 1, .ref mfg, .ref mgr, .ref mme, .null, .int 0]))]) (wr := []) hP hD hK hS hA [0] [] [] rfl rfl (by decide) (by decide) rfl (fun r_ u4 H locs hw5 hP hD hK hS => ?_)
  obtain ⟨fs3, rfl⟩ : ∃ z_, z_ = u4 := ⟨_, rfl⟩
  have hP : va_P G vwCl [(mo_, .inr (25, fs3))] H := hP
  have hD : va_D A [(mo_, .inr (25, fs3))] := hD
  have hK : va_K G vwCl [] s := hK
  refine W.widen (k := 160) (n := 21200) (Nat.le_of_ble_eq_true rfl) (Nat.le_of_ble_eq_true rfl) ?_
  have hf6 : fs3[12]? = some (.int (sp_m_isSound)) := hw5.2
  obtain rfl : r_ = (sv_m_isSound) := hw5.1
  refine lv_icmp_eq (tgt := 2435) hx hb dL_law_2430 (by decide) (fun _ => ?_) (fun h_ => absurd (show (1 : Int32) = (sv_m_isSound) from rfl) h_)
  exact law_tail hl0 hx hb hr hml hown hts hX hbl hlocks hT hAN hA hN hbA hAs hS (Nat.le_of_ble_eq_true rfl) (Nat.le_of_ble_eq_true rfl) (lv_sub hl [0, 5] rfl)
