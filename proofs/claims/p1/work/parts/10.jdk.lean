/-! rows of my own: int[][] and the small integers -/
theorem ka_intA {G : va_G} {tys : List (ClassId × FieldType)} {s : State} {args : Array Value} (hK : va_K G vwCl tys s) (h : (Cond.arrayClass .int).before args s = true) : ∃ cy : ClassId, s.vm.findClass (FieldType.array .int).toString = some cy ∧ ∀ tys', va_K G vwCl tys' s → va_K G vwCl (tys' ++ [(cy, .int)]) s := by
  obtain ⟨cA, kA, comp, h1, h2, h3⟩ := Cond.arrayClass_spec h
  refine ⟨cA, h1, fun tys' hK' => ⟨hK'.1, fun k x hx => ?_⟩⟩
  rcases Nat.lt_or_ge k tys'.length with hk | hk
  · rw [List.getElem?_append_left hk] at hx
    exact hK'.2 k x hx
  · rw [List.getElem?_append_right hk] at hx
    have h0 : k - tys'.length < 1 := (List.getElem?_eq_some_iff.mp hx).1
    rw [show k - tys'.length = 0 by omega] at hx
    cases hx
    exact ⟨fun N z => ⟨(fun k h => by cases h), kA, h2, comp, h3⟩, h1⟩
section KROW2
variable {p : Program} {l : Launch} {e : Env} {R : Room} {s : State} {m : MethodId} {args : Array Value} {below : List Frame} {meth : Method} {c : Code} {H : Heap} {locs : List Loc} {cells slots : Nat} {Q : State → Prop}
variable {cc : ByteArray} {pc : Nat} {ls : Array Slot} {rest : List Value} {G : va_G} {A : Nat → Prop} {a : Nat} {tys : List (ClassId × FieldType)} {ws : va_W} {H0 : Heap}
theorem ka_mna (hx : p.tables.exec = Jvm.exec) (hb : c.code = cc) {own : String} {index : Nat} (hown : s.vm.findClass own = some m.cls) (hclink : (Cond.classLink own index "[[I").before args s = true) (hover : va_AOA .int s) (harr : (Cond.arrayClass .int).before args s = true)
    (hK : va_K G vwCl tys s) (hP : va_P G vwCl ws H) (hD : va_D A ws) (hS : va_S A H0 H locs) (hA : ∀ q, H0.size ≤ q → A q) (hcells : cells + (1 + 4) ≤ R.cells) (hslots : slots + (4 + 4 * 4) ≤ R.slots) (hdg : decode cc pc = .ok (.multianewarray index 2, 4))
    (kk : ∀ (q r0 r1 r2 r3 : Nat) (cA cy : ClassId) (f : Nat → Option Nat) (H1 : Heap), f (Int32.toNatClampNeg 0) = some r0 → f (Int32.toNatClampNeg 1) = some r1 → f (Int32.toNatClampNeg 2) = some r2 → f (Int32.toNatClampNeg 3) = some r3 →
      va_K G vwCl (tys ++ [(cA, .array .int), (cy, .int)]) s →
      va_P G vwCl (ws ++ [(q, .inl (cA, 4, .inr (.inr (.inr (.inr f))))), (r0, .inl (cy, 4, .inl (fun _ => 0))), (r1, .inl (cy, 4, .inl (fun _ => 0))), (r2, .inl (cy, 4, .inl (fun _ => 0))), (r3, .inl (cy, 4, .inl (fun _ => 0)))]) H1 →
      va_D A (ws ++ [(q, .inl (cA, 4, .inr (.inr (.inr (.inr f))))), (r0, .inl (cy, 4, .inl (fun _ => 0))), (r1, .inl (cy, 4, .inl (fun _ => 0))), (r2, .inl (cy, 4, .inl (fun _ => 0))), (r3, .inl (cy, 4, .inl (fun _ => 0)))]) → va_S A H0 H1 locs →
      W p l e R s m args below meth c H1 locs (cells + 5) (slots + 20) Q (F0 m (pc + 4) ls (.ref q :: rest))) : W p l e R s m args below meth c H locs cells slots Q (F0 m pc ls (.int 4 :: .int 4 :: rest)) := by
  obtain ⟨cy, hcy, hK2⟩ := ka_intA hK harr
  refine va_mna (X := ws) (L := []) (f := fun _ => .inr (0, [])) (z := (4, .inl (fun _ => 0))) (ty := .int) hx hb hown hclink hover harr hcy hK (by simpa [va_pl] using hP) (by simpa [va_pl] using hD) hS hA (N' := 4) (K' := 4) (by decide) (by decide) (by decide) (by decide) (by decide) (by decide) (by decide) rfl rfl hcells hslots (fun c => by rw [vp_cell_i]; exact arrV_new c 4 (.int 0)) hdg (fun q r cA H1 _ _ hK1 hP1 hD1 hS1 => ?_)
  have e : (ws ++ [(q, .inl (cA, 4, .inr (.inr (.inr (.inr (fun i => if i < 4 then some (r i) else none))))))]) ++ va_pl ([] ++ (List.range 4).map r) (vr_up (fun _ => .inr (0, [])) ((List.range 4).map r) (.inl (cy, (4, .inl (fun _ => 0))))) = ws ++ [(q, .inl (cA, 4, .inr (.inr (.inr (.inr (fun i => if i < 4 then some (r i) else none)))))), (r 0, .inl (cy, 4, .inl (fun _ => 0))), (r 1, .inl (cy, 4, .inl (fun _ => 0))), (r 2, .inl (cy, 4, .inl (fun _ => 0))), (r 3, .inl (cy, 4, .inl (fun _ => 0)))] := by
    rw [List.append_assoc]
    refine congrArg (fun z => ws ++ z) ?_
    have hr : (List.range 4).map r = [r 0, r 1, r 2, r 3] := rfl
    rw [hr]
    simp [va_pl, vr_up]
  rw [e] at hP1 hD1
  refine W.eq (g2 := F0 m (pc + 4) ls (.ref q :: rest)) rfl (kk q (r 0) (r 1) (r 2) (r 3) cA cy _ H1 rfl rfl rfl rfl (by have := hK2 _ hK1; rwa [List.append_assoc] at this) hP1 hD1 hS1)
theorem ka_aldA (hexec : p.tables.exec = Jvm.exec) (hb : c.code = cc) (hK : va_K G vwCl tys s) (hP : va_P G vwCl ws H) (q0 t0 : Nat) {cA : ClassId} {n : Nat} {f : Nat → Option Nat} (ha : ws[q0]? = some (a, .inl (cA, n, .inr (.inr (.inr (.inr f)))))) (ht : tys[t0]? = some (cA, .array .int)) {i : Int32} (hin : vp_in i n) (hdg : decode cc pc = .ok (.aaload, 1))
    (kk : W p l e R s m args below meth c H locs cells slots Q (F0 m (pc + 1) ls (va_rf (f i.toNatClampNeg) :: rest))) : W p l e R s m args below meth c H locs cells slots Q (F0 m pc ls (.int i :: .ref a :: rest)) := by
  have hlt : i.toNatClampNeg < n := Nat.not_le.mp fun q => hin (Or.inr q)
  exact W.aald (v := va_rf (f i.toNatClampNeg)) (ty := .array .int) hexec hb (hP q0 _ ha) ((hK.2 t0 _ ht).1 n (fun j => va_rf (f j))) rfl (fun q => by cases q) (by show ¬ (i < 0 ∨ (arrV _ _ _).slots.size ≤ _); rw [arrV_size]; exact hin) (by show (arrV _ _ _).slots[_]? = _; rw [arrV_read _ _ hlt]) rfl rfl hdg kk
end KROW2
theorem BT.cc {N0 ade : Nat} {adB : Nat → Nat} {U : State} (h : BT N0 ade adB U) : va_Z RJxabbfe "high" "I" (.int 127) (KA N0) U U.heap ∧ (∃ ca : Nat, va_Z RJxabbfe "cache" "[Ljava/lang/Integer;" (.ref ca) (KA N0) U U.heap ∧ va_T (.object "java/lang/Integer") ca 256 (fun k => .ref (adB k)) (KA N0) U U.heap) ∧ vb_C adB (KA N0) U U.heap := h.2.2.2.2.1
theorem ka_cell {N0 ade : Nat} {adB : Nat → Nat} {s : State} {A : Nat → Prop} {H : Heap} {locs : List Loc} {v : Nat} (h : BT N0 ade adB s) (hAN : ∀ q, A q → KA N0 q) (hS : va_S A s.heap H locs) (hv : ∃ k : Nat, k < 256 ∧ v = adB k) : ∃ cellV : Cell, H[v]? = some cellV ∧ cellV.vm.isStatics = false ∧ s.vm.findClass "java/lang/Integer" = some cellV.cls := by
  obtain ⟨k, hk, rfl⟩ := hv
  obtain ⟨c, h1, h2, h3, -⟩ := (h.cc.2.2.1 k hk).kept (H1 := H) (fun q hq hn => hS.2.1 q hq (fun z => hn (hAN q z)))
  exact ⟨c, h1, h2, h3⟩
theorem ka_cellA {s : State} {G : va_G} {tys : List (ClassId × FieldType)} {ws : va_W} {H : Heap} {a n : Nat} {cy : ClassId} {f : Nat → Int32} (hK : va_K G vwCl tys s) (hP : va_P G vwCl ws H) (q0 t0 : Nat) (he : ws[q0]? = some (a, .inl (cy, n, .inl f))) (ht : tys[t0]? = some (cy, .int)) : ∃ cellV : Cell, H[a]? = some cellV ∧ cellV.vm.isStatics = false ∧ s.vm.findClass "[I" = some cellV.cls := by
  have h : s.vm.findClass ("[" ++ FieldType.int.toString) = some cy := (hK.2 t0 _ ht).2
  rw [show "[" ++ FieldType.int.toString = "[I" from by decide] at h
  exact ⟨_, hP q0 _ he, rfl, h⟩
theorem ka_cellO {s : State} {G : va_G} {tys : List (ClassId × FieldType)} {ws : va_W} {H : Heap} {a ci : Nat} {r : vw_C} {fs : List Value} (hK : va_K G vwCl tys s) (hP : va_P G vwCl ws H) (q0 : Nat) (he : ws[q0]? = some (a, .inr (ci, fs))) (hc : vwCl[ci]? = some r) : ∃ cellV : Cell, H[a]? = some cellV ∧ cellV.vm.isStatics = false ∧ s.vm.findClass r.1 = some cellV.cls := by
  obtain ⟨r', hr', cellV, g1, g2, g3, -⟩ := hP q0 _ he
  exact ⟨cellV, g1, by rw [g3]; rfl, by rw [g2]; exact (hK.1 ci r hc).2.1⟩
def inl (x a b : Int64) : Int32 := if lg_cmp x a < 0 then 0 else if lg_cmp x b > 0 then 0 else 1
theorem inl_neg {x : Int64} (h : ¬ lg_cmp x 0 < 0) : lg_cmp x (-1) > 0 := by
  refine (lg_cmp_gt x (-1)).mpr ?_
  have h1 : ¬ x < 0 := fun q => h ((lg_cmp_lt x 0).mpr q)
  rw [Int64.lt_iff_toInt_lt] at h1 ⊢
  have e0 : (0 : Int64).toInt = 0 := by decide
  have e1 : (-1 : Int64).toInt = -1 := by decide
  omega
theorem ka_icy {x : Int32} (h : ¬ x < 1) : x > 0 := by
  have h' : ¬ x.toInt < 1 := fun q => h (Int32.lt_iff_toInt_lt.mpr (by rw [show (1 : Int32).toInt = 1 from by decide]; exact q))
  exact Int32.lt_iff_toInt_lt.mpr (by rw [show (0 : Int32).toInt = 0 from by decide]; omega)
theorem ka_vi1 {x : Int32} (h0 : ¬ x < 0) : ¬ x < -128 := by
  rw [Int32.lt_iff_toInt_lt] at h0 ⊢
  have e0 : (0 : Int32).toInt = 0 := by decide
  have e1 : (-128 : Int32).toInt = -128 := by decide
  omega
theorem ka_vi2 {x : Int32} (h0 : ¬ x < 0) (h1 : ¬ x > 127) : vp_in (x + 128) 256 ∧ Int32.toNatClampNeg (x + 128) < 256 := by
  obtain ⟨j, hj, rfl⟩ := nI_of2 (n := 127) (M := 127) (by decide) h0 (Int32.not_lt.mp h1)
  rw [show (128 : Int32) = nI 128 from by decide, nI_add]
  exact ⟨vp_in_nI (by omega) (by decide), by rw [nI_clamp (by omega)]; omega⟩
theorem ka_inl4 {x : Int32} (h : ¬ inl x.toInt64 0 3 = 0) : x = 0 ∨ x = 1 ∨ x = 2 ∨ x = 3 := by
  unfold inl at h
  split at h
  · exact absurd rfl h
  split at h
  · exact absurd rfl h
  rename_i h1 h2
  have h3 : ¬ x.toInt64 < 0 := fun q => h1 ((lg_cmp_lt _ _).mpr q)
  have h4 : ¬ (3 : Int64) < x.toInt64 := fun q => h2 ((lg_cmp_gt _ _).mpr q)
  rw [Int64.lt_iff_toInt_lt, Int32.toInt_toInt64] at h3 h4
  have e0 : (0 : Int64).toInt = 0 := by decide
  have e3 : (3 : Int64).toInt = 3 := by decide
  have hx : x.toInt = 0 ∨ x.toInt = 1 ∨ x.toInt = 2 ∨ x.toInt = 3 := by omega
  rcases hx with h | h | h | h
  · exact Or.inl (Int32.toInt_inj.mp (h.trans (by decide)))
  · exact Or.inr (Or.inl (Int32.toInt_inj.mp (h.trans (by decide))))
  · exact Or.inr (Or.inr (Or.inl (Int32.toInt_inj.mp (h.trans (by decide)))))
  · exact Or.inr (Or.inr (Or.inr (Int32.toInt_inj.mp (h.trans (by decide)))))
theorem ka_inl0 {x : Int32} (h : ¬ inl x.toInt64 0 0 = 0) : x = 0 := by
  unfold inl at h
  split at h
  · exact absurd rfl h
  split at h
  · exact absurd rfl h
  rename_i h1 h2
  have h3 : ¬ x.toInt64 < 0 := fun q => h1 ((lg_cmp_lt _ _).mpr q)
  have h4 : ¬ (0 : Int64) < x.toInt64 := fun q => h2 ((lg_cmp_gt _ _).mpr q)
  rw [Int64.lt_iff_toInt_lt, Int32.toInt_toInt64] at h3 h4
  have e0 : (0 : Int64).toInt = 0 := by decide
  exact Int32.toInt_inj.mp ((show x.toInt = 0 by omega).trans (by decide))
theorem ka_inlpos {x : Int32} {b : Int64} (h : ¬ inl x.toInt64 0 b = 0) : ¬ x < 0 := by
  unfold inl at h
  split at h
  · exact absurd rfl h
  rename_i h1
  intro q
  refine h1 ((lg_cmp_lt _ _).mpr ?_)
  rw [Int64.lt_iff_toInt_lt, Int32.toInt_toInt64]
  have := Int32.lt_iff_toInt_lt.mp q
  have e0 : (0 : Int64).toInt = 0 := by decide
  have e1 : (0 : Int32).toInt = 0 := by decide
  omega

set_option maxHeartbeats 4000000 in
set_option maxRecDepth 100000 in
theorem c_Number_init (l : Launch) (G : va_G) (N0 ade : Nat) (adB : Nat → Nat) (sz : Nat) (q0 : Nat) : Met l yJxd2413_init_da8c8 (Cond.code yJxd2413_init_da8c8 cJxd2413_init_da8c8 1 none :: lw_all) ({ frames := 1, cells := 0, slots := 0, locals := 12 }) (va_Pc [.ref q0] (KPre N0 ade adB G [] [] sz)) (va_Qv (fun (u : Unit) => True) (KB G (fun (u : Unit) => []) (fun (u : Unit) => []) (va_A [] sz)) (va_A [] sz)) 0 0 (va_A [] sz) := by
  refine K_ofW (Qc := fun A => va_Qv (fun (u : Unit) => True) (KB G (fun (u : Unit) => []) (fun (u : Unit) => []) A) A) (by decide) (Nat.le_of_ble_eq_true rfl) rfl (fun p e s m args below meth c hx hb hr hml hown hlocks hin hts A hAN hA H hH hP hD hK hT hN hS ls hl => ?_)
  have hin : meth.name = "<init>" := hin
  have hl : lv_has ls 1 [(0, .ref q0)] := hl
  refine lv_aload_n hx hb dJxd2413_init_da8c8_0 rfl (lv_at hl 0 rfl) ?_
  refine W.objInit hx hb hown (hts _ q849) (hts _ q91) (hts _ q92) rfl (by rw [hml]; exact hl.1) rfl dJxd2413_init_da8c8_1 (Nat.le_of_ble_eq_true rfl) (Nat.le_of_ble_eq_true rfl) ?_
  refine W.eq (g2 := F0 m 4 ls []) rfl ?_
  exact ke_v hx hb hr hlocks () (trivial) hP hD hK [] [] (by decide) rfl rfl hS (Nat.le_of_ble_eq_true rfl) (Nat.le_of_ble_eq_true rfl) dJxd2413_init_da8c8_4

set_option maxHeartbeats 4000000 in
set_option maxRecDepth 100000 in
theorem c_Integer_init (l : Launch) (G : va_G) (N0 ade : Nat) (adB : Nat → Nat) (sz : Nat) (q0 : Nat) (i : Int32) : Met l yJ6_init_d00df (Cond.code yJ6_init_d00df cJ6_init_d00df 2 none :: lw_all) ({ frames := 2, cells := 0, slots := 0, locals := 32 }) (va_Pc [.ref q0, .int i] (KPre N0 ade adB G [] [(q0, .inr (2, [.int 0]))] sz)) (va_Qv (fun (u : Unit) => True) (KB G (fun (u : Unit) => [(q0, .inr (2, [.int i]))]) (fun (u : Unit) => []) (va_A [(q0, .inr (2, [.int 0]))] sz)) (va_A [(q0, .inr (2, [.int 0]))] sz)) 0 0 (va_A [(q0, .inr (2, [.int 0]))] sz) := by
  refine K_ofW (Qc := fun A => va_Qv (fun (u : Unit) => True) (KB G (fun (u : Unit) => [(q0, .inr (2, [.int i]))]) (fun (u : Unit) => []) A) A) (by decide) (Nat.le_of_ble_eq_true rfl) rfl (fun p e s m args below meth c hx hb hr hml hown hlocks hin hts A hAN hA H hH hP hD hK hT hN hS ls hl => ?_)
  have hin : meth.name = "<init>" := hin
  have hl : lv_has ls 2 [(0, .ref q0), (1, .int i)] := hl
  refine lv_aload_n hx hb dJ6_init_d00df_0 rfl (lv_at hl 0 rfl) ?_
  refine ka_v (va_runI (As := []) (rest := []) ⟨hx, hb, hml, hown, hts⟩ (c_Number_init l G N0 ade adB H.size q0) (cwI 0 hts (kgC q848) rfl rfl rfl (hts _ q68) (hts _ q846) (hts _ q847) rfl (by decide +kernel) ⟨(Nat.le_of_ble_eq_true rfl), (Nat.le_of_ble_eq_true rfl)⟩) (kpreS hP hD hK hAN hT hN hS [] [] (by decide) rfl rfl) rfl rfl hl.1 rfl (lv_room (Nat.le_of_ble_eq_true rfl)) dJ6_init_d00df_1 ⟨(Nat.le_of_ble_eq_true rfl), (Nat.le_of_ble_eq_true rfl)⟩) (ws := [(q0, .inr (2, [.int 0]))]) (wc := []) (wr := [(q0, .inr (2, [.int 0]))]) hP hD hK hS hA [] [0] [] rfl rfl (by decide) (by decide) rfl (fun u1 H locs hw2 hP hD hK hS => ?_)
  have hP : va_P G vwCl [(q0, .inr (2, [.int 0]))] H := hP
  have hD : va_D A [(q0, .inr (2, [.int 0]))] := hD
  have hK : va_K G vwCl [] s := hK
  refine W.widen (k := 0) (n := 0) (Nat.le_of_ble_eq_true rfl) (Nat.le_of_ble_eq_true rfl) ?_
  refine lv_aload_n hx hb dJ6_init_d00df_4 rfl (lv_at hl 0 rfl) ?_
  refine lv_iload_n hx hb dJ6_init_d00df_5 rfl (lv_at hl 1 rfl) ?_
  refine va_putF (D := G) (ci := 2) (v := .int i) (ty := .int) (C := RJ6) (T := TJ6) (N := 1) hx hb hts inJ6 tyJ6 tyJ6_ok nmJ6 hown hK hP hD hS 0 rfl rfl 0 (by decide) (hts _ q850) (fun _ h_ => h_) rfl hin rfl (by decide +kernel) rfl rfl (Nat.le_of_ble_eq_true rfl) dJ6_init_d00df_6 (fun H locs hP hD hS => ?_)
  have hP : va_P G vwCl [(q0, .inr (2, [.int i]))] H := hP
  have hD : va_D A [(q0, .inr (2, [.int i]))] := hD
  exact ke_v hx hb hr hlocks () (trivial) hP hD hK [0] [] (by decide) rfl rfl hS (Nat.le_of_ble_eq_true rfl) (Nat.le_of_ble_eq_true rfl) dJ6_init_d00df_9

set_option maxHeartbeats 4000000 in
set_option maxRecDepth 100000 in
theorem c_AbstractCollection_init (l : Launch) (G : va_G) (N0 ade : Nat) (adB : Nat → Nat) (sz : Nat) (q0 : Nat) : Met l yJxa1e45_init_da8c8 (Cond.code yJxa1e45_init_da8c8 cJxa1e45_init_da8c8 1 none :: lw_all) ({ frames := 1, cells := 0, slots := 0, locals := 12 }) (va_Pc [.ref q0] (KPre N0 ade adB G [] [] sz)) (va_Qv (fun (u : Unit) => True) (KB G (fun (u : Unit) => []) (fun (u : Unit) => []) (va_A [] sz)) (va_A [] sz)) 0 0 (va_A [] sz) := by
  refine K_ofW (Qc := fun A => va_Qv (fun (u : Unit) => True) (KB G (fun (u : Unit) => []) (fun (u : Unit) => []) A) A) (by decide) (Nat.le_of_ble_eq_true rfl) rfl (fun p e s m args below meth c hx hb hr hml hown hlocks hin hts A hAN hA H hH hP hD hK hT hN hS ls hl => ?_)
  have hin : meth.name = "<init>" := hin
  have hl : lv_has ls 1 [(0, .ref q0)] := hl
  refine lv_aload_n hx hb dJxa1e45_init_da8c8_0 rfl (lv_at hl 0 rfl) ?_
  refine W.objInit hx hb hown (hts _ q727) (hts _ q91) (hts _ q92) rfl (by rw [hml]; exact hl.1) rfl dJxa1e45_init_da8c8_1 (Nat.le_of_ble_eq_true rfl) (Nat.le_of_ble_eq_true rfl) ?_
  refine W.eq (g2 := F0 m 4 ls []) rfl ?_
  exact ke_v hx hb hr hlocks () (trivial) hP hD hK [] [] (by decide) rfl rfl hS (Nat.le_of_ble_eq_true rfl) (Nat.le_of_ble_eq_true rfl) dJxa1e45_init_da8c8_4

set_option maxHeartbeats 4000000 in
set_option maxRecDepth 100000 in
theorem c_AbstractList_init (l : Launch) (G : va_G) (N0 ade : Nat) (adB : Nat → Nat) (sz : Nat) (q0 : Nat) : Met l yJxc12de_init_da8c8 (Cond.code yJxc12de_init_da8c8 cJxc12de_init_da8c8 1 none :: lw_all) ({ frames := 2, cells := 0, slots := 0, locals := 32 }) (va_Pc [.ref q0] (KPre N0 ade adB G [] [(q0, .inr (5, [.int 0, .null, .int 0]))] sz)) (va_Qv (fun (u : Unit) => True) (KB G (fun (u : Unit) => [(q0, .inr (5, [.int 0, .null, .int 0]))]) (fun (u : Unit) => []) (va_A [(q0, .inr (5, [.int 0, .null, .int 0]))] sz)) (va_A [(q0, .inr (5, [.int 0, .null, .int 0]))] sz)) 0 0 (va_A [(q0, .inr (5, [.int 0, .null, .int 0]))] sz) := by
  refine K_ofW (Qc := fun A => va_Qv (fun (u : Unit) => True) (KB G (fun (u : Unit) => [(q0, .inr (5, [.int 0, .null, .int 0]))]) (fun (u : Unit) => []) A) A) (by decide) (Nat.le_of_ble_eq_true rfl) rfl (fun p e s m args below meth c hx hb hr hml hown hlocks hin hts A hAN hA H hH hP hD hK hT hN hS ls hl => ?_)
  have hin : meth.name = "<init>" := hin
  have hl : lv_has ls 1 [(0, .ref q0)] := hl
  refine lv_aload_n hx hb dJxc12de_init_da8c8_0 rfl (lv_at hl 0 rfl) ?_
  refine ka_v (va_runI (As := []) (rest := []) ⟨hx, hb, hml, hown, hts⟩ (c_AbstractCollection_init l G N0 ade adB H.size q0) (cwI 0 hts (kgC q726) rfl rfl rfl (hts _ q50) (hts _ q724) (hts _ q725) rfl (by decide +kernel) ⟨(Nat.le_of_ble_eq_true rfl), (Nat.le_of_ble_eq_true rfl)⟩) (kpreS hP hD hK hAN hT hN hS [] [] (by decide) rfl rfl) rfl rfl hl.1 rfl (lv_room (Nat.le_of_ble_eq_true rfl)) dJxc12de_init_da8c8_1 ⟨(Nat.le_of_ble_eq_true rfl), (Nat.le_of_ble_eq_true rfl)⟩) (ws := [(q0, .inr (5, [.int 0, .null, .int 0]))]) (wc := []) (wr := [(q0, .inr (5, [.int 0, .null, .int 0]))]) hP hD hK hS hA [] [0] [] rfl rfl (by decide) (by decide) rfl (fun u1 H locs hw2 hP hD hK hS => ?_)
  have hP : va_P G vwCl [(q0, .inr (5, [.int 0, .null, .int 0]))] H := hP
  have hD : va_D A [(q0, .inr (5, [.int 0, .null, .int 0]))] := hD
  have hK : va_K G vwCl [] s := hK
  refine W.widen (k := 0) (n := 0) (Nat.le_of_ble_eq_true rfl) (Nat.le_of_ble_eq_true rfl) ?_
  refine lv_aload_n hx hb dJxc12de_init_da8c8_4 rfl (lv_at hl 0 rfl) ?_
  refine lv_iconst (v := 0) hx hb dJxc12de_init_da8c8_5 (by decide) ?_
  refine va_put (D := G) (ci := 5) (v := .int 0) (ty := .int) (C := RJx4a65c) (T := TJx4a65c) (N := 3) hx hb hts inJx4a65c tyJx4a65c tyJx4a65c_ok nmJx4a65c hown hK hP hD hS 0 rfl rfl 0 (by decide) (hts _ q731) (fun _ h_ => h_) rfl (by decide +kernel) rfl rfl (Nat.le_of_ble_eq_true rfl) dJxc12de_init_da8c8_6 (fun H locs hP hD hS => ?_)
  have hP : va_P G vwCl [(q0, .inr (5, [.int 0, .null, .int 0]))] H := hP
  have hD : va_D A [(q0, .inr (5, [.int 0, .null, .int 0]))] := hD
  exact ke_v hx hb hr hlocks () (trivial) hP hD hK [0] [] (by decide) rfl rfl hS (Nat.le_of_ble_eq_true rfl) (Nat.le_of_ble_eq_true rfl) dJxc12de_init_da8c8_9

set_option maxHeartbeats 4000000 in
set_option maxRecDepth 100000 in
theorem c_ArrayList_init (l : Launch) (G : va_G) (N0 ade : Nat) (adB : Nat → Nat) (sz : Nat) (q0 : Nat) : Met l yJx4a65c_init_da8c8 (Cond.code yJx4a65c_init_da8c8 cJx4a65c_init_da8c8 1 none :: lw_all) ({ frames := 3, cells := 0, slots := 0, locals := 52 }) (va_Pc [.ref q0] (KPre N0 ade adB G [] [(q0, .inr (5, [.int 0, .null, .int 0]))] sz)) (va_Qv (fun (u : Unit) => True) (KB G (fun (u : Unit) => [(q0, .inr (5, [.int 0, .ref ade, .int 0]))]) (fun (u : Unit) => []) (va_A [(q0, .inr (5, [.int 0, .null, .int 0]))] sz)) (va_A [(q0, .inr (5, [.int 0, .null, .int 0]))] sz)) 0 0 (va_A [(q0, .inr (5, [.int 0, .null, .int 0]))] sz) := by
  refine K_ofW (Qc := fun A => va_Qv (fun (u : Unit) => True) (KB G (fun (u : Unit) => [(q0, .inr (5, [.int 0, .ref ade, .int 0]))]) (fun (u : Unit) => []) A) A) (by decide) (Nat.le_of_ble_eq_true rfl) rfl (fun p e s m args below meth c hx hb hr hml hown hlocks hin hts A hAN hA H hH hP hD hK hT hN hS ls hl => ?_)
  have hin : meth.name = "<init>" := hin
  have hl : lv_has ls 1 [(0, .ref q0)] := hl
  refine lv_aload_n hx hb dJx4a65c_init_da8c8_0 rfl (lv_at hl 0 rfl) ?_
  refine ka_v (va_runI (As := []) (rest := []) ⟨hx, hb, hml, hown, hts⟩ (c_AbstractList_init l G N0 ade adB H.size q0) (cwI 0 hts (kgC q723) rfl rfl rfl (hts _ q51) (hts _ q721) (hts _ q722) rfl (by decide +kernel) ⟨(Nat.le_of_ble_eq_true rfl), (Nat.le_of_ble_eq_true rfl)⟩) (kpreS hP hD hK hAN hT hN hS [0] [] (by decide) rfl rfl) rfl rfl hl.1 rfl (lv_room (Nat.le_of_ble_eq_true rfl)) dJx4a65c_init_da8c8_1 ⟨(Nat.le_of_ble_eq_true rfl), (Nat.le_of_ble_eq_true rfl)⟩) (ws := [(q0, .inr (5, [.int 0, .null, .int 0]))]) (wc := [(q0, .inr (5, [.int 0, .null, .int 0]))]) (wr := []) hP hD hK hS hA [0] [] [] rfl rfl (by decide) (by decide) rfl (fun u1 H locs hw2 hP hD hK hS => ?_)
  have hP : va_P G vwCl [(q0, .inr (5, [.int 0, .null, .int 0]))] H := hP
  have hD : va_D A [(q0, .inr (5, [.int 0, .null, .int 0]))] := hD
  have hK : va_K G vwCl [] s := hK
  refine W.widen (k := 0) (n := 0) (Nat.le_of_ble_eq_true rfl) (Nat.le_of_ble_eq_true rfl) ?_
  refine lv_aload_n hx hb dJx4a65c_init_da8c8_4 rfl (lv_at hl 0 rfl) ?_
  refine va_gets hx hb (va_Z.narrow hT.2.2.1.1 hAN) hS hown (hts _ q728) (fun _ h_ => h_) dJx4a65c_init_da8c8_5 ?_
  refine va_put (D := G) (ci := 5) (v := .ref ade) (ty := (.array (.object "java/lang/Object"))) (C := RJx4a65c) (T := TJx4a65c) (N := 3) hx hb hts inJx4a65c tyJx4a65c tyJx4a65c_ok nmJx4a65c hown hK hP hD hS 0 rfl rfl 1 (by decide) (hts _ q729) (fun _ h_ => h_) rfl (by decide +kernel) rfl rfl (Nat.le_of_ble_eq_true rfl) dJx4a65c_init_da8c8_8 (fun H locs hP hD hS => ?_)
  have hP : va_P G vwCl [(q0, .inr (5, [.int 0, .ref ade, .int 0]))] H := hP
  have hD : va_D A [(q0, .inr (5, [.int 0, .ref ade, .int 0]))] := hD
  exact ke_v hx hb hr hlocks () (trivial) hP hD hK [0] [] (by decide) rfl rfl hS (Nat.le_of_ble_eq_true rfl) (Nat.le_of_ble_eq_true rfl) dJx4a65c_init_da8c8_11

set_option maxHeartbeats 4000000 in
set_option maxRecDepth 100000 in
theorem c_ASB_init (l : Launch) (G : va_G) (N0 ade : Nat) (adB : Nat → Nat) (sz : Nat) (q0 : Nat) : Met l yJ5_init_d00df (Cond.code yJ5_init_d00df cJ5_init_d00df 2 none :: lw_all) ({ frames := 1, cells := 1, slots := 16, locals := 12 }) (va_Pc [.ref q0, .int 16] (KPre N0 ade adB G [] [(q0, .inr (1, [.null, .int 0, .int 0, .int 0]))] sz)) (va_Qv (fun (u : Nat) => True) (KB G (fun (u : Nat) => [(q0, .inr (1, [.ref u, .int 0, .int 0, .int 0]))]) (fun (u : Nat) => []) (va_A [(q0, .inr (1, [.null, .int 0, .int 0, .int 0]))] sz)) (va_A [(q0, .inr (1, [.null, .int 0, .int 0, .int 0]))] sz)) 1 16 (va_A [(q0, .inr (1, [.null, .int 0, .int 0, .int 0]))] sz) := by
  refine K_ofW (Qc := fun A => va_Qv (fun (u : Nat) => True) (KB G (fun (u : Nat) => [(q0, .inr (1, [.ref u, .int 0, .int 0, .int 0]))]) (fun (u : Nat) => []) A) A) (by decide) (Nat.le_of_ble_eq_true rfl) rfl (fun p e s m args below meth c hx hb hr hml hown hlocks hin hts A hAN hA H hH hP hD hK hT hN hS ls hl => ?_)
  have hin : meth.name = "<init>" := hin
  have hl : lv_has ls 2 [(0, .ref q0), (1, .int 16)] := hl
  refine lv_aload_n hx hb dJ5_init_d00df_0 rfl (lv_at hl 0 rfl) ?_
  refine W.objInit hx hb hown (hts _ q950) (hts _ q91) (hts _ q92) rfl (by rw [hml]; exact hl.1) rfl dJ5_init_d00df_1 (Nat.le_of_ble_eq_true rfl) (Nat.le_of_ble_eq_true rfl) ?_
  refine W.eq (g2 := F0 m 4 ls []) rfl ?_
  refine va_gets hx hb (va_Z.narrow hT.2.2.2.1 hAN) hS hown (hts _ q951) (fun _ h_ => h_) dJ5_init_d00df_4 ?_
  refine lv_if_eq (tgt := 25) hx hb dJ5_init_d00df_7 (by decide) (fun h_ => absurd h_ (by decide)) (fun _ => ?_)
  refine lv_aload_n hx hb dJ5_init_d00df_10 rfl (lv_at hl 0 rfl) ?_
  refine lv_iload_n hx hb dJ5_init_d00df_11 rfl (lv_at hl 1 rfl) ?_
  refine va_newa (atype := .byte) (ty := .byte) (a0 := (16, .inl (fun _ => 0))) (N' := 16) hx hb (hts _ q438) rfl hK hP hD hS hA (fun cA_ => vp_cell_i cA_ 16 (fun _ => 0)) (by decide) (by decide) (Nat.le_of_ble_eq_true rfl) (Nat.le_of_ble_eq_true rfl) (Nat.le_of_ble_eq_true rfl) dJ5_init_d00df_12 (fun o_1 a2 H hK hP hD hS => ?_)
  have hP : va_P G vwCl [(q0, .inr (1, [.null, .int 0, .int 0, .int 0])), (o_1, .inl (a2, 16, .inl (fun _ => 0)))] H := hP
  have hD : va_D A [(q0, .inr (1, [.null, .int 0, .int 0, .int 0])), (o_1, .inl (a2, 16, .inl (fun _ => 0)))] := hD
  have hK : va_K G vwCl [(a2, .byte)] s := hK
  refine W.widen (k := 1) (n := 16) (Nat.le_of_ble_eq_true rfl) (Nat.le_of_ble_eq_true rfl) ?_
  refine va_put (D := G) (ci := 1) (v := .ref o_1) (ty := (.array .byte)) (C := RJ4) (T := TJ4) (N := 4) hx hb hts inJ4 tyJ4 tyJ4_ok nmJ4 hown hK hP hD hS 0 rfl rfl 0 (by decide) (hts _ q953) (fun _ h_ => h_) rfl (by decide +kernel) rfl rfl (Nat.le_of_ble_eq_true rfl) dJ5_init_d00df_14 (fun H locs hP hD hS => ?_)
  have hP : va_P G vwCl [(q0, .inr (1, [.ref o_1, .int 0, .int 0, .int 0])), (o_1, .inl (a2, 16, .inl (fun _ => 0)))] H := hP
  have hD : va_D A [(q0, .inr (1, [.ref o_1, .int 0, .int 0, .int 0])), (o_1, .inl (a2, 16, .inl (fun _ => 0)))] := hD
  refine lv_aload_n hx hb dJ5_init_d00df_17 rfl (lv_at hl 0 rfl) ?_
  refine lv_iconst (v := 0) hx hb dJ5_init_d00df_18 (by decide) ?_
  refine va_put (D := G) (ci := 1) (v := .int 0) (ty := .byte) (C := RJ4) (T := TJ4) (N := 4) hx hb hts inJ4 tyJ4 tyJ4_ok nmJ4 hown hK hP hD hS 0 rfl rfl 1 (by decide) (hts _ q954) (fun _ h_ => h_) rfl (by decide +kernel) (by decide +kernel) rfl (Nat.le_of_ble_eq_true rfl) dJ5_init_d00df_19 (fun H locs hP hD hS => ?_)
  have hP : va_P G vwCl [(q0, .inr (1, [.ref o_1, .int 0, .int 0, .int 0])), (o_1, .inl (a2, 16, .inl (fun _ => 0)))] H := hP
  have hD : va_D A [(q0, .inr (1, [.ref o_1, .int 0, .int 0, .int 0])), (o_1, .inl (a2, 16, .inl (fun _ => 0)))] := hD
  refine lv_goto (tgt := 38) hx hb dJ5_init_d00df_22 (by decide) ?_
  exact ke_v hx hb hr hlocks o_1 (trivial) hP hD hK [0] [] (by decide) rfl rfl hS (Nat.le_of_ble_eq_true rfl) (Nat.le_of_ble_eq_true rfl) dJ5_init_d00df_38

set_option maxHeartbeats 4000000 in
set_option maxRecDepth 100000 in
theorem c_SB_init (l : Launch) (G : va_G) (N0 ade : Nat) (adB : Nat → Nat) (sz : Nat) (q0 : Nat) : Met l yJ4_init_da8c8 (Cond.code yJ4_init_da8c8 cJ4_init_da8c8 1 none :: lw_all) ({ frames := 2, cells := 1, slots := 16, locals := 33 }) (va_Pc [.ref q0] (KPre N0 ade adB G [] [(q0, .inr (1, [.null, .int 0, .int 0, .int 0]))] sz)) (va_Qv (fun (u : Nat) => True) (KB G (fun (u : Nat) => [(q0, .inr (1, [.ref u, .int 0, .int 0, .int 0]))]) (fun (u : Nat) => []) (va_A [(q0, .inr (1, [.null, .int 0, .int 0, .int 0]))] sz)) (va_A [(q0, .inr (1, [.null, .int 0, .int 0, .int 0]))] sz)) 1 16 (va_A [(q0, .inr (1, [.null, .int 0, .int 0, .int 0]))] sz) := by
  refine K_ofW (Qc := fun A => va_Qv (fun (u : Nat) => True) (KB G (fun (u : Nat) => [(q0, .inr (1, [.ref u, .int 0, .int 0, .int 0]))]) (fun (u : Nat) => []) A) A) (by decide) (Nat.le_of_ble_eq_true rfl) rfl (fun p e s m args below meth c hx hb hr hml hown hlocks hin hts A hAN hA H hH hP hD hK hT hN hS ls hl => ?_)
  have hin : meth.name = "<init>" := hin
  have hl : lv_has ls 1 [(0, .ref q0)] := hl
  refine lv_aload_n hx hb dJ4_init_da8c8_0 rfl (lv_at hl 0 rfl) ?_
  refine lv_bipush (v := 16) hx hb dJ4_init_da8c8_1 (by decide) ?_
  refine ka_v (va_runI (As := [.int 16]) (rest := []) ⟨hx, hb, hml, hown, hts⟩ (c_ASB_init l G N0 ade adB H.size q0) (cwI 1 hts (kgC q949) rfl rfl rfl (hts _ q77) (hts _ q947) (hts _ q948) rfl (by decide +kernel) ⟨(Nat.le_of_ble_eq_true rfl), (Nat.le_of_ble_eq_true rfl)⟩) (kpreS hP hD hK hAN hT hN hS [0] [] (by decide) rfl rfl) rfl rfl hl.1 rfl (lv_room (Nat.le_of_ble_eq_true rfl)) dJ4_init_da8c8_3 ⟨(Nat.le_of_ble_eq_true rfl), (Nat.le_of_ble_eq_true rfl)⟩) (ws := [(q0, .inr (1, [.null, .int 0, .int 0, .int 0]))]) (wc := [(q0, .inr (1, [.null, .int 0, .int 0, .int 0]))]) (wr := []) hP hD hK hS hA [0] [] [] rfl rfl (by decide) (by decide) rfl (fun u2 H locs hw3 hP hD hK hS => ?_)
  obtain ⟨o_1, rfl⟩ : ∃ z_, z_ = u2 := ⟨_, rfl⟩
  have hP : va_P G vwCl [(q0, .inr (1, [.ref o_1, .int 0, .int 0, .int 0]))] H := hP
  have hD : va_D A [(q0, .inr (1, [.ref o_1, .int 0, .int 0, .int 0]))] := hD
  have hK : va_K G vwCl [] s := hK
  refine W.widen (k := 1) (n := 16) (Nat.le_of_ble_eq_true rfl) (Nat.le_of_ble_eq_true rfl) ?_
  exact ke_v hx hb hr hlocks o_1 (trivial) hP hD hK [0] [] (by decide) rfl rfl hS (Nat.le_of_ble_eq_true rfl) (Nat.le_of_ble_eq_true rfl) dJ4_init_da8c8_6

set_option maxHeartbeats 4000000 in
set_option maxRecDepth 100000 in
theorem c_ASB_length (l : Launch) (G : va_G) (N0 ade : Nat) (adB : Nat → Nat) (sz : Nat) (sb : Nat) (sv : Nat) : Met l yJ5_length_8abf5 (Cond.code yJ5_length_8abf5 cJ5_length_8abf5 1 (some FieldType.int) :: lw_all) ({ frames := 0, cells := 0, slots := 0, locals := 0 }) (va_Pc [.ref sb] (KPre N0 ade adB G [] [(sb, .inr (1, [.ref sv, .int 0, .int 0, .int 0]))] sz)) (va_Qi (fun (r : Int32) (u : Unit) => r = 0) (KB G (fun (u : Unit) => [(sb, .inr (1, [.ref sv, .int 0, .int 0, .int 0]))]) (fun (u : Unit) => []) (va_A [(sb, .inr (1, [.ref sv, .int 0, .int 0, .int 0]))] sz)) (va_A [(sb, .inr (1, [.ref sv, .int 0, .int 0, .int 0]))] sz)) 0 0 (va_A [(sb, .inr (1, [.ref sv, .int 0, .int 0, .int 0]))] sz) := by
  refine K_ofW (Qc := fun A => va_Qi (fun (r : Int32) (u : Unit) => r = 0) (KB G (fun (u : Unit) => [(sb, .inr (1, [.ref sv, .int 0, .int 0, .int 0]))]) (fun (u : Unit) => []) A) A) (by decide) (Nat.le_of_ble_eq_true rfl) rfl (fun p e s m args below meth c hx hb hr hml hown hlocks hin hts A hAN hA H hH hP hD hK hT hN hS ls hl => ?_)
  have hl : lv_has ls 1 [(0, .ref sb)] := hl
  refine lv_aload_n hx hb dJ5_length_8abf5_0 rfl (lv_at hl 0 rfl) ?_
  refine va_get (D := G) (ci := 1) (v := .int 0) (C := RJ4) (T := TJ4) (N := 4) hx hb hts inJ4 hown hK hP 0 rfl rfl 3 (by decide) (hts _ q955) (fun _ h_ => h_) rfl dJ5_length_8abf5_1 ?_
  exact ke_i (v := 0) hx hb hr hlocks rfl () (rfl) hP hD hK [0] [] (by decide) rfl rfl hS (Nat.le_of_ble_eq_true rfl) (Nat.le_of_ble_eq_true rfl) dJ5_length_8abf5_4

set_option maxHeartbeats 4000000 in
set_option maxRecDepth 100000 in
theorem c_SB_length (l : Launch) (G : va_G) (N0 ade : Nat) (adB : Nat → Nat) (sz : Nat) (sb : Nat) (sv : Nat) : Met l yJ4_length_8abf5 (Cond.code yJ4_length_8abf5 cJ4_length_8abf5 1 (some FieldType.int) :: lw_all) ({ frames := 1, cells := 0, slots := 0, locals := 20 }) (va_Pc [.ref sb] (KPre N0 ade adB G [] [(sb, .inr (1, [.ref sv, .int 0, .int 0, .int 0]))] sz)) (va_Qi (fun (r : Int32) (u : Unit) => r = 0) (KB G (fun (u : Unit) => [(sb, .inr (1, [.ref sv, .int 0, .int 0, .int 0]))]) (fun (u : Unit) => []) (va_A [(sb, .inr (1, [.ref sv, .int 0, .int 0, .int 0]))] sz)) (va_A [(sb, .inr (1, [.ref sv, .int 0, .int 0, .int 0]))] sz)) 0 0 (va_A [(sb, .inr (1, [.ref sv, .int 0, .int 0, .int 0]))] sz) := by
  refine K_ofW (Qc := fun A => va_Qi (fun (r : Int32) (u : Unit) => r = 0) (KB G (fun (u : Unit) => [(sb, .inr (1, [.ref sv, .int 0, .int 0, .int 0]))]) (fun (u : Unit) => []) A) A) (by decide) (Nat.le_of_ble_eq_true rfl) rfl (fun p e s m args below meth c hx hb hr hml hown hlocks hin hts A hAN hA H hH hP hD hK hT hN hS ls hl => ?_)
  have hl : lv_has ls 1 [(0, .ref sb)] := hl
  refine lv_aload_n hx hb dJ4_length_8abf5_0 rfl (lv_at hl 0 rfl) ?_
  refine ka_i (va_runSU (As := []) (rest := []) (hK.1 1 _ rfl).2 ⟨hx, hb, hml, hown, hts⟩ (c_ASB_length l G N0 ade adB H.size sb sv) (va_cwSU 0 hts (kgSU q997 q993 q956 q992 q77 q998) rfl rfl rfl (by decide +kernel) ⟨(Nat.le_of_ble_eq_true rfl), (Nat.le_of_ble_eq_true rfl)⟩) (kpreV (ci := 1) (q0 := 0) hP hD hK hAN hT hN hS [0] [] (by decide) rfl rfl rfl rfl rfl) rfl rfl hl.1 rfl (lv_room (Nat.le_of_ble_eq_true rfl)) dJ4_length_8abf5_1 ⟨(Nat.le_of_ble_eq_true rfl), (Nat.le_of_ble_eq_true rfl)⟩) (ws := [(sb, .inr (1, [.ref sv, .int 0, .int 0, .int 0]))]) (wc := [(sb, .inr (1, [.ref sv, .int 0, .int 0, .int 0]))]) (wr := []) hP hD hK hS hA [0] [] [] rfl rfl (by decide) (by decide) rfl (fun r_ u1 H locs hw2 hP hD hK hS => ?_)
  have hP : va_P G vwCl [(sb, .inr (1, [.ref sv, .int 0, .int 0, .int 0]))] H := hP
  have hD : va_D A [(sb, .inr (1, [.ref sv, .int 0, .int 0, .int 0]))] := hD
  have hK : va_K G vwCl [] s := hK
  refine W.widen (k := 0) (n := 0) (Nat.le_of_ble_eq_true rfl) (Nat.le_of_ble_eq_true rfl) ?_
  obtain rfl : r_ = 0 := hw2
  exact ke_i (v := 0) hx hb hr hlocks rfl () (rfl) hP hD hK [0] [] (by decide) rfl rfl hS (Nat.le_of_ble_eq_true rfl) (Nat.le_of_ble_eq_true rfl) dJ4_length_8abf5_4

set_option maxHeartbeats 4000000 in
set_option maxRecDepth 100000 in
theorem c_size_0 (l : Launch) (G : va_G) (N0 ade : Nat) (adB : Nat → Nat) (sz : Nat) (a : Nat) (md : Int32) (el : Nat) : Met l yJx4a65c_size_8abf5 (Cond.code yJx4a65c_size_8abf5 cJx4a65c_size_8abf5 1 (some FieldType.int) :: lw_all) ({ frames := 0, cells := 0, slots := 0, locals := 0 }) (va_Pc [.ref a] (KPre N0 ade adB G [] [(a, .inr (5, [.int md, .ref el, .int 0]))] sz)) (va_Qi (fun (r : Int32) (u : Unit) => r = 0) (KB G (fun (u : Unit) => [(a, .inr (5, [.int md, .ref el, .int 0]))]) (fun (u : Unit) => []) (va_A [(a, .inr (5, [.int md, .ref el, .int 0]))] sz)) (va_A [(a, .inr (5, [.int md, .ref el, .int 0]))] sz)) 0 0 (va_A [(a, .inr (5, [.int md, .ref el, .int 0]))] sz) := by
  refine K_ofW (Qc := fun A => va_Qi (fun (r : Int32) (u : Unit) => r = 0) (KB G (fun (u : Unit) => [(a, .inr (5, [.int md, .ref el, .int 0]))]) (fun (u : Unit) => []) A) A) (by decide) (Nat.le_of_ble_eq_true rfl) rfl (fun p e s m args below meth c hx hb hr hml hown hlocks hin hts A hAN hA H hH hP hD hK hT hN hS ls hl => ?_)
  have hl : lv_has ls 1 [(0, .ref a)] := hl
  refine lv_aload_n hx hb dJx4a65c_size_8abf5_0 rfl (lv_at hl 0 rfl) ?_
  refine va_get (D := G) (ci := 5) (v := .int 0) (C := RJx4a65c) (T := TJx4a65c) (N := 3) hx hb hts inJx4a65c hown hK hP 0 rfl rfl 2 (by decide) (hts _ q730) (fun _ h_ => h_) rfl dJx4a65c_size_8abf5_1 ?_
  exact ke_i (v := 0) hx hb hr hlocks rfl () (rfl) hP hD hK [0] [] (by decide) rfl rfl hS (Nat.le_of_ble_eq_true rfl) (Nat.le_of_ble_eq_true rfl) dJx4a65c_size_8abf5_4

set_option maxHeartbeats 4000000 in
set_option maxRecDepth 100000 in
theorem c_size_1 (l : Launch) (G : va_G) (N0 ade : Nat) (adB : Nat → Nat) (sz : Nat) (a : Nat) (md : Int32) (el : Nat) : Met l yJx4a65c_size_8abf5 (Cond.code yJx4a65c_size_8abf5 cJx4a65c_size_8abf5 1 (some FieldType.int) :: lw_all) ({ frames := 0, cells := 0, slots := 0, locals := 0 }) (va_Pc [.ref a] (KPre N0 ade adB G [] [(a, .inr (5, [.int md, .ref el, .int 1]))] sz)) (va_Qi (fun (r : Int32) (u : Unit) => r = 1) (KB G (fun (u : Unit) => [(a, .inr (5, [.int md, .ref el, .int 1]))]) (fun (u : Unit) => []) (va_A [(a, .inr (5, [.int md, .ref el, .int 1]))] sz)) (va_A [(a, .inr (5, [.int md, .ref el, .int 1]))] sz)) 0 0 (va_A [(a, .inr (5, [.int md, .ref el, .int 1]))] sz) := by
  refine K_ofW (Qc := fun A => va_Qi (fun (r : Int32) (u : Unit) => r = 1) (KB G (fun (u : Unit) => [(a, .inr (5, [.int md, .ref el, .int 1]))]) (fun (u : Unit) => []) A) A) (by decide) (Nat.le_of_ble_eq_true rfl) rfl (fun p e s m args below meth c hx hb hr hml hown hlocks hin hts A hAN hA H hH hP hD hK hT hN hS ls hl => ?_)
  have hl : lv_has ls 1 [(0, .ref a)] := hl
  refine lv_aload_n hx hb dJx4a65c_size_8abf5_0 rfl (lv_at hl 0 rfl) ?_
  refine va_get (D := G) (ci := 5) (v := .int 1) (C := RJx4a65c) (T := TJx4a65c) (N := 3) hx hb hts inJx4a65c hown hK hP 0 rfl rfl 2 (by decide) (hts _ q730) (fun _ h_ => h_) rfl dJx4a65c_size_8abf5_1 ?_
  exact ke_i (v := 1) hx hb hr hlocks rfl () (rfl) hP hD hK [0] [] (by decide) rfl rfl hS (Nat.le_of_ble_eq_true rfl) (Nat.le_of_ble_eq_true rfl) dJx4a65c_size_8abf5_4

set_option maxHeartbeats 4000000 in
set_option maxRecDepth 100000 in
theorem c_isEmpty_0 (l : Launch) (G : va_G) (N0 ade : Nat) (adB : Nat → Nat) (sz : Nat) (a : Nat) (md : Int32) (el : Nat) : Met l yJx4a65c_isEmpty_aae02 (Cond.code yJx4a65c_isEmpty_aae02 cJx4a65c_isEmpty_aae02 1 (some FieldType.boolean) :: lw_all) ({ frames := 0, cells := 0, slots := 0, locals := 0 }) (va_Pc [.ref a] (KPre N0 ade adB G [] [(a, .inr (5, [.int md, .ref el, .int 0]))] sz)) (va_Qi (fun (r : Int32) (u : Unit) => r = 1) (KB G (fun (u : Unit) => [(a, .inr (5, [.int md, .ref el, .int 0]))]) (fun (u : Unit) => []) (va_A [(a, .inr (5, [.int md, .ref el, .int 0]))] sz)) (va_A [(a, .inr (5, [.int md, .ref el, .int 0]))] sz)) 0 0 (va_A [(a, .inr (5, [.int md, .ref el, .int 0]))] sz) := by
  refine K_ofW (Qc := fun A => va_Qi (fun (r : Int32) (u : Unit) => r = 1) (KB G (fun (u : Unit) => [(a, .inr (5, [.int md, .ref el, .int 0]))]) (fun (u : Unit) => []) A) A) (by decide) (Nat.le_of_ble_eq_true rfl) rfl (fun p e s m args below meth c hx hb hr hml hown hlocks hin hts A hAN hA H hH hP hD hK hT hN hS ls hl => ?_)
  have hl : lv_has ls 1 [(0, .ref a)] := hl
  refine lv_aload_n hx hb dJx4a65c_isEmpty_aae02_0 rfl (lv_at hl 0 rfl) ?_
  refine va_get (D := G) (ci := 5) (v := .int 0) (C := RJx4a65c) (T := TJx4a65c) (N := 3) hx hb hts inJx4a65c hown hK hP 0 rfl rfl 2 (by decide) (hts _ q730) (fun _ h_ => h_) rfl dJx4a65c_isEmpty_aae02_1 ?_
  refine lv_if_ne (tgt := 11) hx hb dJx4a65c_isEmpty_aae02_4 (by decide) (fun h_ => absurd h_ (by decide)) (fun _ => ?_)
  refine lv_iconst (v := 1) hx hb dJx4a65c_isEmpty_aae02_7 (by decide) ?_
  refine lv_goto (tgt := 12) hx hb dJx4a65c_isEmpty_aae02_8 (by decide) ?_
  exact ke_i (v := 1) hx hb hr hlocks (by decide +kernel) () (rfl) hP hD hK [0] [] (by decide) rfl rfl hS (Nat.le_of_ble_eq_true rfl) (Nat.le_of_ble_eq_true rfl) dJx4a65c_isEmpty_aae02_12

set_option maxHeartbeats 4000000 in
set_option maxRecDepth 100000 in
theorem c_clear_0 (l : Launch) (G : va_G) (N0 ade : Nat) (adB : Nat → Nat) (sz : Nat) (a : Nat) (md : Int32) (el : Nat) : Met l yJx4a65c_clear_da8c8 (Cond.code yJx4a65c_clear_da8c8 cJx4a65c_clear_da8c8 4 none :: lw_all) ({ frames := 0, cells := 0, slots := 0, locals := 0 }) (va_Pc [.ref a] (KPre N0 ade adB G [] [(a, .inr (5, [.int md, .ref el, .int 0]))] sz)) (va_Qv (fun (u : Unit) => True) (KB G (fun (u : Unit) => [(a, .inr (5, [.int (md + 1), .ref el, .int 0]))]) (fun (u : Unit) => []) (va_A [(a, .inr (5, [.int md, .ref el, .int 0]))] sz)) (va_A [(a, .inr (5, [.int md, .ref el, .int 0]))] sz)) 0 0 (va_A [(a, .inr (5, [.int md, .ref el, .int 0]))] sz) := by
  refine K_ofW (Qc := fun A => va_Qv (fun (u : Unit) => True) (KB G (fun (u : Unit) => [(a, .inr (5, [.int (md + 1), .ref el, .int 0]))]) (fun (u : Unit) => []) A) A) (by decide) (Nat.le_of_ble_eq_true rfl) rfl (fun p e s m args below meth c hx hb hr hml hown hlocks hin hts A hAN hA H hH hP hD hK hT hN hS ls hl => ?_)
  have hl : lv_has ls 4 [(0, .ref a)] := hl
  refine lv_aload_n hx hb dJx4a65c_clear_da8c8_0 rfl (lv_at hl 0 rfl) ?_
  refine lv_dup hx hb dJx4a65c_clear_da8c8_1 rfl ?_
  refine va_get (D := G) (ci := 5) (v := .int md) (C := RJx4a65c) (T := TJx4a65c) (N := 3) hx hb hts inJx4a65c hown hK hP 0 rfl rfl 0 (by decide) (hts _ q734) (fun x_ h_ => u_same (hts _ q733) x_ h_) rfl dJx4a65c_clear_da8c8_2 ?_
  refine lv_iconst (v := 1) hx hb dJx4a65c_clear_da8c8_5 (by decide) ?_
  refine lv_iadd hx hb dJx4a65c_clear_da8c8_6 ?_
  refine va_put (D := G) (ci := 5) (v := .int (md + 1)) (ty := .int) (C := RJx4a65c) (T := TJx4a65c) (N := 3) hx hb hts inJx4a65c tyJx4a65c tyJx4a65c_ok nmJx4a65c hown hK hP hD hS 0 rfl rfl 0 (by decide) (hts _ q734) (fun x_ h_ => u_same (hts _ q733) x_ h_) rfl (by decide +kernel) rfl rfl (Nat.le_of_ble_eq_true rfl) dJx4a65c_clear_da8c8_7 (fun H locs hP hD hS => ?_)
  have hP : va_P G vwCl [(a, .inr (5, [.int (md + 1), .ref el, .int 0]))] H := hP
  have hD : va_D A [(a, .inr (5, [.int (md + 1), .ref el, .int 0]))] := hD
  refine lv_aload_n hx hb dJx4a65c_clear_da8c8_10 rfl (lv_at hl 0 rfl) ?_
  refine va_get (D := G) (ci := 5) (v := .ref el) (C := RJx4a65c) (T := TJx4a65c) (N := 3) hx hb hts inJx4a65c hown hK hP 0 rfl rfl 1 (by decide) (hts _ q729) (fun _ h_ => h_) rfl dJx4a65c_clear_da8c8_11 ?_
  refine lv_astore_n (lv' := [(1, .ref el), (0, .ref a)]) hx hb dJx4a65c_clear_da8c8_14 rfl hl (by decide) rfl (fun ls hl => ?_)
  refine lv_aload_n hx hb dJx4a65c_clear_da8c8_15 rfl (lv_at hl 1 rfl) ?_
  refine va_get (D := G) (ci := 5) (v := .int 0) (C := RJx4a65c) (T := TJx4a65c) (N := 3) hx hb hts inJx4a65c hown hK hP 0 rfl rfl 2 (by decide) (hts _ q730) (fun _ h_ => h_) rfl dJx4a65c_clear_da8c8_16 ?_
  refine lv_istore_n (lv' := [(2, .int 0), (1, .ref el), (0, .ref a)]) hx hb dJx4a65c_clear_da8c8_19 rfl hl (by decide) rfl (fun ls hl => ?_)
  refine lv_aload_n hx hb dJx4a65c_clear_da8c8_20 rfl (lv_at hl 2 rfl) ?_
  refine lv_iconst (v := 0) hx hb dJx4a65c_clear_da8c8_21 (by decide) ?_
  refine W.eq (g2 := F0 m 22 ls [.int 0, .ref a]) rfl ?_
  refine lv_dup_x1 hx hb dJx4a65c_clear_da8c8_22 rfl rfl ?_
  refine va_put (D := G) (ci := 5) (v := .int 0) (ty := .int) (C := RJx4a65c) (T := TJx4a65c) (N := 3) hx hb hts inJx4a65c tyJx4a65c tyJx4a65c_ok nmJx4a65c hown hK hP hD hS 0 rfl rfl 2 (by decide) (hts _ q730) (fun _ h_ => h_) rfl (by decide +kernel) rfl rfl (Nat.le_of_ble_eq_true rfl) dJx4a65c_clear_da8c8_23 (fun H locs hP hD hS => ?_)
  have hP : va_P G vwCl [(a, .inr (5, [.int (md + 1), .ref el, .int 0]))] H := hP
  have hD : va_D A [(a, .inr (5, [.int (md + 1), .ref el, .int 0]))] := hD
  refine lv_istore_n (lv' := [(3, .int 0), (2, .int 0), (1, .ref el), (0, .ref a)]) hx hb dJx4a65c_clear_da8c8_26 rfl hl (by decide) rfl (fun ls hl => ?_)
  refine lv_iload_n hx hb dJx4a65c_clear_da8c8_27 rfl (lv_at hl 0 rfl) ?_
  refine lv_iload_n hx hb dJx4a65c_clear_da8c8_28 rfl (lv_at hl 1 rfl) ?_
  refine lv_icmp_ge (tgt := 42) hx hb dJx4a65c_clear_da8c8_29 (by decide) (fun _ => ?_) (fun h_ => absurd h_ (by decide))
  exact ke_v hx hb hr hlocks () (trivial) hP hD hK [0] [] (by decide) rfl rfl hS (Nat.le_of_ble_eq_true rfl) (Nat.le_of_ble_eq_true rfl) dJx4a65c_clear_da8c8_42

set_option maxHeartbeats 4000000 in
set_option maxRecDepth 100000 in
theorem c_Itr_init (l : Launch) (G : va_G) (N0 ade : Nat) (adB : Nat → Nat) (sz : Nat) (q0 : Nat) (a : Nat) (md : Int32) (el : Nat) : Met l yJx35411_init_45d68 (Cond.code yJx35411_init_45d68 cJx35411_init_45d68 2 none :: lw_all) ({ frames := 1, cells := 0, slots := 0, locals := 12 }) (va_Pc [.ref q0, .ref a] (KPre N0 ade adB G [] [(q0, .inr (4, [.int 0, .int 0, .int 0, .null])), (a, .inr (5, [.int md, .ref el, .int 0]))] sz)) (va_Qv (fun (u : Unit) => True) (KB G (fun (u : Unit) => [(q0, .inr (4, [.int 0, .int (-1), .int md, .ref a])), (a, .inr (5, [.int md, .ref el, .int 0]))]) (fun (u : Unit) => []) (va_A [(q0, .inr (4, [.int 0, .int 0, .int 0, .null])), (a, .inr (5, [.int md, .ref el, .int 0]))] sz)) (va_A [(q0, .inr (4, [.int 0, .int 0, .int 0, .null])), (a, .inr (5, [.int md, .ref el, .int 0]))] sz)) 0 0 (va_A [(q0, .inr (4, [.int 0, .int 0, .int 0, .null])), (a, .inr (5, [.int md, .ref el, .int 0]))] sz) := by
  refine K_ofW (Qc := fun A => va_Qv (fun (u : Unit) => True) (KB G (fun (u : Unit) => [(q0, .inr (4, [.int 0, .int (-1), .int md, .ref a])), (a, .inr (5, [.int md, .ref el, .int 0]))]) (fun (u : Unit) => []) A) A) (by decide) (Nat.le_of_ble_eq_true rfl) rfl (fun p e s m args below meth c hx hb hr hml hown hlocks hin hts A hAN hA H hH hP hD hK hT hN hS ls hl => ?_)
  have hin : meth.name = "<init>" := hin
  have hl : lv_has ls 2 [(0, .ref q0), (1, .ref a)] := hl
  refine lv_aload_n hx hb dJx35411_init_45d68_0 rfl (lv_at hl 0 rfl) ?_
  refine lv_aload_n hx hb dJx35411_init_45d68_1 rfl (lv_at hl 1 rfl) ?_
  refine va_putF (D := G) (ci := 4) (v := .ref a) (ty := (.object "java/util/ArrayList")) (C := RJx35411) (T := TJx35411) (N := 4) hx hb hts inJx35411 tyJx35411 tyJx35411_ok nmJx35411 hown hK hP hD hS 0 rfl rfl 3 (by decide) (hts _ q904) (fun _ h_ => h_) rfl hin rfl (by decide +kernel) rfl rfl (Nat.le_of_ble_eq_true rfl) dJx35411_init_45d68_2 (fun H locs hP hD hS => ?_)
  have hP : va_P G vwCl [(q0, .inr (4, [.int 0, .int 0, .int 0, .ref a])), (a, .inr (5, [.int md, .ref el, .int 0]))] H := hP
  have hD : va_D A [(q0, .inr (4, [.int 0, .int 0, .int 0, .ref a])), (a, .inr (5, [.int md, .ref el, .int 0]))] := hD
  refine lv_aload_n hx hb dJx35411_init_45d68_5 rfl (lv_at hl 0 rfl) ?_
  refine W.objInit hx hb hown (hts _ q900) (hts _ q91) (hts _ q92) rfl (by rw [hml]; exact hl.1) rfl dJx35411_init_45d68_6 (Nat.le_of_ble_eq_true rfl) (Nat.le_of_ble_eq_true rfl) ?_
  refine W.eq (g2 := F0 m 9 ls []) rfl ?_
  refine lv_aload_n hx hb dJx35411_init_45d68_9 rfl (lv_at hl 0 rfl) ?_
  refine lv_iconst (v := (-1)) hx hb dJx35411_init_45d68_10 (by decide) ?_
  refine va_put (D := G) (ci := 4) (v := .int (-1)) (ty := .int) (C := RJx35411) (T := TJx35411) (N := 4) hx hb hts inJx35411 tyJx35411 tyJx35411_ok nmJx35411 hown hK hP hD hS 0 rfl rfl 1 (by decide) (hts _ q902) (fun _ h_ => h_) rfl (by decide +kernel) rfl rfl (Nat.le_of_ble_eq_true rfl) dJx35411_init_45d68_11 (fun H locs hP hD hS => ?_)
  have hP : va_P G vwCl [(q0, .inr (4, [.int 0, .int (-1), .int 0, .ref a])), (a, .inr (5, [.int md, .ref el, .int 0]))] H := hP
  have hD : va_D A [(q0, .inr (4, [.int 0, .int (-1), .int 0, .ref a])), (a, .inr (5, [.int md, .ref el, .int 0]))] := hD
  refine lv_aload_n hx hb dJx35411_init_45d68_14 rfl (lv_at hl 0 rfl) ?_
  refine lv_aload_n hx hb dJx35411_init_45d68_15 rfl (lv_at hl 0 rfl) ?_
  refine va_get (D := G) (ci := 4) (v := .ref a) (C := RJx35411) (T := TJx35411) (N := 4) hx hb hts inJx35411 hown hK hP 0 rfl rfl 3 (by decide) (hts _ q904) (fun _ h_ => h_) rfl dJx35411_init_45d68_16 ?_
  refine va_get (D := G) (ci := 5) (v := .int md) (C := RJx4a65c) (T := TJx4a65c) (N := 3) hx hb hts inJx4a65c hown hK hP 1 rfl rfl 0 (by decide) (hts _ q732) (fun x_ h_ => u_same (hts _ q733) x_ h_) rfl dJx35411_init_45d68_19 ?_
  refine va_put (D := G) (ci := 4) (v := .int md) (ty := .int) (C := RJx35411) (T := TJx35411) (N := 4) hx hb hts inJx35411 tyJx35411 tyJx35411_ok nmJx35411 hown hK hP hD hS 0 rfl rfl 2 (by decide) (hts _ q903) (fun _ h_ => h_) rfl (by decide +kernel) rfl rfl (Nat.le_of_ble_eq_true rfl) dJx35411_init_45d68_22 (fun H locs hP hD hS => ?_)
  have hP : va_P G vwCl [(q0, .inr (4, [.int 0, .int (-1), .int md, .ref a])), (a, .inr (5, [.int md, .ref el, .int 0]))] H := hP
  have hD : va_D A [(q0, .inr (4, [.int 0, .int (-1), .int md, .ref a])), (a, .inr (5, [.int md, .ref el, .int 0]))] := hD
  exact ke_v hx hb hr hlocks () (trivial) hP hD hK [0, 1] [] (by decide) rfl rfl hS (Nat.le_of_ble_eq_true rfl) (Nat.le_of_ble_eq_true rfl) dJx35411_init_45d68_25

set_option maxHeartbeats 4000000 in
set_option maxRecDepth 100000 in
theorem c_iterator (l : Launch) (G : va_G) (N0 ade : Nat) (adB : Nat → Nat) (sz : Nat) (a : Nat) (md : Int32) (el : Nat) : Met l yJx4a65c_iterator_32c93 (Cond.code yJx4a65c_iterator_32c93 cJx4a65c_iterator_32c93 1 (some (FieldType.object "java/util/Iterator")) :: lw_all) ({ frames := 2, cells := 1, slots := 4, locals := 33 }) (va_Pc [.ref a] (KPre N0 ade adB G [] [(a, .inr (5, [.int md, .ref el, .int 0]))] sz)) (KQr (fun (u : Nat) => u) (fun (u : Nat) => True) (KB G (fun (u : Nat) => [(a, .inr (5, [.int md, .ref el, .int 0])), (u, .inr (4, [.int 0, .int (-1), .int md, .ref a]))]) (fun (u : Nat) => []) (va_A [(a, .inr (5, [.int md, .ref el, .int 0]))] sz)) (va_A [(a, .inr (5, [.int md, .ref el, .int 0]))] sz)) 1 4 (va_A [(a, .inr (5, [.int md, .ref el, .int 0]))] sz) := by
  refine K_ofW (Qc := fun A => KQr (fun (u : Nat) => u) (fun (u : Nat) => True) (KB G (fun (u : Nat) => [(a, .inr (5, [.int md, .ref el, .int 0])), (u, .inr (4, [.int 0, .int (-1), .int md, .ref a]))]) (fun (u : Nat) => []) A) A) (by decide) (Nat.le_of_ble_eq_true rfl) rfl (fun p e s m args below meth c hx hb hr hml hown hlocks hin hts A hAN hA H hH hP hD hK hT hN hS ls hl => ?_)
  have hl : lv_has ls 1 [(0, .ref a)] := hl
  refine va_new (ci := 4) (fs := [.int 0, .int 0, .int 0, .null]) (C := RJx35411) (T := TJx35411) (N := 4) hx hb hts inJx35411 tyJx35411 tyJx35411_ok hown (hts _ q895) (hts _ q896) (hts _ q73) hK hP hD hS hA rfl (fun j hj => by rcases (show j = 0 ∨ j = 1 ∨ j = 2 ∨ j = 3 by omega) with rfl | rfl | rfl | rfl <;> rfl) (Nat.le_of_ble_eq_true rfl) (Nat.le_of_ble_eq_true rfl) dJx4a65c_iterator_32c93_0 (fun o_1 H hP hD hS => ?_)
  have hP : va_P G vwCl [(a, .inr (5, [.int md, .ref el, .int 0])), (o_1, .inr (4, [.int 0, .int 0, .int 0, .null]))] H := hP
  have hD : va_D A [(a, .inr (5, [.int md, .ref el, .int 0])), (o_1, .inr (4, [.int 0, .int 0, .int 0, .null]))] := hD
  have hK : va_K G vwCl [] s := hK
  refine W.widen (k := 1) (n := 4) (Nat.le_of_ble_eq_true rfl) (Nat.le_of_ble_eq_true rfl) ?_
  refine lv_dup hx hb dJx4a65c_iterator_32c93_3 rfl ?_
  refine lv_aload_n hx hb dJx4a65c_iterator_32c93_4 rfl (lv_at hl 0 rfl) ?_
  refine ka_v (va_runI (As := [.ref a]) (rest := [.ref o_1]) ⟨hx, hb, hml, hown, hts⟩ (c_Itr_init l G N0 ade adB H.size o_1 a md el) (cwI 1 hts (kgC q899) rfl rfl rfl (hts _ q73) (hts _ q897) (hts _ q898) rfl (by decide +kernel) ⟨(Nat.le_of_ble_eq_true rfl), (Nat.le_of_ble_eq_true rfl)⟩) (kpreS hP hD hK hAN hT hN hS [1, 0] [] (by decide) rfl rfl) rfl rfl hl.1 rfl (lv_room (Nat.le_of_ble_eq_true rfl)) dJx4a65c_iterator_32c93_5 ⟨(Nat.le_of_ble_eq_true rfl), (Nat.le_of_ble_eq_true rfl)⟩) (ws := [(a, .inr (5, [.int md, .ref el, .int 0])), (o_1, .inr (4, [.int 0, .int 0, .int 0, .null]))]) (wc := [(o_1, .inr (4, [.int 0, .int 0, .int 0, .null])), (a, .inr (5, [.int md, .ref el, .int 0]))]) (wr := []) hP hD hK hS hA [1, 0] [] [] rfl rfl (by decide) (by decide) rfl (fun u2 H locs hw3 hP hD hK hS => ?_)
  have hP : va_P G vwCl [(o_1, .inr (4, [.int 0, .int (-1), .int md, .ref a])), (a, .inr (5, [.int md, .ref el, .int 0]))] H := hP
  have hD : va_D A [(o_1, .inr (4, [.int 0, .int (-1), .int md, .ref a])), (a, .inr (5, [.int md, .ref el, .int 0]))] := hD
  have hK : va_K G vwCl [] s := hK
  refine W.widen (k := 1) (n := 4) (Nat.le_of_ble_eq_true rfl) (Nat.le_of_ble_eq_true rfl) ?_
  exact ke_r hx hb hr hlocks (Or.inl ⟨_, rfl⟩) o_1 rfl (trivial) hP hD hK [1, 0] [] (by decide) rfl rfl hS (Nat.le_of_ble_eq_true rfl) (Nat.le_of_ble_eq_true rfl) dJx4a65c_iterator_32c93_8

set_option maxHeartbeats 4000000 in
set_option maxRecDepth 100000 in
theorem c_hasNext_0 (l : Launch) (G : va_G) (N0 ade : Nat) (adB : Nat → Nat) (sz : Nat) (it : Nat) (lr : Int32) (em : Int32) (a : Nat) (md : Int32) (el : Nat) : Met l yJx35411_hasNext_aae02 (Cond.code yJx35411_hasNext_aae02 cJx35411_hasNext_aae02 1 (some FieldType.boolean) :: lw_all) ({ frames := 0, cells := 0, slots := 0, locals := 0 }) (va_Pc [.ref it] (KPre N0 ade adB G [] [(it, .inr (4, [.int 0, .int lr, .int em, .ref a])), (a, .inr (5, [.int md, .ref el, .int 0]))] sz)) (va_Qi (fun (r : Int32) (u : Unit) => r = 0) (KB G (fun (u : Unit) => [(a, .inr (5, [.int md, .ref el, .int 0]))]) (fun (u : Unit) => []) (va_A [(it, .inr (4, [.int 0, .int lr, .int em, .ref a])), (a, .inr (5, [.int md, .ref el, .int 0]))] sz)) (va_A [(it, .inr (4, [.int 0, .int lr, .int em, .ref a])), (a, .inr (5, [.int md, .ref el, .int 0]))] sz)) 0 0 (va_A [(it, .inr (4, [.int 0, .int lr, .int em, .ref a])), (a, .inr (5, [.int md, .ref el, .int 0]))] sz) := by
  refine K_ofW (Qc := fun A => va_Qi (fun (r : Int32) (u : Unit) => r = 0) (KB G (fun (u : Unit) => [(a, .inr (5, [.int md, .ref el, .int 0]))]) (fun (u : Unit) => []) A) A) (by decide) (Nat.le_of_ble_eq_true rfl) rfl (fun p e s m args below meth c hx hb hr hml hown hlocks hin hts A hAN hA H hH hP hD hK hT hN hS ls hl => ?_)
  have hl : lv_has ls 1 [(0, .ref it)] := hl
  refine lv_aload_n hx hb dJx35411_hasNext_aae02_0 rfl (lv_at hl 0 rfl) ?_
  refine va_get (D := G) (ci := 4) (v := .int 0) (C := RJx35411) (T := TJx35411) (N := 4) hx hb hts inJx35411 hown hK hP 0 rfl rfl 0 (by decide) (hts _ q901) (fun _ h_ => h_) rfl dJx35411_hasNext_aae02_1 ?_
  refine lv_aload_n hx hb dJx35411_hasNext_aae02_4 rfl (lv_at hl 0 rfl) ?_
  refine va_get (D := G) (ci := 4) (v := .ref a) (C := RJx35411) (T := TJx35411) (N := 4) hx hb hts inJx35411 hown hK hP 0 rfl rfl 3 (by decide) (hts _ q904) (fun _ h_ => h_) rfl dJx35411_hasNext_aae02_5 ?_
  refine va_getN (D := G) (ci := 5) (v := .int 0) (C := RJx4a65c) (T := TJx4a65c) (N := 3) hx hb hts inJx4a65c hown hK hP 1 rfl rfl 2 (by decide) (hT.nf (List.mem_of_getElem? (i := 0) rfl)) (fun _ h_ => h_) rfl dJx35411_hasNext_aae02_8 ?_
  refine lv_icmp_eq (tgt := 18) hx hb dJx35411_hasNext_aae02_11 (by decide) (fun _ => ?_) (fun h_ => absurd h_ (by decide))
  refine lv_iconst (v := 0) hx hb dJx35411_hasNext_aae02_18 (by decide) ?_
  exact ke_i (v := 0) hx hb hr hlocks (by decide +kernel) () (rfl) hP hD hK [1] [] (by decide) rfl rfl hS (Nat.le_of_ble_eq_true rfl) (Nat.le_of_ble_eq_true rfl) dJx35411_hasNext_aae02_19

set_option maxHeartbeats 4000000 in
set_option maxRecDepth 100000 in
theorem c_grow1 (l : Launch) (G : va_G) (N0 ade : Nat) (adB : Nat → Nat) (sz : Nat) (a : Nat) (md : Int32) : Met l yJx4a65c_grow_92f84 (Cond.code yJx4a65c_grow_92f84 cJx4a65c_grow_92f84 4 (some (FieldType.array (FieldType.object "java/lang/Object"))) :: lw_all) ({ frames := 1, cells := 1, slots := 10, locals := 14 }) (va_Pc [.ref a, .int 1] (KPre N0 ade adB G [] [(a, .inr (5, [.int md, .ref ade, .int 0]))] sz)) (KQr (fun (u : Nat × ClassId) => u.1) (fun (u : Nat × ClassId) => True) (KB G (fun (u : Nat × ClassId) => [(a, .inr (5, [.int md, .ref u.1, .int 0])), (u.1, .inl (u.2, 10, .inr (.inr (.inr (.inr (fun _ => none))))))]) (fun (u : Nat × ClassId) => [(u.2, .object "java/lang/Object")]) (va_A [(a, .inr (5, [.int md, .ref ade, .int 0]))] sz)) (va_A [(a, .inr (5, [.int md, .ref ade, .int 0]))] sz)) 1 10 (va_A [(a, .inr (5, [.int md, .ref ade, .int 0]))] sz) := by
  refine K_ofW (Qc := fun A => KQr (fun (u : Nat × ClassId) => u.1) (fun (u : Nat × ClassId) => True) (KB G (fun (u : Nat × ClassId) => [(a, .inr (5, [.int md, .ref u.1, .int 0])), (u.1, .inl (u.2, 10, .inr (.inr (.inr (.inr (fun _ => none))))))]) (fun (u : Nat × ClassId) => [(u.2, .object "java/lang/Object")]) A) A) (by decide) (Nat.le_of_ble_eq_true rfl) rfl (fun p e s m args below meth c hx hb hr hml hown hlocks hin hts A hAN hA H hH hP hD hK hT hN hS ls hl => ?_)
  have hl : lv_has ls 4 [(0, .ref a), (1, .int 1)] := hl
  refine lv_aload_n hx hb dJx4a65c_grow_92f84_0 rfl (lv_at hl 0 rfl) ?_
  refine va_get (D := G) (ci := 5) (v := .ref ade) (C := RJx4a65c) (T := TJx4a65c) (N := 3) hx hb hts inJx4a65c hown hK hP 0 rfl rfl 1 (by decide) (hts _ q729) (fun _ h_ => h_) rfl dJx4a65c_grow_92f84_1 ?_
  obtain ⟨fE, hTE⟩ := hT.2.2.1.2
  refine va_tlen hx hb (va_T.narrow hTE hAN) hS (v := 0) (by decide) dJx4a65c_grow_92f84_4 ?_
  refine lv_istore_n (lv' := [(2, .int 0), (0, .ref a), (1, .int 1)]) hx hb dJx4a65c_grow_92f84_5 rfl hl (by decide) rfl (fun ls hl => ?_)
  refine lv_iload_n hx hb dJx4a65c_grow_92f84_6 rfl (lv_at hl 0 rfl) ?_
  refine lv_if_gt (tgt := 20) hx hb dJx4a65c_grow_92f84_7 (by decide) (fun h_ => absurd h_ (by decide)) (fun _ => ?_)
  refine lv_aload_n hx hb dJx4a65c_grow_92f84_10 rfl (lv_at hl 1 rfl) ?_
  refine va_get (D := G) (ci := 5) (v := .ref ade) (C := RJx4a65c) (T := TJx4a65c) (N := 3) hx hb hts inJx4a65c hown hK hP 0 rfl rfl 1 (by decide) (hts _ q729) (fun _ h_ => h_) rfl dJx4a65c_grow_92f84_11 ?_
  refine va_gets hx hb (va_Z.narrow hT.2.2.1.1 hAN) hS hown (hts _ q728) (fun _ h_ => h_) dJx4a65c_grow_92f84_14 ?_
  refine W.eq (g2 := F0 m 17 ls (va_rf (some ade) :: va_rf (some ade) :: [])) rfl ?_
  refine lv_acmp_eq (tgt := 45) hx hb dJx4a65c_grow_92f84_17 (by decide) (fun _ => ?_) (fun h_ => absurd rfl h_)
  refine lv_aload_n hx hb dJx4a65c_grow_92f84_45 rfl (lv_at hl 1 rfl) ?_
  refine lv_bipush (v := 10) hx hb dJx4a65c_grow_92f84_46 (by decide) ?_
  refine lv_iload_n hx hb dJx4a65c_grow_92f84_48 rfl (lv_at hl 2 rfl) ?_
  refine va_mmax hx hb (by rw [hml]; exact hl.1.symm) hown (hts _ q804) (hts _ q350) (hts _ q63) (hts _ q351) (Nat.le_of_ble_eq_true rfl) (Nat.le_of_ble_eq_true rfl) (Nat.le_of_ble_eq_true rfl) (Nat.le_of_ble_eq_true rfl) dJx4a65c_grow_92f84_49 ?_
  refine lv_topi (fun v_ e_ => ?_)
  obtain rfl : v_ = 10 := e_.trans (by decide)
  refine va_newq hx hb hown (hts _ q805) (hT.ao (List.mem_of_getElem? (i := 8) rfl)) hK hP hD hS hA (N' := 10) (by decide) (by decide) (Nat.le_of_ble_eq_true rfl) (Nat.le_of_ble_eq_true rfl) (Nat.le_of_ble_eq_true rfl) dJx4a65c_grow_92f84_52 (fun o_1 a2 H hK hP hD hS => ?_)
  have hP : va_P G vwCl [(a, .inr (5, [.int md, .ref ade, .int 0])), (o_1, .inl (a2, 10, .inr (.inr (.inr (.inr (fun _ => none))))))] H := hP
  have hD : va_D A [(a, .inr (5, [.int md, .ref ade, .int 0])), (o_1, .inl (a2, 10, .inr (.inr (.inr (.inr (fun _ => none))))))] := hD
  have hK : va_K G vwCl [(a2, .object "java/lang/Object")] s := hK
  refine W.widen (k := 1) (n := 10) (Nat.le_of_ble_eq_true rfl) (Nat.le_of_ble_eq_true rfl) ?_
  refine lv_dup_x1 hx hb dJx4a65c_grow_92f84_55 rfl rfl ?_
  refine va_put (D := G) (ci := 5) (v := .ref o_1) (ty := (.array (.object "java/lang/Object"))) (C := RJx4a65c) (T := TJx4a65c) (N := 3) hx hb hts inJx4a65c tyJx4a65c tyJx4a65c_ok nmJx4a65c hown hK hP hD hS 0 rfl rfl 1 (by decide) (hts _ q729) (fun _ h_ => h_) rfl (by decide +kernel) rfl rfl (Nat.le_of_ble_eq_true rfl) dJx4a65c_grow_92f84_56 (fun H locs hP hD hS => ?_)
  have hP : va_P G vwCl [(a, .inr (5, [.int md, .ref o_1, .int 0])), (o_1, .inl (a2, 10, .inr (.inr (.inr (.inr (fun _ => none))))))] H := hP
  have hD : va_D A [(a, .inr (5, [.int md, .ref o_1, .int 0])), (o_1, .inl (a2, 10, .inr (.inr (.inr (.inr (fun _ => none))))))] := hD
  exact ke_r hx hb hr hlocks (Or.inr ⟨_, rfl⟩) (o_1, a2) rfl (trivial) hP hD hK [0, 1] [0] (by decide) rfl rfl hS (Nat.le_of_ble_eq_true rfl) (Nat.le_of_ble_eq_true rfl) dJx4a65c_grow_92f84_59

set_option maxHeartbeats 4000000 in
set_option maxRecDepth 100000 in
theorem c_grow0 (l : Launch) (G : va_G) (N0 ade : Nat) (adB : Nat → Nat) (sz : Nat) (a : Nat) (md : Int32) : Met l yJx4a65c_grow_d5877 (Cond.code yJx4a65c_grow_d5877 cJx4a65c_grow_d5877 1 (some (FieldType.array (FieldType.object "java/lang/Object"))) :: lw_all) ({ frames := 2, cells := 1, slots := 10, locals := 37 }) (va_Pc [.ref a] (KPre N0 ade adB G [] [(a, .inr (5, [.int md, .ref ade, .int 0]))] sz)) (KQr (fun (u : Nat × ClassId) => u.1) (fun (u : Nat × ClassId) => True) (KB G (fun (u : Nat × ClassId) => [(a, .inr (5, [.int md, .ref u.1, .int 0])), (u.1, .inl (u.2, 10, .inr (.inr (.inr (.inr (fun _ => none))))))]) (fun (u : Nat × ClassId) => [(u.2, .object "java/lang/Object")]) (va_A [(a, .inr (5, [.int md, .ref ade, .int 0]))] sz)) (va_A [(a, .inr (5, [.int md, .ref ade, .int 0]))] sz)) 1 10 (va_A [(a, .inr (5, [.int md, .ref ade, .int 0]))] sz) := by
  refine K_ofW (Qc := fun A => KQr (fun (u : Nat × ClassId) => u.1) (fun (u : Nat × ClassId) => True) (KB G (fun (u : Nat × ClassId) => [(a, .inr (5, [.int md, .ref u.1, .int 0])), (u.1, .inl (u.2, 10, .inr (.inr (.inr (.inr (fun _ => none))))))]) (fun (u : Nat × ClassId) => [(u.2, .object "java/lang/Object")]) A) A) (by decide) (Nat.le_of_ble_eq_true rfl) rfl (fun p e s m args below meth c hx hb hr hml hown hlocks hin hts A hAN hA H hH hP hD hK hT hN hS ls hl => ?_)
  have hl : lv_has ls 1 [(0, .ref a)] := hl
  refine lv_aload_n hx hb dJx4a65c_grow_d5877_0 rfl (lv_at hl 0 rfl) ?_
  refine lv_aload_n hx hb dJx4a65c_grow_d5877_1 rfl (lv_at hl 0 rfl) ?_
  refine va_get (D := G) (ci := 5) (v := .int 0) (C := RJx4a65c) (T := TJx4a65c) (N := 3) hx hb hts inJx4a65c hown hK hP 0 rfl rfl 2 (by decide) (hts _ q730) (fun _ h_ => h_) rfl dJx4a65c_grow_d5877_2 ?_
  refine lv_iconst (v := 1) hx hb dJx4a65c_grow_d5877_5 (by decide) ?_
  refine lv_iadd hx hb dJx4a65c_grow_d5877_6 ?_
  refine lv_topi (fun v_ e_ => ?_)
  obtain rfl : v_ = 1 := e_.trans (by decide)
  refine ka_r (va_runV (As := [.int 1]) (rest := []) ⟨hx, hb, hml, hown, hts⟩ (c_grow1 l G N0 ade adB H.size a md) (cwV 1 hts (kgV q799 q800 q16 q52 q801) rfl rfl rfl (by decide +kernel) ⟨(Nat.le_of_ble_eq_true rfl), (Nat.le_of_ble_eq_true rfl)⟩) (kpreV (ci := 5) (q0 := 0) hP hD hK hAN hT hN hS [0] [] (by decide) rfl rfl rfl rfl rfl) rfl rfl hl.1 rfl (lv_room (Nat.le_of_ble_eq_true rfl)) dJx4a65c_grow_d5877_7 ⟨(Nat.le_of_ble_eq_true rfl), (Nat.le_of_ble_eq_true rfl)⟩) (ws := [(a, .inr (5, [.int md, .ref ade, .int 0]))]) (wc := [(a, .inr (5, [.int md, .ref ade, .int 0]))]) (wr := []) hP hD hK hS hA [0] [] [] rfl rfl (by decide) (by decide) rfl (fun u3 H locs hw4 hP hD hK hS => ?_)
  obtain ⟨o_1, a2⟩ := u3
  have hP : va_P G vwCl [(a, .inr (5, [.int md, .ref o_1, .int 0])), (o_1, .inl (a2, 10, .inr (.inr (.inr (.inr (fun _ => none))))))] H := hP
  have hD : va_D A [(a, .inr (5, [.int md, .ref o_1, .int 0])), (o_1, .inl (a2, 10, .inr (.inr (.inr (.inr (fun _ => none))))))] := hD
  have hK : va_K G vwCl [(a2, .object "java/lang/Object")] s := hK
  refine W.widen (k := 1) (n := 10) (Nat.le_of_ble_eq_true rfl) (Nat.le_of_ble_eq_true rfl) ?_
  exact ke_r hx hb hr hlocks (Or.inr ⟨_, rfl⟩) (o_1, a2) rfl (trivial) hP hD hK [0, 1] [0] (by decide) rfl rfl hS (Nat.le_of_ble_eq_true rfl) (Nat.le_of_ble_eq_true rfl) dJx4a65c_grow_d5877_10

set_option maxHeartbeats 4000000 in
set_option maxRecDepth 100000 in
theorem c_add3_int (l : Launch) (G : va_G) (N0 ade : Nat) (adB : Nat → Nat) (sz : Nat) (a : Nat) (md : Int32) (v : Nat) (iv : Int32) : Met l yJx4a65c_add_72be8 (Cond.code yJx4a65c_add_72be8 cJx4a65c_add_72be8 4 none :: lw_all) ({ frames := 3, cells := 1, slots := 10, locals := 57 }) (va_Pc [.ref a, .ref v, .ref ade, .int 0] (KPre N0 ade adB G [] [(a, .inr (5, [.int md, .ref ade, .int 0])), (v, .inr (2, [.int iv]))] sz)) (va_Qv (fun (u : Nat) => True) (KB G (fun (u : Nat) => [(a, .inr (5, [.int md, .ref u, .int 1]))]) (fun (u : Nat) => []) (va_A [(a, .inr (5, [.int md, .ref ade, .int 0])), (v, .inr (2, [.int iv]))] sz)) (va_A [(a, .inr (5, [.int md, .ref ade, .int 0])), (v, .inr (2, [.int iv]))] sz)) 1 10 (va_A [(a, .inr (5, [.int md, .ref ade, .int 0])), (v, .inr (2, [.int iv]))] sz) := by
  refine K_ofW (Qc := fun A => va_Qv (fun (u : Nat) => True) (KB G (fun (u : Nat) => [(a, .inr (5, [.int md, .ref u, .int 1]))]) (fun (u : Nat) => []) A) A) (by decide) (Nat.le_of_ble_eq_true rfl) rfl (fun p e s m args below meth c hx hb hr hml hown hlocks hin hts A hAN hA H hH hP hD hK hT hN hS ls hl => ?_)
  have hl : lv_has ls 4 [(0, .ref a), (1, .ref v), (2, .ref ade), (3, .int 0)] := hl
  refine lv_iload_n hx hb dJx4a65c_add_72be8_0 rfl (lv_at hl 3 rfl) ?_
  refine lv_aload_n hx hb dJx4a65c_add_72be8_1 rfl (lv_at hl 2 rfl) ?_
  obtain ⟨fE, hTE⟩ := hT.2.2.1.2
  refine va_tlen hx hb (va_T.narrow hTE hAN) hS (v := 0) (by decide) dJx4a65c_add_72be8_2 ?_
  refine lv_icmp_ne (tgt := 11) hx hb dJx4a65c_add_72be8_3 (by decide) (fun h_ => absurd h_ (by decide)) (fun _ => ?_)
  refine lv_aload_n hx hb dJx4a65c_add_72be8_6 rfl (lv_at hl 0 rfl) ?_
  refine ka_r (va_runV (As := []) (rest := []) ⟨hx, hb, hml, hown, hts⟩ (c_grow0 l G N0 ade adB H.size a md) (cwV 0 hts (kgV q796 q797 q15 q52 q798) rfl rfl rfl (by decide +kernel) ⟨(Nat.le_of_ble_eq_true rfl), (Nat.le_of_ble_eq_true rfl)⟩) (kpreV (ci := 5) (q0 := 0) hP hD hK hAN hT hN hS [0] [] (by decide) rfl rfl rfl rfl rfl) rfl rfl hl.1 rfl (lv_room (Nat.le_of_ble_eq_true rfl)) dJx4a65c_add_72be8_7 ⟨(Nat.le_of_ble_eq_true rfl), (Nat.le_of_ble_eq_true rfl)⟩) (ws := [(a, .inr (5, [.int md, .ref ade, .int 0])), (v, .inr (2, [.int iv]))]) (wc := [(a, .inr (5, [.int md, .ref ade, .int 0]))]) (wr := [(v, .inr (2, [.int iv]))]) hP hD hK hS hA [0] [1] [] rfl rfl (by decide) (by decide) rfl (fun u3 H locs hw4 hP hD hK hS => ?_)
  obtain ⟨o_1, a2⟩ := u3
  have hP : va_P G vwCl [(v, .inr (2, [.int iv])), (a, .inr (5, [.int md, .ref o_1, .int 0])), (o_1, .inl (a2, 10, .inr (.inr (.inr (.inr (fun _ => none))))))] H := hP
  have hD : va_D A [(v, .inr (2, [.int iv])), (a, .inr (5, [.int md, .ref o_1, .int 0])), (o_1, .inl (a2, 10, .inr (.inr (.inr (.inr (fun _ => none))))))] := hD
  have hK : va_K G vwCl [(a2, .object "java/lang/Object")] s := hK
  refine W.widen (k := 1) (n := 10) (Nat.le_of_ble_eq_true rfl) (Nat.le_of_ble_eq_true rfl) ?_
  refine lv_astore_n (lv' := [(2, .ref o_1), (0, .ref a), (1, .ref v), (3, .int 0)]) hx hb dJx4a65c_add_72be8_10 rfl hl (by decide) rfl (fun ls hl => ?_)
  refine lv_aload_n hx hb dJx4a65c_add_72be8_11 rfl (lv_at hl 0 rfl) ?_
  refine lv_iload_n hx hb dJx4a65c_add_72be8_12 rfl (lv_at hl 3 rfl) ?_
  refine lv_aload_n hx hb dJx4a65c_add_72be8_13 rfl (lv_at hl 2 rfl) ?_
  refine vb_astq hx hb hK hP hD hS 2 0 (C := "java/lang/Integer") rfl rfl (ka_cellO hK hP 0 rfl rfl) (fun comp c0 h1_ h2_ => vb_asgC (hT.ca (List.mem_of_getElem? (i := 4) rfl)) comp c0 h1_ h2_) (vin (by decide +kernel)) dJx4a65c_add_72be8_14 (fun H locs hP hD hS => ?_)
  obtain ⟨f5, hf5⟩ : ∃ g_ : Nat → Option Nat, g_ = va_up (fun _ => none) (Int32.toNatClampNeg 0) (some v) := ⟨_, rfl⟩
  have hf5_0 : f5 (Int32.toNatClampNeg 0) = some v := by rw [hf5]; exact va_up_self _ _ _
  have hP : va_P G vwCl [(v, .inr (2, [.int iv])), (a, .inr (5, [.int md, .ref o_1, .int 0])), (o_1, .inl (a2, 10, .inr (.inr (.inr (.inr f5)))))] H := by rw [hf5]; exact hP
  have hD : va_D A [(v, .inr (2, [.int iv])), (a, .inr (5, [.int md, .ref o_1, .int 0])), (o_1, .inl (a2, 10, .inr (.inr (.inr (.inr f5)))))] := by rw [hf5]; exact hD
  clear hf5
  refine lv_aload_n hx hb dJx4a65c_add_72be8_15 rfl (lv_at hl 1 rfl) ?_
  refine lv_iload_n hx hb dJx4a65c_add_72be8_16 rfl (lv_at hl 3 rfl) ?_
  refine lv_iconst (v := 1) hx hb dJx4a65c_add_72be8_17 (by decide) ?_
  refine lv_iadd hx hb dJx4a65c_add_72be8_18 ?_
  refine lv_topi (fun v_ e_ => ?_)
  obtain rfl : v_ = 1 := e_.trans (by decide)
  refine va_put (D := G) (ci := 5) (v := .int 1) (ty := .int) (C := RJx4a65c) (T := TJx4a65c) (N := 3) hx hb hts inJx4a65c tyJx4a65c tyJx4a65c_ok nmJx4a65c hown hK hP hD hS 1 rfl rfl 2 (by decide) (hts _ q730) (fun _ h_ => h_) rfl (by decide +kernel) rfl rfl (Nat.le_of_ble_eq_true rfl) dJx4a65c_add_72be8_19 (fun H locs hP hD hS => ?_)
  have hP : va_P G vwCl [(v, .inr (2, [.int iv])), (a, .inr (5, [.int md, .ref o_1, .int 1])), (o_1, .inl (a2, 10, .inr (.inr (.inr (.inr f5)))))] H := hP
  have hD : va_D A [(v, .inr (2, [.int iv])), (a, .inr (5, [.int md, .ref o_1, .int 1])), (o_1, .inl (a2, 10, .inr (.inr (.inr (.inr f5)))))] := hD
  exact ke_v hx hb hr hlocks o_1 (trivial) hP hD hK [1] [] (by decide) rfl rfl hS (Nat.le_of_ble_eq_true rfl) (Nat.le_of_ble_eq_true rfl) dJx4a65c_add_72be8_22

set_option maxHeartbeats 4000000 in
set_option maxRecDepth 100000 in
theorem c_add1_int (l : Launch) (G : va_G) (N0 ade : Nat) (adB : Nat → Nat) (sz : Nat) (a : Nat) (md : Int32) (v : Nat) (iv : Int32) : Met l yJx4a65c_add_9ea2d (Cond.code yJx4a65c_add_9ea2d cJx4a65c_add_9ea2d 2 (some FieldType.boolean) :: lw_all) ({ frames := 4, cells := 1, slots := 10, locals := 80 }) (va_Pc [.ref a, .ref v] (KPre N0 ade adB G [] [(a, .inr (5, [.int md, .ref ade, .int 0])), (v, .inr (2, [.int iv]))] sz)) (va_Qi (fun (r : Int32) (u : Nat) => r = 1) (KB G (fun (u : Nat) => [(a, .inr (5, [.int (md + 1), .ref u, .int 1]))]) (fun (u : Nat) => []) (va_A [(a, .inr (5, [.int md, .ref ade, .int 0])), (v, .inr (2, [.int iv]))] sz)) (va_A [(a, .inr (5, [.int md, .ref ade, .int 0])), (v, .inr (2, [.int iv]))] sz)) 1 10 (va_A [(a, .inr (5, [.int md, .ref ade, .int 0])), (v, .inr (2, [.int iv]))] sz) := by
  refine K_ofW (Qc := fun A => va_Qi (fun (r : Int32) (u : Nat) => r = 1) (KB G (fun (u : Nat) => [(a, .inr (5, [.int (md + 1), .ref u, .int 1]))]) (fun (u : Nat) => []) A) A) (by decide) (Nat.le_of_ble_eq_true rfl) rfl (fun p e s m args below meth c hx hb hr hml hown hlocks hin hts A hAN hA H hH hP hD hK hT hN hS ls hl => ?_)
  have hl : lv_has ls 2 [(0, .ref a), (1, .ref v)] := hl
  refine lv_aload_n hx hb dJx4a65c_add_9ea2d_0 rfl (lv_at hl 0 rfl) ?_
  refine lv_dup hx hb dJx4a65c_add_9ea2d_1 rfl ?_
  refine va_get (D := G) (ci := 5) (v := .int md) (C := RJx4a65c) (T := TJx4a65c) (N := 3) hx hb hts inJx4a65c hown hK hP 0 rfl rfl 0 (by decide) (hts _ q734) (fun x_ h_ => u_same (hts _ q733) x_ h_) rfl dJx4a65c_add_9ea2d_2 ?_
  refine lv_iconst (v := 1) hx hb dJx4a65c_add_9ea2d_5 (by decide) ?_
  refine lv_iadd hx hb dJx4a65c_add_9ea2d_6 ?_
  refine va_put (D := G) (ci := 5) (v := .int (md + 1)) (ty := .int) (C := RJx4a65c) (T := TJx4a65c) (N := 3) hx hb hts inJx4a65c tyJx4a65c tyJx4a65c_ok nmJx4a65c hown hK hP hD hS 0 rfl rfl 0 (by decide) (hts _ q734) (fun x_ h_ => u_same (hts _ q733) x_ h_) rfl (by decide +kernel) rfl rfl (Nat.le_of_ble_eq_true rfl) dJx4a65c_add_9ea2d_7 (fun H locs hP hD hS => ?_)
  have hP : va_P G vwCl [(a, .inr (5, [.int (md + 1), .ref ade, .int 0])), (v, .inr (2, [.int iv]))] H := hP
  have hD : va_D A [(a, .inr (5, [.int (md + 1), .ref ade, .int 0])), (v, .inr (2, [.int iv]))] := hD
  refine lv_aload_n hx hb dJx4a65c_add_9ea2d_10 rfl (lv_at hl 0 rfl) ?_
  refine lv_aload_n hx hb dJx4a65c_add_9ea2d_11 rfl (lv_at hl 1 rfl) ?_
  refine lv_aload_n hx hb dJx4a65c_add_9ea2d_12 rfl (lv_at hl 0 rfl) ?_
  refine va_get (D := G) (ci := 5) (v := .ref ade) (C := RJx4a65c) (T := TJx4a65c) (N := 3) hx hb hts inJx4a65c hown hK hP 0 rfl rfl 1 (by decide) (hts _ q729) (fun _ h_ => h_) rfl dJx4a65c_add_9ea2d_13 ?_
  refine lv_aload_n hx hb dJx4a65c_add_9ea2d_16 rfl (lv_at hl 0 rfl) ?_
  refine va_get (D := G) (ci := 5) (v := .int 0) (C := RJx4a65c) (T := TJx4a65c) (N := 3) hx hb hts inJx4a65c hown hK hP 0 rfl rfl 2 (by decide) (hts _ q730) (fun _ h_ => h_) rfl dJx4a65c_add_9ea2d_17 ?_
  refine ka_v (va_runV (As := [.ref v, .ref ade, .int 0]) (rest := []) ⟨hx, hb, hml, hown, hts⟩ (c_add3_int l G N0 ade adB H.size a (md + 1) v iv) (cwV 3 hts (kgV q793 q794 q14 q52 q795) rfl rfl rfl (by decide +kernel) ⟨(Nat.le_of_ble_eq_true rfl), (Nat.le_of_ble_eq_true rfl)⟩) (kpreV (ci := 5) (q0 := 0) hP hD hK hAN hT hN hS [0, 1] [] (by decide) rfl rfl rfl rfl rfl) rfl rfl hl.1 rfl (lv_room (Nat.le_of_ble_eq_true rfl)) dJx4a65c_add_9ea2d_20 ⟨(Nat.le_of_ble_eq_true rfl), (Nat.le_of_ble_eq_true rfl)⟩) (ws := [(a, .inr (5, [.int (md + 1), .ref ade, .int 0])), (v, .inr (2, [.int iv]))]) (wc := [(a, .inr (5, [.int (md + 1), .ref ade, .int 0])), (v, .inr (2, [.int iv]))]) (wr := []) hP hD hK hS hA [0, 1] [] [] rfl rfl (by decide) (by decide) rfl (fun u2 H locs hw3 hP hD hK hS => ?_)
  obtain ⟨o_1, rfl⟩ : ∃ z_, z_ = u2 := ⟨_, rfl⟩
  have hP : va_P G vwCl [(a, .inr (5, [.int (md + 1), .ref o_1, .int 1]))] H := hP
  have hD : va_D A [(a, .inr (5, [.int (md + 1), .ref o_1, .int 1]))] := hD
  have hK : va_K G vwCl [] s := hK
  refine W.widen (k := 1) (n := 10) (Nat.le_of_ble_eq_true rfl) (Nat.le_of_ble_eq_true rfl) ?_
  refine lv_iconst (v := 1) hx hb dJx4a65c_add_9ea2d_23 (by decide) ?_
  exact ke_i (v := 1) hx hb hr hlocks (by decide +kernel) o_1 (rfl) hP hD hK [0] [] (by decide) rfl rfl hS (Nat.le_of_ble_eq_true rfl) (Nat.le_of_ble_eq_true rfl) dJx4a65c_add_9ea2d_24

set_option maxHeartbeats 4000000 in
set_option maxRecDepth 100000 in
theorem c_add3_air (l : Launch) (G : va_G) (N0 ade : Nat) (adB : Nat → Nat) (sz : Nat) (a : Nat) (md : Int32) (v : Nat) (i0 : Int32) (i1 : Int32) (i2 : Int32) (i3 : Int32) (i4 : Int32) (i5 : Int32) (i6 : Int32) : Met l yJx4a65c_add_72be8 (Cond.code yJx4a65c_add_72be8 cJx4a65c_add_72be8 4 none :: lw_all) ({ frames := 3, cells := 1, slots := 10, locals := 57 }) (va_Pc [.ref a, .ref v, .ref ade, .int 0] (KPre N0 ade adB G [] [(a, .inr (5, [.int md, .ref ade, .int 0])), (v, .inr (18, [.int i0, .int i1, .int i2, .int i3, .int i4, .int i5, .int i6]))] sz)) (va_Qv (fun (u : Nat) => True) (KB G (fun (u : Nat) => [(a, .inr (5, [.int md, .ref u, .int 1]))]) (fun (u : Nat) => []) (va_A [(a, .inr (5, [.int md, .ref ade, .int 0])), (v, .inr (18, [.int i0, .int i1, .int i2, .int i3, .int i4, .int i5, .int i6]))] sz)) (va_A [(a, .inr (5, [.int md, .ref ade, .int 0])), (v, .inr (18, [.int i0, .int i1, .int i2, .int i3, .int i4, .int i5, .int i6]))] sz)) 1 10 (va_A [(a, .inr (5, [.int md, .ref ade, .int 0])), (v, .inr (18, [.int i0, .int i1, .int i2, .int i3, .int i4, .int i5, .int i6]))] sz) := by
  refine K_ofW (Qc := fun A => va_Qv (fun (u : Nat) => True) (KB G (fun (u : Nat) => [(a, .inr (5, [.int md, .ref u, .int 1]))]) (fun (u : Nat) => []) A) A) (by decide) (Nat.le_of_ble_eq_true rfl) rfl (fun p e s m args below meth c hx hb hr hml hown hlocks hin hts A hAN hA H hH hP hD hK hT hN hS ls hl => ?_)
  have hl : lv_has ls 4 [(0, .ref a), (1, .ref v), (2, .ref ade), (3, .int 0)] := hl
  refine lv_iload_n hx hb dJx4a65c_add_72be8_0 rfl (lv_at hl 3 rfl) ?_
  refine lv_aload_n hx hb dJx4a65c_add_72be8_1 rfl (lv_at hl 2 rfl) ?_
  obtain ⟨fE, hTE⟩ := hT.2.2.1.2
  refine va_tlen hx hb (va_T.narrow hTE hAN) hS (v := 0) (by decide) dJx4a65c_add_72be8_2 ?_
  refine lv_icmp_ne (tgt := 11) hx hb dJx4a65c_add_72be8_3 (by decide) (fun h_ => absurd h_ (by decide)) (fun _ => ?_)
  refine lv_aload_n hx hb dJx4a65c_add_72be8_6 rfl (lv_at hl 0 rfl) ?_
  refine ka_r (va_runV (As := []) (rest := []) ⟨hx, hb, hml, hown, hts⟩ (c_grow0 l G N0 ade adB H.size a md) (cwV 0 hts (kgV q796 q797 q15 q52 q798) rfl rfl rfl (by decide +kernel) ⟨(Nat.le_of_ble_eq_true rfl), (Nat.le_of_ble_eq_true rfl)⟩) (kpreV (ci := 5) (q0 := 0) hP hD hK hAN hT hN hS [0] [] (by decide) rfl rfl rfl rfl rfl) rfl rfl hl.1 rfl (lv_room (Nat.le_of_ble_eq_true rfl)) dJx4a65c_add_72be8_7 ⟨(Nat.le_of_ble_eq_true rfl), (Nat.le_of_ble_eq_true rfl)⟩) (ws := [(a, .inr (5, [.int md, .ref ade, .int 0])), (v, .inr (18, [.int i0, .int i1, .int i2, .int i3, .int i4, .int i5, .int i6]))]) (wc := [(a, .inr (5, [.int md, .ref ade, .int 0]))]) (wr := [(v, .inr (18, [.int i0, .int i1, .int i2, .int i3, .int i4, .int i5, .int i6]))]) hP hD hK hS hA [0] [1] [] rfl rfl (by decide) (by decide) rfl (fun u3 H locs hw4 hP hD hK hS => ?_)
  obtain ⟨o_1, a2⟩ := u3
  have hP : va_P G vwCl [(v, .inr (18, [.int i0, .int i1, .int i2, .int i3, .int i4, .int i5, .int i6])), (a, .inr (5, [.int md, .ref o_1, .int 0])), (o_1, .inl (a2, 10, .inr (.inr (.inr (.inr (fun _ => none))))))] H := hP
  have hD : va_D A [(v, .inr (18, [.int i0, .int i1, .int i2, .int i3, .int i4, .int i5, .int i6])), (a, .inr (5, [.int md, .ref o_1, .int 0])), (o_1, .inl (a2, 10, .inr (.inr (.inr (.inr (fun _ => none))))))] := hD
  have hK : va_K G vwCl [(a2, .object "java/lang/Object")] s := hK
  refine W.widen (k := 1) (n := 10) (Nat.le_of_ble_eq_true rfl) (Nat.le_of_ble_eq_true rfl) ?_
  refine lv_astore_n (lv' := [(2, .ref o_1), (0, .ref a), (1, .ref v), (3, .int 0)]) hx hb dJx4a65c_add_72be8_10 rfl hl (by decide) rfl (fun ls hl => ?_)
  refine lv_aload_n hx hb dJx4a65c_add_72be8_11 rfl (lv_at hl 0 rfl) ?_
  refine lv_iload_n hx hb dJx4a65c_add_72be8_12 rfl (lv_at hl 3 rfl) ?_
  refine lv_aload_n hx hb dJx4a65c_add_72be8_13 rfl (lv_at hl 2 rfl) ?_
  refine vb_astq hx hb hK hP hD hS 2 0 (C := "RunwayLoomModel$Aircraft") rfl rfl (ka_cellO hK hP 0 rfl rfl) (fun comp c0 h1_ h2_ => vb_asgC (hT.ca (List.mem_of_getElem? (i := 5) rfl)) comp c0 h1_ h2_) (vin (by decide +kernel)) dJx4a65c_add_72be8_14 (fun H locs hP hD hS => ?_)
  obtain ⟨f5, hf5⟩ : ∃ g_ : Nat → Option Nat, g_ = va_up (fun _ => none) (Int32.toNatClampNeg 0) (some v) := ⟨_, rfl⟩
  have hf5_0 : f5 (Int32.toNatClampNeg 0) = some v := by rw [hf5]; exact va_up_self _ _ _
  have hP : va_P G vwCl [(v, .inr (18, [.int i0, .int i1, .int i2, .int i3, .int i4, .int i5, .int i6])), (a, .inr (5, [.int md, .ref o_1, .int 0])), (o_1, .inl (a2, 10, .inr (.inr (.inr (.inr f5)))))] H := by rw [hf5]; exact hP
  have hD : va_D A [(v, .inr (18, [.int i0, .int i1, .int i2, .int i3, .int i4, .int i5, .int i6])), (a, .inr (5, [.int md, .ref o_1, .int 0])), (o_1, .inl (a2, 10, .inr (.inr (.inr (.inr f5)))))] := by rw [hf5]; exact hD
  clear hf5
  refine lv_aload_n hx hb dJx4a65c_add_72be8_15 rfl (lv_at hl 1 rfl) ?_
  refine lv_iload_n hx hb dJx4a65c_add_72be8_16 rfl (lv_at hl 3 rfl) ?_
  refine lv_iconst (v := 1) hx hb dJx4a65c_add_72be8_17 (by decide) ?_
  refine lv_iadd hx hb dJx4a65c_add_72be8_18 ?_
  refine lv_topi (fun v_ e_ => ?_)
  obtain rfl : v_ = 1 := e_.trans (by decide)
  refine va_put (D := G) (ci := 5) (v := .int 1) (ty := .int) (C := RJx4a65c) (T := TJx4a65c) (N := 3) hx hb hts inJx4a65c tyJx4a65c tyJx4a65c_ok nmJx4a65c hown hK hP hD hS 1 rfl rfl 2 (by decide) (hts _ q730) (fun _ h_ => h_) rfl (by decide +kernel) rfl rfl (Nat.le_of_ble_eq_true rfl) dJx4a65c_add_72be8_19 (fun H locs hP hD hS => ?_)
  have hP : va_P G vwCl [(v, .inr (18, [.int i0, .int i1, .int i2, .int i3, .int i4, .int i5, .int i6])), (a, .inr (5, [.int md, .ref o_1, .int 1])), (o_1, .inl (a2, 10, .inr (.inr (.inr (.inr f5)))))] H := hP
  have hD : va_D A [(v, .inr (18, [.int i0, .int i1, .int i2, .int i3, .int i4, .int i5, .int i6])), (a, .inr (5, [.int md, .ref o_1, .int 1])), (o_1, .inl (a2, 10, .inr (.inr (.inr (.inr f5)))))] := hD
  exact ke_v hx hb hr hlocks o_1 (trivial) hP hD hK [1] [] (by decide) rfl rfl hS (Nat.le_of_ble_eq_true rfl) (Nat.le_of_ble_eq_true rfl) dJx4a65c_add_72be8_22

set_option maxHeartbeats 4000000 in
set_option maxRecDepth 100000 in
theorem c_add1_air (l : Launch) (G : va_G) (N0 ade : Nat) (adB : Nat → Nat) (sz : Nat) (a : Nat) (md : Int32) (v : Nat) (i0 : Int32) (i1 : Int32) (i2 : Int32) (i3 : Int32) (i4 : Int32) (i5 : Int32) (i6 : Int32) : Met l yJx4a65c_add_9ea2d (Cond.code yJx4a65c_add_9ea2d cJx4a65c_add_9ea2d 2 (some FieldType.boolean) :: lw_all) ({ frames := 4, cells := 1, slots := 10, locals := 80 }) (va_Pc [.ref a, .ref v] (KPre N0 ade adB G [] [(a, .inr (5, [.int md, .ref ade, .int 0])), (v, .inr (18, [.int i0, .int i1, .int i2, .int i3, .int i4, .int i5, .int i6]))] sz)) (va_Qi (fun (r : Int32) (u : Nat) => r = 1) (KB G (fun (u : Nat) => [(a, .inr (5, [.int (md + 1), .ref u, .int 1]))]) (fun (u : Nat) => []) (va_A [(a, .inr (5, [.int md, .ref ade, .int 0])), (v, .inr (18, [.int i0, .int i1, .int i2, .int i3, .int i4, .int i5, .int i6]))] sz)) (va_A [(a, .inr (5, [.int md, .ref ade, .int 0])), (v, .inr (18, [.int i0, .int i1, .int i2, .int i3, .int i4, .int i5, .int i6]))] sz)) 1 10 (va_A [(a, .inr (5, [.int md, .ref ade, .int 0])), (v, .inr (18, [.int i0, .int i1, .int i2, .int i3, .int i4, .int i5, .int i6]))] sz) := by
  refine K_ofW (Qc := fun A => va_Qi (fun (r : Int32) (u : Nat) => r = 1) (KB G (fun (u : Nat) => [(a, .inr (5, [.int (md + 1), .ref u, .int 1]))]) (fun (u : Nat) => []) A) A) (by decide) (Nat.le_of_ble_eq_true rfl) rfl (fun p e s m args below meth c hx hb hr hml hown hlocks hin hts A hAN hA H hH hP hD hK hT hN hS ls hl => ?_)
  have hl : lv_has ls 2 [(0, .ref a), (1, .ref v)] := hl
  refine lv_aload_n hx hb dJx4a65c_add_9ea2d_0 rfl (lv_at hl 0 rfl) ?_
  refine lv_dup hx hb dJx4a65c_add_9ea2d_1 rfl ?_
  refine va_get (D := G) (ci := 5) (v := .int md) (C := RJx4a65c) (T := TJx4a65c) (N := 3) hx hb hts inJx4a65c hown hK hP 0 rfl rfl 0 (by decide) (hts _ q734) (fun x_ h_ => u_same (hts _ q733) x_ h_) rfl dJx4a65c_add_9ea2d_2 ?_
  refine lv_iconst (v := 1) hx hb dJx4a65c_add_9ea2d_5 (by decide) ?_
  refine lv_iadd hx hb dJx4a65c_add_9ea2d_6 ?_
  refine va_put (D := G) (ci := 5) (v := .int (md + 1)) (ty := .int) (C := RJx4a65c) (T := TJx4a65c) (N := 3) hx hb hts inJx4a65c tyJx4a65c tyJx4a65c_ok nmJx4a65c hown hK hP hD hS 0 rfl rfl 0 (by decide) (hts _ q734) (fun x_ h_ => u_same (hts _ q733) x_ h_) rfl (by decide +kernel) rfl rfl (Nat.le_of_ble_eq_true rfl) dJx4a65c_add_9ea2d_7 (fun H locs hP hD hS => ?_)
  have hP : va_P G vwCl [(a, .inr (5, [.int (md + 1), .ref ade, .int 0])), (v, .inr (18, [.int i0, .int i1, .int i2, .int i3, .int i4, .int i5, .int i6]))] H := hP
  have hD : va_D A [(a, .inr (5, [.int (md + 1), .ref ade, .int 0])), (v, .inr (18, [.int i0, .int i1, .int i2, .int i3, .int i4, .int i5, .int i6]))] := hD
  refine lv_aload_n hx hb dJx4a65c_add_9ea2d_10 rfl (lv_at hl 0 rfl) ?_
  refine lv_aload_n hx hb dJx4a65c_add_9ea2d_11 rfl (lv_at hl 1 rfl) ?_
  refine lv_aload_n hx hb dJx4a65c_add_9ea2d_12 rfl (lv_at hl 0 rfl) ?_
  refine va_get (D := G) (ci := 5) (v := .ref ade) (C := RJx4a65c) (T := TJx4a65c) (N := 3) hx hb hts inJx4a65c hown hK hP 0 rfl rfl 1 (by decide) (hts _ q729) (fun _ h_ => h_) rfl dJx4a65c_add_9ea2d_13 ?_
  refine lv_aload_n hx hb dJx4a65c_add_9ea2d_16 rfl (lv_at hl 0 rfl) ?_
  refine va_get (D := G) (ci := 5) (v := .int 0) (C := RJx4a65c) (T := TJx4a65c) (N := 3) hx hb hts inJx4a65c hown hK hP 0 rfl rfl 2 (by decide) (hts _ q730) (fun _ h_ => h_) rfl dJx4a65c_add_9ea2d_17 ?_
  refine ka_v (va_runV (As := [.ref v, .ref ade, .int 0]) (rest := []) ⟨hx, hb, hml, hown, hts⟩ (c_add3_air l G N0 ade adB H.size a (md + 1) v i0 i1 i2 i3 i4 i5 i6) (cwV 3 hts (kgV q793 q794 q14 q52 q795) rfl rfl rfl (by decide +kernel) ⟨(Nat.le_of_ble_eq_true rfl), (Nat.le_of_ble_eq_true rfl)⟩) (kpreV (ci := 5) (q0 := 0) hP hD hK hAN hT hN hS [0, 1] [] (by decide) rfl rfl rfl rfl rfl) rfl rfl hl.1 rfl (lv_room (Nat.le_of_ble_eq_true rfl)) dJx4a65c_add_9ea2d_20 ⟨(Nat.le_of_ble_eq_true rfl), (Nat.le_of_ble_eq_true rfl)⟩) (ws := [(a, .inr (5, [.int (md + 1), .ref ade, .int 0])), (v, .inr (18, [.int i0, .int i1, .int i2, .int i3, .int i4, .int i5, .int i6]))]) (wc := [(a, .inr (5, [.int (md + 1), .ref ade, .int 0])), (v, .inr (18, [.int i0, .int i1, .int i2, .int i3, .int i4, .int i5, .int i6]))]) (wr := []) hP hD hK hS hA [0, 1] [] [] rfl rfl (by decide) (by decide) rfl (fun u2 H locs hw3 hP hD hK hS => ?_)
  obtain ⟨o_1, rfl⟩ : ∃ z_, z_ = u2 := ⟨_, rfl⟩
  have hP : va_P G vwCl [(a, .inr (5, [.int (md + 1), .ref o_1, .int 1]))] H := hP
  have hD : va_D A [(a, .inr (5, [.int (md + 1), .ref o_1, .int 1]))] := hD
  have hK : va_K G vwCl [] s := hK
  refine W.widen (k := 1) (n := 10) (Nat.le_of_ble_eq_true rfl) (Nat.le_of_ble_eq_true rfl) ?_
  refine lv_iconst (v := 1) hx hb dJx4a65c_add_9ea2d_23 (by decide) ?_
  exact ke_i (v := 1) hx hb hr hlocks (by decide +kernel) o_1 (rfl) hP hD hK [0] [] (by decide) rfl rfl hS (Nat.le_of_ble_eq_true rfl) (Nat.le_of_ble_eq_true rfl) dJx4a65c_add_9ea2d_24

set_option maxHeartbeats 4000000 in
set_option maxRecDepth 100000 in
theorem c_add3_crew (l : Launch) (G : va_G) (N0 ade : Nat) (adB : Nat → Nat) (sz : Nat) (a : Nat) (md : Int32) (v : Nat) (i0 : Int32) (i1 : Int32) (i2 : Int32) (i3 : Int32) : Met l yJx4a65c_add_72be8 (Cond.code yJx4a65c_add_72be8 cJx4a65c_add_72be8 4 none :: lw_all) ({ frames := 3, cells := 1, slots := 10, locals := 57 }) (va_Pc [.ref a, .ref v, .ref ade, .int 0] (KPre N0 ade adB G [] [(a, .inr (5, [.int md, .ref ade, .int 0])), (v, .inr (20, [.int i0, .int i1, .int i2, .int i3]))] sz)) (va_Qv (fun (u : Nat) => True) (KB G (fun (u : Nat) => [(a, .inr (5, [.int md, .ref u, .int 1]))]) (fun (u : Nat) => []) (va_A [(a, .inr (5, [.int md, .ref ade, .int 0])), (v, .inr (20, [.int i0, .int i1, .int i2, .int i3]))] sz)) (va_A [(a, .inr (5, [.int md, .ref ade, .int 0])), (v, .inr (20, [.int i0, .int i1, .int i2, .int i3]))] sz)) 1 10 (va_A [(a, .inr (5, [.int md, .ref ade, .int 0])), (v, .inr (20, [.int i0, .int i1, .int i2, .int i3]))] sz) := by
  refine K_ofW (Qc := fun A => va_Qv (fun (u : Nat) => True) (KB G (fun (u : Nat) => [(a, .inr (5, [.int md, .ref u, .int 1]))]) (fun (u : Nat) => []) A) A) (by decide) (Nat.le_of_ble_eq_true rfl) rfl (fun p e s m args below meth c hx hb hr hml hown hlocks hin hts A hAN hA H hH hP hD hK hT hN hS ls hl => ?_)
  have hl : lv_has ls 4 [(0, .ref a), (1, .ref v), (2, .ref ade), (3, .int 0)] := hl
  refine lv_iload_n hx hb dJx4a65c_add_72be8_0 rfl (lv_at hl 3 rfl) ?_
  refine lv_aload_n hx hb dJx4a65c_add_72be8_1 rfl (lv_at hl 2 rfl) ?_
  obtain ⟨fE, hTE⟩ := hT.2.2.1.2
  refine va_tlen hx hb (va_T.narrow hTE hAN) hS (v := 0) (by decide) dJx4a65c_add_72be8_2 ?_
  refine lv_icmp_ne (tgt := 11) hx hb dJx4a65c_add_72be8_3 (by decide) (fun h_ => absurd h_ (by decide)) (fun _ => ?_)
  refine lv_aload_n hx hb dJx4a65c_add_72be8_6 rfl (lv_at hl 0 rfl) ?_
  refine ka_r (va_runV (As := []) (rest := []) ⟨hx, hb, hml, hown, hts⟩ (c_grow0 l G N0 ade adB H.size a md) (cwV 0 hts (kgV q796 q797 q15 q52 q798) rfl rfl rfl (by decide +kernel) ⟨(Nat.le_of_ble_eq_true rfl), (Nat.le_of_ble_eq_true rfl)⟩) (kpreV (ci := 5) (q0 := 0) hP hD hK hAN hT hN hS [0] [] (by decide) rfl rfl rfl rfl rfl) rfl rfl hl.1 rfl (lv_room (Nat.le_of_ble_eq_true rfl)) dJx4a65c_add_72be8_7 ⟨(Nat.le_of_ble_eq_true rfl), (Nat.le_of_ble_eq_true rfl)⟩) (ws := [(a, .inr (5, [.int md, .ref ade, .int 0])), (v, .inr (20, [.int i0, .int i1, .int i2, .int i3]))]) (wc := [(a, .inr (5, [.int md, .ref ade, .int 0]))]) (wr := [(v, .inr (20, [.int i0, .int i1, .int i2, .int i3]))]) hP hD hK hS hA [0] [1] [] rfl rfl (by decide) (by decide) rfl (fun u3 H locs hw4 hP hD hK hS => ?_)
  obtain ⟨o_1, a2⟩ := u3
  have hP : va_P G vwCl [(v, .inr (20, [.int i0, .int i1, .int i2, .int i3])), (a, .inr (5, [.int md, .ref o_1, .int 0])), (o_1, .inl (a2, 10, .inr (.inr (.inr (.inr (fun _ => none))))))] H := hP
  have hD : va_D A [(v, .inr (20, [.int i0, .int i1, .int i2, .int i3])), (a, .inr (5, [.int md, .ref o_1, .int 0])), (o_1, .inl (a2, 10, .inr (.inr (.inr (.inr (fun _ => none))))))] := hD
  have hK : va_K G vwCl [(a2, .object "java/lang/Object")] s := hK
  refine W.widen (k := 1) (n := 10) (Nat.le_of_ble_eq_true rfl) (Nat.le_of_ble_eq_true rfl) ?_
  refine lv_astore_n (lv' := [(2, .ref o_1), (0, .ref a), (1, .ref v), (3, .int 0)]) hx hb dJx4a65c_add_72be8_10 rfl hl (by decide) rfl (fun ls hl => ?_)
  refine lv_aload_n hx hb dJx4a65c_add_72be8_11 rfl (lv_at hl 0 rfl) ?_
  refine lv_iload_n hx hb dJx4a65c_add_72be8_12 rfl (lv_at hl 3 rfl) ?_
  refine lv_aload_n hx hb dJx4a65c_add_72be8_13 rfl (lv_at hl 2 rfl) ?_
  refine vb_astq hx hb hK hP hD hS 2 0 (C := "RunwayLoomModel$Crew") rfl rfl (ka_cellO hK hP 0 rfl rfl) (fun comp c0 h1_ h2_ => vb_asgC (hT.ca (List.mem_of_getElem? (i := 6) rfl)) comp c0 h1_ h2_) (vin (by decide +kernel)) dJx4a65c_add_72be8_14 (fun H locs hP hD hS => ?_)
  obtain ⟨f5, hf5⟩ : ∃ g_ : Nat → Option Nat, g_ = va_up (fun _ => none) (Int32.toNatClampNeg 0) (some v) := ⟨_, rfl⟩
  have hf5_0 : f5 (Int32.toNatClampNeg 0) = some v := by rw [hf5]; exact va_up_self _ _ _
  have hP : va_P G vwCl [(v, .inr (20, [.int i0, .int i1, .int i2, .int i3])), (a, .inr (5, [.int md, .ref o_1, .int 0])), (o_1, .inl (a2, 10, .inr (.inr (.inr (.inr f5)))))] H := by rw [hf5]; exact hP
  have hD : va_D A [(v, .inr (20, [.int i0, .int i1, .int i2, .int i3])), (a, .inr (5, [.int md, .ref o_1, .int 0])), (o_1, .inl (a2, 10, .inr (.inr (.inr (.inr f5)))))] := by rw [hf5]; exact hD
  clear hf5
  refine lv_aload_n hx hb dJx4a65c_add_72be8_15 rfl (lv_at hl 1 rfl) ?_
  refine lv_iload_n hx hb dJx4a65c_add_72be8_16 rfl (lv_at hl 3 rfl) ?_
  refine lv_iconst (v := 1) hx hb dJx4a65c_add_72be8_17 (by decide) ?_
  refine lv_iadd hx hb dJx4a65c_add_72be8_18 ?_
  refine lv_topi (fun v_ e_ => ?_)
  obtain rfl : v_ = 1 := e_.trans (by decide)
  refine va_put (D := G) (ci := 5) (v := .int 1) (ty := .int) (C := RJx4a65c) (T := TJx4a65c) (N := 3) hx hb hts inJx4a65c tyJx4a65c tyJx4a65c_ok nmJx4a65c hown hK hP hD hS 1 rfl rfl 2 (by decide) (hts _ q730) (fun _ h_ => h_) rfl (by decide +kernel) rfl rfl (Nat.le_of_ble_eq_true rfl) dJx4a65c_add_72be8_19 (fun H locs hP hD hS => ?_)
  have hP : va_P G vwCl [(v, .inr (20, [.int i0, .int i1, .int i2, .int i3])), (a, .inr (5, [.int md, .ref o_1, .int 1])), (o_1, .inl (a2, 10, .inr (.inr (.inr (.inr f5)))))] H := hP
  have hD : va_D A [(v, .inr (20, [.int i0, .int i1, .int i2, .int i3])), (a, .inr (5, [.int md, .ref o_1, .int 1])), (o_1, .inl (a2, 10, .inr (.inr (.inr (.inr f5)))))] := hD
  exact ke_v hx hb hr hlocks o_1 (trivial) hP hD hK [1] [] (by decide) rfl rfl hS (Nat.le_of_ble_eq_true rfl) (Nat.le_of_ble_eq_true rfl) dJx4a65c_add_72be8_22

set_option maxHeartbeats 4000000 in
set_option maxRecDepth 100000 in
theorem c_add1_crew (l : Launch) (G : va_G) (N0 ade : Nat) (adB : Nat → Nat) (sz : Nat) (a : Nat) (md : Int32) (v : Nat) (i0 : Int32) (i1 : Int32) (i2 : Int32) (i3 : Int32) : Met l yJx4a65c_add_9ea2d (Cond.code yJx4a65c_add_9ea2d cJx4a65c_add_9ea2d 2 (some FieldType.boolean) :: lw_all) ({ frames := 4, cells := 1, slots := 10, locals := 80 }) (va_Pc [.ref a, .ref v] (KPre N0 ade adB G [] [(a, .inr (5, [.int md, .ref ade, .int 0])), (v, .inr (20, [.int i0, .int i1, .int i2, .int i3]))] sz)) (va_Qi (fun (r : Int32) (u : Nat) => r = 1) (KB G (fun (u : Nat) => [(a, .inr (5, [.int (md + 1), .ref u, .int 1]))]) (fun (u : Nat) => []) (va_A [(a, .inr (5, [.int md, .ref ade, .int 0])), (v, .inr (20, [.int i0, .int i1, .int i2, .int i3]))] sz)) (va_A [(a, .inr (5, [.int md, .ref ade, .int 0])), (v, .inr (20, [.int i0, .int i1, .int i2, .int i3]))] sz)) 1 10 (va_A [(a, .inr (5, [.int md, .ref ade, .int 0])), (v, .inr (20, [.int i0, .int i1, .int i2, .int i3]))] sz) := by
  refine K_ofW (Qc := fun A => va_Qi (fun (r : Int32) (u : Nat) => r = 1) (KB G (fun (u : Nat) => [(a, .inr (5, [.int (md + 1), .ref u, .int 1]))]) (fun (u : Nat) => []) A) A) (by decide) (Nat.le_of_ble_eq_true rfl) rfl (fun p e s m args below meth c hx hb hr hml hown hlocks hin hts A hAN hA H hH hP hD hK hT hN hS ls hl => ?_)
  have hl : lv_has ls 2 [(0, .ref a), (1, .ref v)] := hl
  refine lv_aload_n hx hb dJx4a65c_add_9ea2d_0 rfl (lv_at hl 0 rfl) ?_
  refine lv_dup hx hb dJx4a65c_add_9ea2d_1 rfl ?_
  refine va_get (D := G) (ci := 5) (v := .int md) (C := RJx4a65c) (T := TJx4a65c) (N := 3) hx hb hts inJx4a65c hown hK hP 0 rfl rfl 0 (by decide) (hts _ q734) (fun x_ h_ => u_same (hts _ q733) x_ h_) rfl dJx4a65c_add_9ea2d_2 ?_
  refine lv_iconst (v := 1) hx hb dJx4a65c_add_9ea2d_5 (by decide) ?_
  refine lv_iadd hx hb dJx4a65c_add_9ea2d_6 ?_
  refine va_put (D := G) (ci := 5) (v := .int (md + 1)) (ty := .int) (C := RJx4a65c) (T := TJx4a65c) (N := 3) hx hb hts inJx4a65c tyJx4a65c tyJx4a65c_ok nmJx4a65c hown hK hP hD hS 0 rfl rfl 0 (by decide) (hts _ q734) (fun x_ h_ => u_same (hts _ q733) x_ h_) rfl (by decide +kernel) rfl rfl (Nat.le_of_ble_eq_true rfl) dJx4a65c_add_9ea2d_7 (fun H locs hP hD hS => ?_)
  have hP : va_P G vwCl [(a, .inr (5, [.int (md + 1), .ref ade, .int 0])), (v, .inr (20, [.int i0, .int i1, .int i2, .int i3]))] H := hP
  have hD : va_D A [(a, .inr (5, [.int (md + 1), .ref ade, .int 0])), (v, .inr (20, [.int i0, .int i1, .int i2, .int i3]))] := hD
  refine lv_aload_n hx hb dJx4a65c_add_9ea2d_10 rfl (lv_at hl 0 rfl) ?_
  refine lv_aload_n hx hb dJx4a65c_add_9ea2d_11 rfl (lv_at hl 1 rfl) ?_
  refine lv_aload_n hx hb dJx4a65c_add_9ea2d_12 rfl (lv_at hl 0 rfl) ?_
  refine va_get (D := G) (ci := 5) (v := .ref ade) (C := RJx4a65c) (T := TJx4a65c) (N := 3) hx hb hts inJx4a65c hown hK hP 0 rfl rfl 1 (by decide) (hts _ q729) (fun _ h_ => h_) rfl dJx4a65c_add_9ea2d_13 ?_
  refine lv_aload_n hx hb dJx4a65c_add_9ea2d_16 rfl (lv_at hl 0 rfl) ?_
  refine va_get (D := G) (ci := 5) (v := .int 0) (C := RJx4a65c) (T := TJx4a65c) (N := 3) hx hb hts inJx4a65c hown hK hP 0 rfl rfl 2 (by decide) (hts _ q730) (fun _ h_ => h_) rfl dJx4a65c_add_9ea2d_17 ?_
  refine ka_v (va_runV (As := [.ref v, .ref ade, .int 0]) (rest := []) ⟨hx, hb, hml, hown, hts⟩ (c_add3_crew l G N0 ade adB H.size a (md + 1) v i0 i1 i2 i3) (cwV 3 hts (kgV q793 q794 q14 q52 q795) rfl rfl rfl (by decide +kernel) ⟨(Nat.le_of_ble_eq_true rfl), (Nat.le_of_ble_eq_true rfl)⟩) (kpreV (ci := 5) (q0 := 0) hP hD hK hAN hT hN hS [0, 1] [] (by decide) rfl rfl rfl rfl rfl) rfl rfl hl.1 rfl (lv_room (Nat.le_of_ble_eq_true rfl)) dJx4a65c_add_9ea2d_20 ⟨(Nat.le_of_ble_eq_true rfl), (Nat.le_of_ble_eq_true rfl)⟩) (ws := [(a, .inr (5, [.int (md + 1), .ref ade, .int 0])), (v, .inr (20, [.int i0, .int i1, .int i2, .int i3]))]) (wc := [(a, .inr (5, [.int (md + 1), .ref ade, .int 0])), (v, .inr (20, [.int i0, .int i1, .int i2, .int i3]))]) (wr := []) hP hD hK hS hA [0, 1] [] [] rfl rfl (by decide) (by decide) rfl (fun u2 H locs hw3 hP hD hK hS => ?_)
  obtain ⟨o_1, rfl⟩ : ∃ z_, z_ = u2 := ⟨_, rfl⟩
  have hP : va_P G vwCl [(a, .inr (5, [.int (md + 1), .ref o_1, .int 1]))] H := hP
  have hD : va_D A [(a, .inr (5, [.int (md + 1), .ref o_1, .int 1]))] := hD
  have hK : va_K G vwCl [] s := hK
  refine W.widen (k := 1) (n := 10) (Nat.le_of_ble_eq_true rfl) (Nat.le_of_ble_eq_true rfl) ?_
  refine lv_iconst (v := 1) hx hb dJx4a65c_add_9ea2d_23 (by decide) ?_
  exact ke_i (v := 1) hx hb hr hlocks (by decide +kernel) o_1 (rfl) hP hD hK [0] [] (by decide) rfl rfl hS (Nat.le_of_ble_eq_true rfl) (Nat.le_of_ble_eq_true rfl) dJx4a65c_add_9ea2d_24

set_option maxHeartbeats 4000000 in
set_option maxRecDepth 100000 in
theorem c_add3_ints (l : Launch) (G : va_G) (N0 ade : Nat) (adB : Nat → Nat) (sz : Nat) (a : Nat) (md : Int32) (v : Nat) (av : ClassId) (fv : Nat → Int32) : Met l yJx4a65c_add_72be8 (Cond.code yJx4a65c_add_72be8 cJx4a65c_add_72be8 4 none :: lw_all) ({ frames := 3, cells := 1, slots := 10, locals := 57 }) (va_Pc [.ref a, .ref v, .ref ade, .int 0] (KPre N0 ade adB G [(av, .int)] [(a, .inr (5, [.int md, .ref ade, .int 0])), (v, .inl (av, 2, .inl fv))] sz)) (va_Qv (fun (u : Nat) => True) (KB G (fun (u : Nat) => [(a, .inr (5, [.int md, .ref u, .int 1]))]) (fun (u : Nat) => []) (va_A [(a, .inr (5, [.int md, .ref ade, .int 0])), (v, .inl (av, 2, .inl fv))] sz)) (va_A [(a, .inr (5, [.int md, .ref ade, .int 0])), (v, .inl (av, 2, .inl fv))] sz)) 1 10 (va_A [(a, .inr (5, [.int md, .ref ade, .int 0])), (v, .inl (av, 2, .inl fv))] sz) := by
  refine K_ofW (Qc := fun A => va_Qv (fun (u : Nat) => True) (KB G (fun (u : Nat) => [(a, .inr (5, [.int md, .ref u, .int 1]))]) (fun (u : Nat) => []) A) A) (by decide) (Nat.le_of_ble_eq_true rfl) rfl (fun p e s m args below meth c hx hb hr hml hown hlocks hin hts A hAN hA H hH hP hD hK hT hN hS ls hl => ?_)
  have hl : lv_has ls 4 [(0, .ref a), (1, .ref v), (2, .ref ade), (3, .int 0)] := hl
  refine lv_iload_n hx hb dJx4a65c_add_72be8_0 rfl (lv_at hl 3 rfl) ?_
  refine lv_aload_n hx hb dJx4a65c_add_72be8_1 rfl (lv_at hl 2 rfl) ?_
  obtain ⟨fE, hTE⟩ := hT.2.2.1.2
  refine va_tlen hx hb (va_T.narrow hTE hAN) hS (v := 0) (by decide) dJx4a65c_add_72be8_2 ?_
  refine lv_icmp_ne (tgt := 11) hx hb dJx4a65c_add_72be8_3 (by decide) (fun h_ => absurd h_ (by decide)) (fun _ => ?_)
  refine lv_aload_n hx hb dJx4a65c_add_72be8_6 rfl (lv_at hl 0 rfl) ?_
  refine ka_r (va_runV (As := []) (rest := []) ⟨hx, hb, hml, hown, hts⟩ (c_grow0 l G N0 ade adB H.size a md) (cwV 0 hts (kgV q796 q797 q15 q52 q798) rfl rfl rfl (by decide +kernel) ⟨(Nat.le_of_ble_eq_true rfl), (Nat.le_of_ble_eq_true rfl)⟩) (kpreV (ci := 5) (q0 := 0) hP hD hK hAN hT hN hS [0] [] (by decide) rfl rfl rfl rfl rfl) rfl rfl hl.1 rfl (lv_room (Nat.le_of_ble_eq_true rfl)) dJx4a65c_add_72be8_7 ⟨(Nat.le_of_ble_eq_true rfl), (Nat.le_of_ble_eq_true rfl)⟩) (ws := [(a, .inr (5, [.int md, .ref ade, .int 0])), (v, .inl (av, 2, .inl fv))]) (wc := [(a, .inr (5, [.int md, .ref ade, .int 0]))]) (wr := [(v, .inl (av, 2, .inl fv))]) hP hD hK hS hA [0] [1] [0] rfl rfl (by decide) (by decide) rfl (fun u3 H locs hw4 hP hD hK hS => ?_)
  obtain ⟨o_1, a2⟩ := u3
  have hP : va_P G vwCl [(v, .inl (av, 2, .inl fv)), (a, .inr (5, [.int md, .ref o_1, .int 0])), (o_1, .inl (a2, 10, .inr (.inr (.inr (.inr (fun _ => none))))))] H := hP
  have hD : va_D A [(v, .inl (av, 2, .inl fv)), (a, .inr (5, [.int md, .ref o_1, .int 0])), (o_1, .inl (a2, 10, .inr (.inr (.inr (.inr (fun _ => none))))))] := hD
  have hK : va_K G vwCl [(av, .int), (a2, .object "java/lang/Object")] s := hK
  refine W.widen (k := 1) (n := 10) (Nat.le_of_ble_eq_true rfl) (Nat.le_of_ble_eq_true rfl) ?_
  refine lv_astore_n (lv' := [(2, .ref o_1), (0, .ref a), (1, .ref v), (3, .int 0)]) hx hb dJx4a65c_add_72be8_10 rfl hl (by decide) rfl (fun ls hl => ?_)
  refine lv_aload_n hx hb dJx4a65c_add_72be8_11 rfl (lv_at hl 0 rfl) ?_
  refine lv_iload_n hx hb dJx4a65c_add_72be8_12 rfl (lv_at hl 3 rfl) ?_
  refine lv_aload_n hx hb dJx4a65c_add_72be8_13 rfl (lv_at hl 2 rfl) ?_
  refine vb_astq hx hb hK hP hD hS 2 1 (C := "[I") rfl rfl (ka_cellA hK hP 0 0 rfl rfl) (fun comp c0 h1_ h2_ => vb_asgC (hT.ca (List.mem_of_getElem? (i := 7) rfl)) comp c0 h1_ h2_) (vin (by decide +kernel)) dJx4a65c_add_72be8_14 (fun H locs hP hD hS => ?_)
  obtain ⟨f5, hf5⟩ : ∃ g_ : Nat → Option Nat, g_ = va_up (fun _ => none) (Int32.toNatClampNeg 0) (some v) := ⟨_, rfl⟩
  have hf5_0 : f5 (Int32.toNatClampNeg 0) = some v := by rw [hf5]; exact va_up_self _ _ _
  have hP : va_P G vwCl [(v, .inl (av, 2, .inl fv)), (a, .inr (5, [.int md, .ref o_1, .int 0])), (o_1, .inl (a2, 10, .inr (.inr (.inr (.inr f5)))))] H := by rw [hf5]; exact hP
  have hD : va_D A [(v, .inl (av, 2, .inl fv)), (a, .inr (5, [.int md, .ref o_1, .int 0])), (o_1, .inl (a2, 10, .inr (.inr (.inr (.inr f5)))))] := by rw [hf5]; exact hD
  clear hf5
  refine lv_aload_n hx hb dJx4a65c_add_72be8_15 rfl (lv_at hl 1 rfl) ?_
  refine lv_iload_n hx hb dJx4a65c_add_72be8_16 rfl (lv_at hl 3 rfl) ?_
  refine lv_iconst (v := 1) hx hb dJx4a65c_add_72be8_17 (by decide) ?_
  refine lv_iadd hx hb dJx4a65c_add_72be8_18 ?_
  refine lv_topi (fun v_ e_ => ?_)
  obtain rfl : v_ = 1 := e_.trans (by decide)
  refine va_put (D := G) (ci := 5) (v := .int 1) (ty := .int) (C := RJx4a65c) (T := TJx4a65c) (N := 3) hx hb hts inJx4a65c tyJx4a65c tyJx4a65c_ok nmJx4a65c hown hK hP hD hS 1 rfl rfl 2 (by decide) (hts _ q730) (fun _ h_ => h_) rfl (by decide +kernel) rfl rfl (Nat.le_of_ble_eq_true rfl) dJx4a65c_add_72be8_19 (fun H locs hP hD hS => ?_)
  have hP : va_P G vwCl [(v, .inl (av, 2, .inl fv)), (a, .inr (5, [.int md, .ref o_1, .int 1])), (o_1, .inl (a2, 10, .inr (.inr (.inr (.inr f5)))))] H := hP
  have hD : va_D A [(v, .inl (av, 2, .inl fv)), (a, .inr (5, [.int md, .ref o_1, .int 1])), (o_1, .inl (a2, 10, .inr (.inr (.inr (.inr f5)))))] := hD
  exact ke_v hx hb hr hlocks o_1 (trivial) hP hD hK [1] [] (by decide) rfl rfl hS (Nat.le_of_ble_eq_true rfl) (Nat.le_of_ble_eq_true rfl) dJx4a65c_add_72be8_22

set_option maxHeartbeats 4000000 in
set_option maxRecDepth 100000 in
theorem c_add1_ints (l : Launch) (G : va_G) (N0 ade : Nat) (adB : Nat → Nat) (sz : Nat) (a : Nat) (md : Int32) (v : Nat) (av : ClassId) (fv : Nat → Int32) : Met l yJx4a65c_add_9ea2d (Cond.code yJx4a65c_add_9ea2d cJx4a65c_add_9ea2d 2 (some FieldType.boolean) :: lw_all) ({ frames := 4, cells := 1, slots := 10, locals := 80 }) (va_Pc [.ref a, .ref v] (KPre N0 ade adB G [(av, .int)] [(a, .inr (5, [.int md, .ref ade, .int 0])), (v, .inl (av, 2, .inl fv))] sz)) (va_Qi (fun (r : Int32) (u : Nat) => r = 1) (KB G (fun (u : Nat) => [(a, .inr (5, [.int (md + 1), .ref u, .int 1]))]) (fun (u : Nat) => []) (va_A [(a, .inr (5, [.int md, .ref ade, .int 0])), (v, .inl (av, 2, .inl fv))] sz)) (va_A [(a, .inr (5, [.int md, .ref ade, .int 0])), (v, .inl (av, 2, .inl fv))] sz)) 1 10 (va_A [(a, .inr (5, [.int md, .ref ade, .int 0])), (v, .inl (av, 2, .inl fv))] sz) := by
  refine K_ofW (Qc := fun A => va_Qi (fun (r : Int32) (u : Nat) => r = 1) (KB G (fun (u : Nat) => [(a, .inr (5, [.int (md + 1), .ref u, .int 1]))]) (fun (u : Nat) => []) A) A) (by decide) (Nat.le_of_ble_eq_true rfl) rfl (fun p e s m args below meth c hx hb hr hml hown hlocks hin hts A hAN hA H hH hP hD hK hT hN hS ls hl => ?_)
  have hl : lv_has ls 2 [(0, .ref a), (1, .ref v)] := hl
  refine lv_aload_n hx hb dJx4a65c_add_9ea2d_0 rfl (lv_at hl 0 rfl) ?_
  refine lv_dup hx hb dJx4a65c_add_9ea2d_1 rfl ?_
  refine va_get (D := G) (ci := 5) (v := .int md) (C := RJx4a65c) (T := TJx4a65c) (N := 3) hx hb hts inJx4a65c hown hK hP 0 rfl rfl 0 (by decide) (hts _ q734) (fun x_ h_ => u_same (hts _ q733) x_ h_) rfl dJx4a65c_add_9ea2d_2 ?_
  refine lv_iconst (v := 1) hx hb dJx4a65c_add_9ea2d_5 (by decide) ?_
  refine lv_iadd hx hb dJx4a65c_add_9ea2d_6 ?_
  refine va_put (D := G) (ci := 5) (v := .int (md + 1)) (ty := .int) (C := RJx4a65c) (T := TJx4a65c) (N := 3) hx hb hts inJx4a65c tyJx4a65c tyJx4a65c_ok nmJx4a65c hown hK hP hD hS 0 rfl rfl 0 (by decide) (hts _ q734) (fun x_ h_ => u_same (hts _ q733) x_ h_) rfl (by decide +kernel) rfl rfl (Nat.le_of_ble_eq_true rfl) dJx4a65c_add_9ea2d_7 (fun H locs hP hD hS => ?_)
  have hP : va_P G vwCl [(a, .inr (5, [.int (md + 1), .ref ade, .int 0])), (v, .inl (av, 2, .inl fv))] H := hP
  have hD : va_D A [(a, .inr (5, [.int (md + 1), .ref ade, .int 0])), (v, .inl (av, 2, .inl fv))] := hD
  refine lv_aload_n hx hb dJx4a65c_add_9ea2d_10 rfl (lv_at hl 0 rfl) ?_
  refine lv_aload_n hx hb dJx4a65c_add_9ea2d_11 rfl (lv_at hl 1 rfl) ?_
  refine lv_aload_n hx hb dJx4a65c_add_9ea2d_12 rfl (lv_at hl 0 rfl) ?_
  refine va_get (D := G) (ci := 5) (v := .ref ade) (C := RJx4a65c) (T := TJx4a65c) (N := 3) hx hb hts inJx4a65c hown hK hP 0 rfl rfl 1 (by decide) (hts _ q729) (fun _ h_ => h_) rfl dJx4a65c_add_9ea2d_13 ?_
  refine lv_aload_n hx hb dJx4a65c_add_9ea2d_16 rfl (lv_at hl 0 rfl) ?_
  refine va_get (D := G) (ci := 5) (v := .int 0) (C := RJx4a65c) (T := TJx4a65c) (N := 3) hx hb hts inJx4a65c hown hK hP 0 rfl rfl 2 (by decide) (hts _ q730) (fun _ h_ => h_) rfl dJx4a65c_add_9ea2d_17 ?_
  refine ka_v (va_runV (As := [.ref v, .ref ade, .int 0]) (rest := []) ⟨hx, hb, hml, hown, hts⟩ (c_add3_ints l G N0 ade adB H.size a (md + 1) v av fv) (cwV 3 hts (kgV q793 q794 q14 q52 q795) rfl rfl rfl (by decide +kernel) ⟨(Nat.le_of_ble_eq_true rfl), (Nat.le_of_ble_eq_true rfl)⟩) (kpreV (ci := 5) (q0 := 0) hP hD hK hAN hT hN hS [0, 1] [0] (by decide) rfl rfl rfl rfl rfl) rfl rfl hl.1 rfl (lv_room (Nat.le_of_ble_eq_true rfl)) dJx4a65c_add_9ea2d_20 ⟨(Nat.le_of_ble_eq_true rfl), (Nat.le_of_ble_eq_true rfl)⟩) (ws := [(a, .inr (5, [.int (md + 1), .ref ade, .int 0])), (v, .inl (av, 2, .inl fv))]) (wc := [(a, .inr (5, [.int (md + 1), .ref ade, .int 0])), (v, .inl (av, 2, .inl fv))]) (wr := []) hP hD hK hS hA [0, 1] [] [] rfl rfl (by decide) (by decide) rfl (fun u2 H locs hw3 hP hD hK hS => ?_)
  obtain ⟨o_1, rfl⟩ : ∃ z_, z_ = u2 := ⟨_, rfl⟩
  have hP : va_P G vwCl [(a, .inr (5, [.int (md + 1), .ref o_1, .int 1]))] H := hP
  have hD : va_D A [(a, .inr (5, [.int (md + 1), .ref o_1, .int 1]))] := hD
  have hK : va_K G vwCl [] s := hK
  refine W.widen (k := 1) (n := 10) (Nat.le_of_ble_eq_true rfl) (Nat.le_of_ble_eq_true rfl) ?_
  refine lv_iconst (v := 1) hx hb dJx4a65c_add_9ea2d_23 (by decide) ?_
  exact ke_i (v := 1) hx hb hr hlocks (by decide +kernel) o_1 (rfl) hP hD hK [0] [] (by decide) rfl rfl hS (Nat.le_of_ble_eq_true rfl) (Nat.le_of_ble_eq_true rfl) dJx4a65c_add_9ea2d_24

set_option maxHeartbeats 4000000 in
set_option maxRecDepth 100000 in
theorem c_add3_cached (l : Launch) (G : va_G) (N0 ade : Nat) (adB : Nat → Nat) (sz : Nat) (a : Nat) (md : Int32) (v : Nat) (hkc : ∃ k : Nat, k < 256 ∧ v = adB k) : Met l yJx4a65c_add_72be8 (Cond.code yJx4a65c_add_72be8 cJx4a65c_add_72be8 4 none :: lw_all) ({ frames := 3, cells := 1, slots := 10, locals := 57 }) (va_Pc [.ref a, .ref v, .ref ade, .int 0] (KPre N0 ade adB G [] [(a, .inr (5, [.int md, .ref ade, .int 0]))] sz)) (va_Qv (fun (u : Nat) => True) (KB G (fun (u : Nat) => [(a, .inr (5, [.int md, .ref u, .int 1]))]) (fun (u : Nat) => []) (va_A [(a, .inr (5, [.int md, .ref ade, .int 0]))] sz)) (va_A [(a, .inr (5, [.int md, .ref ade, .int 0]))] sz)) 1 10 (va_A [(a, .inr (5, [.int md, .ref ade, .int 0]))] sz) := by
  refine K_ofW (Qc := fun A => va_Qv (fun (u : Nat) => True) (KB G (fun (u : Nat) => [(a, .inr (5, [.int md, .ref u, .int 1]))]) (fun (u : Nat) => []) A) A) (by decide) (Nat.le_of_ble_eq_true rfl) rfl (fun p e s m args below meth c hx hb hr hml hown hlocks hin hts A hAN hA H hH hP hD hK hT hN hS ls hl => ?_)
  have hl : lv_has ls 4 [(0, .ref a), (1, .ref v), (2, .ref ade), (3, .int 0)] := hl
  refine lv_iload_n hx hb dJx4a65c_add_72be8_0 rfl (lv_at hl 3 rfl) ?_
  refine lv_aload_n hx hb dJx4a65c_add_72be8_1 rfl (lv_at hl 2 rfl) ?_
  obtain ⟨fE, hTE⟩ := hT.2.2.1.2
  refine va_tlen hx hb (va_T.narrow hTE hAN) hS (v := 0) (by decide) dJx4a65c_add_72be8_2 ?_
  refine lv_icmp_ne (tgt := 11) hx hb dJx4a65c_add_72be8_3 (by decide) (fun h_ => absurd h_ (by decide)) (fun _ => ?_)
  refine lv_aload_n hx hb dJx4a65c_add_72be8_6 rfl (lv_at hl 0 rfl) ?_
  refine ka_r (va_runV (As := []) (rest := []) ⟨hx, hb, hml, hown, hts⟩ (c_grow0 l G N0 ade adB H.size a md) (cwV 0 hts (kgV q796 q797 q15 q52 q798) rfl rfl rfl (by decide +kernel) ⟨(Nat.le_of_ble_eq_true rfl), (Nat.le_of_ble_eq_true rfl)⟩) (kpreV (ci := 5) (q0 := 0) hP hD hK hAN hT hN hS [0] [] (by decide) rfl rfl rfl rfl rfl) rfl rfl hl.1 rfl (lv_room (Nat.le_of_ble_eq_true rfl)) dJx4a65c_add_72be8_7 ⟨(Nat.le_of_ble_eq_true rfl), (Nat.le_of_ble_eq_true rfl)⟩) (ws := [(a, .inr (5, [.int md, .ref ade, .int 0]))]) (wc := [(a, .inr (5, [.int md, .ref ade, .int 0]))]) (wr := []) hP hD hK hS hA [0] [] [] rfl rfl (by decide) (by decide) rfl (fun u3 H locs hw4 hP hD hK hS => ?_)
  obtain ⟨o_1, a2⟩ := u3
  have hP : va_P G vwCl [(a, .inr (5, [.int md, .ref o_1, .int 0])), (o_1, .inl (a2, 10, .inr (.inr (.inr (.inr (fun _ => none))))))] H := hP
  have hD : va_D A [(a, .inr (5, [.int md, .ref o_1, .int 0])), (o_1, .inl (a2, 10, .inr (.inr (.inr (.inr (fun _ => none))))))] := hD
  have hK : va_K G vwCl [(a2, .object "java/lang/Object")] s := hK
  refine W.widen (k := 1) (n := 10) (Nat.le_of_ble_eq_true rfl) (Nat.le_of_ble_eq_true rfl) ?_
  refine lv_astore_n (lv' := [(2, .ref o_1), (0, .ref a), (1, .ref v), (3, .int 0)]) hx hb dJx4a65c_add_72be8_10 rfl hl (by decide) rfl (fun ls hl => ?_)
  refine lv_aload_n hx hb dJx4a65c_add_72be8_11 rfl (lv_at hl 0 rfl) ?_
  refine lv_iload_n hx hb dJx4a65c_add_72be8_12 rfl (lv_at hl 3 rfl) ?_
  refine lv_aload_n hx hb dJx4a65c_add_72be8_13 rfl (lv_at hl 2 rfl) ?_
  refine vb_astq hx hb hK hP hD hS 1 0 (C := "java/lang/Integer") rfl rfl (ka_cell hT hAN hS hkc) (fun comp c0 h1_ h2_ => vb_asgC (hT.ca (List.mem_of_getElem? (i := 4) rfl)) comp c0 h1_ h2_) (vin (by decide +kernel)) dJx4a65c_add_72be8_14 (fun H locs hP hD hS => ?_)
  obtain ⟨f5, hf5⟩ : ∃ g_ : Nat → Option Nat, g_ = va_up (fun _ => none) (Int32.toNatClampNeg 0) (some v) := ⟨_, rfl⟩
  have hf5_0 : f5 (Int32.toNatClampNeg 0) = some v := by rw [hf5]; exact va_up_self _ _ _
  have hP : va_P G vwCl [(a, .inr (5, [.int md, .ref o_1, .int 0])), (o_1, .inl (a2, 10, .inr (.inr (.inr (.inr f5)))))] H := by rw [hf5]; exact hP
  have hD : va_D A [(a, .inr (5, [.int md, .ref o_1, .int 0])), (o_1, .inl (a2, 10, .inr (.inr (.inr (.inr f5)))))] := by rw [hf5]; exact hD
  clear hf5
  refine lv_aload_n hx hb dJx4a65c_add_72be8_15 rfl (lv_at hl 1 rfl) ?_
  refine lv_iload_n hx hb dJx4a65c_add_72be8_16 rfl (lv_at hl 3 rfl) ?_
  refine lv_iconst (v := 1) hx hb dJx4a65c_add_72be8_17 (by decide) ?_
  refine lv_iadd hx hb dJx4a65c_add_72be8_18 ?_
  refine lv_topi (fun v_ e_ => ?_)
  obtain rfl : v_ = 1 := e_.trans (by decide)
  refine va_put (D := G) (ci := 5) (v := .int 1) (ty := .int) (C := RJx4a65c) (T := TJx4a65c) (N := 3) hx hb hts inJx4a65c tyJx4a65c tyJx4a65c_ok nmJx4a65c hown hK hP hD hS 0 rfl rfl 2 (by decide) (hts _ q730) (fun _ h_ => h_) rfl (by decide +kernel) rfl rfl (Nat.le_of_ble_eq_true rfl) dJx4a65c_add_72be8_19 (fun H locs hP hD hS => ?_)
  have hP : va_P G vwCl [(a, .inr (5, [.int md, .ref o_1, .int 1])), (o_1, .inl (a2, 10, .inr (.inr (.inr (.inr f5)))))] H := hP
  have hD : va_D A [(a, .inr (5, [.int md, .ref o_1, .int 1])), (o_1, .inl (a2, 10, .inr (.inr (.inr (.inr f5)))))] := hD
  exact ke_v hx hb hr hlocks o_1 (trivial) hP hD hK [0] [] (by decide) rfl rfl hS (Nat.le_of_ble_eq_true rfl) (Nat.le_of_ble_eq_true rfl) dJx4a65c_add_72be8_22

set_option maxHeartbeats 4000000 in
set_option maxRecDepth 100000 in
theorem c_add1_cached (l : Launch) (G : va_G) (N0 ade : Nat) (adB : Nat → Nat) (sz : Nat) (a : Nat) (md : Int32) (v : Nat) (hkc : ∃ k : Nat, k < 256 ∧ v = adB k) : Met l yJx4a65c_add_9ea2d (Cond.code yJx4a65c_add_9ea2d cJx4a65c_add_9ea2d 2 (some FieldType.boolean) :: lw_all) ({ frames := 4, cells := 1, slots := 10, locals := 80 }) (va_Pc [.ref a, .ref v] (KPre N0 ade adB G [] [(a, .inr (5, [.int md, .ref ade, .int 0]))] sz)) (va_Qi (fun (r : Int32) (u : Nat) => r = 1) (KB G (fun (u : Nat) => [(a, .inr (5, [.int (md + 1), .ref u, .int 1]))]) (fun (u : Nat) => []) (va_A [(a, .inr (5, [.int md, .ref ade, .int 0]))] sz)) (va_A [(a, .inr (5, [.int md, .ref ade, .int 0]))] sz)) 1 10 (va_A [(a, .inr (5, [.int md, .ref ade, .int 0]))] sz) := by
  refine K_ofW (Qc := fun A => va_Qi (fun (r : Int32) (u : Nat) => r = 1) (KB G (fun (u : Nat) => [(a, .inr (5, [.int (md + 1), .ref u, .int 1]))]) (fun (u : Nat) => []) A) A) (by decide) (Nat.le_of_ble_eq_true rfl) rfl (fun p e s m args below meth c hx hb hr hml hown hlocks hin hts A hAN hA H hH hP hD hK hT hN hS ls hl => ?_)
  have hl : lv_has ls 2 [(0, .ref a), (1, .ref v)] := hl
  refine lv_aload_n hx hb dJx4a65c_add_9ea2d_0 rfl (lv_at hl 0 rfl) ?_
  refine lv_dup hx hb dJx4a65c_add_9ea2d_1 rfl ?_
  refine va_get (D := G) (ci := 5) (v := .int md) (C := RJx4a65c) (T := TJx4a65c) (N := 3) hx hb hts inJx4a65c hown hK hP 0 rfl rfl 0 (by decide) (hts _ q734) (fun x_ h_ => u_same (hts _ q733) x_ h_) rfl dJx4a65c_add_9ea2d_2 ?_
  refine lv_iconst (v := 1) hx hb dJx4a65c_add_9ea2d_5 (by decide) ?_
  refine lv_iadd hx hb dJx4a65c_add_9ea2d_6 ?_
  refine va_put (D := G) (ci := 5) (v := .int (md + 1)) (ty := .int) (C := RJx4a65c) (T := TJx4a65c) (N := 3) hx hb hts inJx4a65c tyJx4a65c tyJx4a65c_ok nmJx4a65c hown hK hP hD hS 0 rfl rfl 0 (by decide) (hts _ q734) (fun x_ h_ => u_same (hts _ q733) x_ h_) rfl (by decide +kernel) rfl rfl (Nat.le_of_ble_eq_true rfl) dJx4a65c_add_9ea2d_7 (fun H locs hP hD hS => ?_)
  have hP : va_P G vwCl [(a, .inr (5, [.int (md + 1), .ref ade, .int 0]))] H := hP
  have hD : va_D A [(a, .inr (5, [.int (md + 1), .ref ade, .int 0]))] := hD
  refine lv_aload_n hx hb dJx4a65c_add_9ea2d_10 rfl (lv_at hl 0 rfl) ?_
  refine lv_aload_n hx hb dJx4a65c_add_9ea2d_11 rfl (lv_at hl 1 rfl) ?_
  refine lv_aload_n hx hb dJx4a65c_add_9ea2d_12 rfl (lv_at hl 0 rfl) ?_
  refine va_get (D := G) (ci := 5) (v := .ref ade) (C := RJx4a65c) (T := TJx4a65c) (N := 3) hx hb hts inJx4a65c hown hK hP 0 rfl rfl 1 (by decide) (hts _ q729) (fun _ h_ => h_) rfl dJx4a65c_add_9ea2d_13 ?_
  refine lv_aload_n hx hb dJx4a65c_add_9ea2d_16 rfl (lv_at hl 0 rfl) ?_
  refine va_get (D := G) (ci := 5) (v := .int 0) (C := RJx4a65c) (T := TJx4a65c) (N := 3) hx hb hts inJx4a65c hown hK hP 0 rfl rfl 2 (by decide) (hts _ q730) (fun _ h_ => h_) rfl dJx4a65c_add_9ea2d_17 ?_
  refine ka_v (va_runV (As := [.ref v, .ref ade, .int 0]) (rest := []) ⟨hx, hb, hml, hown, hts⟩ (c_add3_cached l G N0 ade adB H.size a (md + 1) v hkc) (cwV 3 hts (kgV q793 q794 q14 q52 q795) rfl rfl rfl (by decide +kernel) ⟨(Nat.le_of_ble_eq_true rfl), (Nat.le_of_ble_eq_true rfl)⟩) (kpreV (ci := 5) (q0 := 0) hP hD hK hAN hT hN hS [0] [] (by decide) rfl rfl rfl rfl rfl) rfl rfl hl.1 rfl (lv_room (Nat.le_of_ble_eq_true rfl)) dJx4a65c_add_9ea2d_20 ⟨(Nat.le_of_ble_eq_true rfl), (Nat.le_of_ble_eq_true rfl)⟩) (ws := [(a, .inr (5, [.int (md + 1), .ref ade, .int 0]))]) (wc := [(a, .inr (5, [.int (md + 1), .ref ade, .int 0]))]) (wr := []) hP hD hK hS hA [0] [] [] rfl rfl (by decide) (by decide) rfl (fun u2 H locs hw3 hP hD hK hS => ?_)
  obtain ⟨o_1, rfl⟩ : ∃ z_, z_ = u2 := ⟨_, rfl⟩
  have hP : va_P G vwCl [(a, .inr (5, [.int (md + 1), .ref o_1, .int 1]))] H := hP
  have hD : va_D A [(a, .inr (5, [.int (md + 1), .ref o_1, .int 1]))] := hD
  have hK : va_K G vwCl [] s := hK
  refine W.widen (k := 1) (n := 10) (Nat.le_of_ble_eq_true rfl) (Nat.le_of_ble_eq_true rfl) ?_
  refine lv_iconst (v := 1) hx hb dJx4a65c_add_9ea2d_23 (by decide) ?_
  exact ke_i (v := 1) hx hb hr hlocks (by decide +kernel) o_1 (rfl) hP hD hK [0] [] (by decide) rfl rfl hS (Nat.le_of_ble_eq_true rfl) (Nat.le_of_ble_eq_true rfl) dJx4a65c_add_9ea2d_24
