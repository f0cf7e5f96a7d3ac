set_option maxHeartbeats 4000000 in
set_option maxRecDepth 100000 in
theorem c_X0_init (l : Launch) (G : va_G) (N0 ade : Nat) (adB : Nat → Nat) (sz : Nat) (q0 : Nat) : Met l yX0_init (Cond.code yX0_init cX0_init 1 none :: lw_all) ({ frames := 1, cells := 0, slots := 0, locals := 12 }) (va_Pc [.ref q0] (KPre N0 ade adB G [] [(q0, .inr (6, [.int 0, .int 0, .int 0, .int 0, .int 0, .int 0, .int 0]))] sz)) (va_Qv (fun (u : Unit) => True) (KB G (fun (u : Unit) => [(q0, .inr (6, [.int 0, .int 0, .int 0, .int 0, .int 0, .int 0, .int 0]))]) (fun (u : Unit) => []) (va_A [(q0, .inr (6, [.int 0, .int 0, .int 0, .int 0, .int 0, .int 0, .int 0]))] sz)) (va_A [(q0, .inr (6, [.int 0, .int 0, .int 0, .int 0, .int 0, .int 0, .int 0]))] sz)) 0 0 (va_A [(q0, .inr (6, [.int 0, .int 0, .int 0, .int 0, .int 0, .int 0, .int 0]))] sz) := by
  refine K_ofW (Qc := fun A => va_Qv (fun (u : Unit) => True) (KB G (fun (u : Unit) => [(q0, .inr (6, [.int 0, .int 0, .int 0, .int 0, .int 0, .int 0, .int 0]))]) (fun (u : Unit) => []) A) A) (by decide) (Nat.le_of_ble_eq_true rfl) rfl (fun p e s m args below meth c hx hb hr hml hown hlocks hin hts A hAN hA H hH hP hD hK hT hN hS ls hl => ?_)
  have hin : meth.name = "<init>" := hin
  have hl : lv_has ls 1 [(0, .ref q0)] := hl
  refine lv_aload_n hx hb dX0_init_0 rfl (lv_at hl 0 rfl) ?_
  refine W.objInit hx hb hown (hts _ q111) (hts _ q91) (hts _ q92) rfl (by rw [hml]; exact hl.1) rfl dX0_init_1 (Nat.le_of_ble_eq_true rfl) (Nat.le_of_ble_eq_true rfl) ?_
  refine W.eq (g2 := F0 m 4 ls []) rfl ?_
  exact ke_v hx hb hr hlocks () (trivial) hP hD hK [0] [] (by decide) rfl rfl hS (Nat.le_of_ble_eq_true rfl) (Nat.le_of_ble_eq_true rfl) dX0_init_4

set_option maxHeartbeats 4000000 in
set_option maxRecDepth 100000 in
theorem c_X1_init (l : Launch) (G : va_G) (N0 ade : Nat) (adB : Nat → Nat) (sz : Nat) (q0 : Nat) : Met l yX1_init (Cond.code yX1_init cX1_init 1 none :: lw_all) ({ frames := 1, cells := 0, slots := 0, locals := 12 }) (va_Pc [.ref q0] (KPre N0 ade adB G [] [(q0, .inr (7, [.int 0, .int 0, .int 0, .int 0, .int 0]))] sz)) (va_Qv (fun (u : Unit) => True) (KB G (fun (u : Unit) => [(q0, .inr (7, [.int 0, .int 0, .int 0, .int 0, .int 0]))]) (fun (u : Unit) => []) (va_A [(q0, .inr (7, [.int 0, .int 0, .int 0, .int 0, .int 0]))] sz)) (va_A [(q0, .inr (7, [.int 0, .int 0, .int 0, .int 0, .int 0]))] sz)) 0 0 (va_A [(q0, .inr (7, [.int 0, .int 0, .int 0, .int 0, .int 0]))] sz) := by
  refine K_ofW (Qc := fun A => va_Qv (fun (u : Unit) => True) (KB G (fun (u : Unit) => [(q0, .inr (7, [.int 0, .int 0, .int 0, .int 0, .int 0]))]) (fun (u : Unit) => []) A) A) (by decide) (Nat.le_of_ble_eq_true rfl) rfl (fun p e s m args below meth c hx hb hr hml hown hlocks hin hts A hAN hA H hH hP hD hK hT hN hS ls hl => ?_)
  have hin : meth.name = "<init>" := hin
  have hl : lv_has ls 1 [(0, .ref q0)] := hl
  refine lv_aload_n hx hb dX1_init_0 rfl (lv_at hl 0 rfl) ?_
  refine W.objInit hx hb hown (hts _ q272) (hts _ q91) (hts _ q92) rfl (by rw [hml]; exact hl.1) rfl dX1_init_1 (Nat.le_of_ble_eq_true rfl) (Nat.le_of_ble_eq_true rfl) ?_
  refine W.eq (g2 := F0 m 4 ls []) rfl ?_
  exact ke_v hx hb hr hlocks () (trivial) hP hD hK [0] [] (by decide) rfl rfl hS (Nat.le_of_ble_eq_true rfl) (Nat.le_of_ble_eq_true rfl) dX1_init_4

set_option maxHeartbeats 4000000 in
set_option maxRecDepth 100000 in
theorem c_X3_init (l : Launch) (G : va_G) (N0 ade : Nat) (adB : Nat → Nat) (sz : Nat) (q0 : Nat) : Met l yX3_init (Cond.code yX3_init cX3_init 1 none :: lw_all) ({ frames := 1, cells := 0, slots := 0, locals := 12 }) (va_Pc [.ref q0] (KPre N0 ade adB G [] [(q0, .inr (9, [.int 0, .int 0, .int 0, .int 0]))] sz)) (va_Qv (fun (u : Unit) => True) (KB G (fun (u : Unit) => [(q0, .inr (9, [.int 0, .int 0, .int 0, .int 0]))]) (fun (u : Unit) => []) (va_A [(q0, .inr (9, [.int 0, .int 0, .int 0, .int 0]))] sz)) (va_A [(q0, .inr (9, [.int 0, .int 0, .int 0, .int 0]))] sz)) 0 0 (va_A [(q0, .inr (9, [.int 0, .int 0, .int 0, .int 0]))] sz) := by
  refine K_ofW (Qc := fun A => va_Qv (fun (u : Unit) => True) (KB G (fun (u : Unit) => [(q0, .inr (9, [.int 0, .int 0, .int 0, .int 0]))]) (fun (u : Unit) => []) A) A) (by decide) (Nat.le_of_ble_eq_true rfl) rfl (fun p e s m args below meth c hx hb hr hml hown hlocks hin hts A hAN hA H hH hP hD hK hT hN hS ls hl => ?_)
  have hin : meth.name = "<init>" := hin
  have hl : lv_has ls 1 [(0, .ref q0)] := hl
  refine lv_aload_n hx hb dX3_init_0 rfl (lv_at hl 0 rfl) ?_
  refine W.objInit hx hb hown (hts _ q129) (hts _ q91) (hts _ q92) rfl (by rw [hml]; exact hl.1) rfl dX3_init_1 (Nat.le_of_ble_eq_true rfl) (Nat.le_of_ble_eq_true rfl) ?_
  refine W.eq (g2 := F0 m 4 ls []) rfl ?_
  exact ke_v hx hb hr hlocks () (trivial) hP hD hK [0] [] (by decide) rfl rfl hS (Nat.le_of_ble_eq_true rfl) (Nat.le_of_ble_eq_true rfl) dX3_init_4

set_option maxHeartbeats 4000000 in
set_option maxRecDepth 100000 in
theorem c_X6_init (l : Launch) (G : va_G) (N0 ade : Nat) (adB : Nat → Nat) (sz : Nat) (q0 : Nat) : Met l yX6_init (Cond.code yX6_init cX6_init 1 none :: lw_all) ({ frames := 1, cells := 0, slots := 0, locals := 12 }) (va_Pc [.ref q0] (KPre N0 ade adB G [] [(q0, .inr (12, [.int 0, .int 0, .int 0, .int 0, .int 0]))] sz)) (va_Qv (fun (u : Unit) => True) (KB G (fun (u : Unit) => [(q0, .inr (12, [.int 0, .int 0, .int 0, .int 0, .int 0]))]) (fun (u : Unit) => []) (va_A [(q0, .inr (12, [.int 0, .int 0, .int 0, .int 0, .int 0]))] sz)) (va_A [(q0, .inr (12, [.int 0, .int 0, .int 0, .int 0, .int 0]))] sz)) 0 0 (va_A [(q0, .inr (12, [.int 0, .int 0, .int 0, .int 0, .int 0]))] sz) := by
  refine K_ofW (Qc := fun A => va_Qv (fun (u : Unit) => True) (KB G (fun (u : Unit) => [(q0, .inr (12, [.int 0, .int 0, .int 0, .int 0, .int 0]))]) (fun (u : Unit) => []) A) A) (by decide) (Nat.le_of_ble_eq_true rfl) rfl (fun p e s m args below meth c hx hb hr hml hown hlocks hin hts A hAN hA H hH hP hD hK hT hN hS ls hl => ?_)
  have hin : meth.name = "<init>" := hin
  have hl : lv_has ls 1 [(0, .ref q0)] := hl
  refine lv_aload_n hx hb dX6_init_0 rfl (lv_at hl 0 rfl) ?_
  refine W.objInit hx hb hown (hts _ q159) (hts _ q91) (hts _ q92) rfl (by rw [hml]; exact hl.1) rfl dX6_init_1 (Nat.le_of_ble_eq_true rfl) (Nat.le_of_ble_eq_true rfl) ?_
  refine W.eq (g2 := F0 m 4 ls []) rfl ?_
  exact ke_v hx hb hr hlocks () (trivial) hP hD hK [0] [] (by decide) rfl rfl hS (Nat.le_of_ble_eq_true rfl) (Nat.le_of_ble_eq_true rfl) dX6_init_4

set_option maxHeartbeats 4000000 in
set_option maxRecDepth 100000 in
theorem c_X7_init (l : Launch) (G : va_G) (N0 ade : Nat) (adB : Nat → Nat) (sz : Nat) (q0 : Nat) : Met l yX7_init (Cond.code yX7_init cX7_init 1 none :: lw_all) ({ frames := 1, cells := 0, slots := 0, locals := 12 }) (va_Pc [.ref q0] (KPre N0 ade adB G [] [(q0, .inr (13, [.int 0, .int 0, .int 0, .int 0, .int 0]))] sz)) (va_Qv (fun (u : Unit) => True) (KB G (fun (u : Unit) => [(q0, .inr (13, [.int 0, .int 0, .int 0, .int 0, .int 0]))]) (fun (u : Unit) => []) (va_A [(q0, .inr (13, [.int 0, .int 0, .int 0, .int 0, .int 0]))] sz)) (va_A [(q0, .inr (13, [.int 0, .int 0, .int 0, .int 0, .int 0]))] sz)) 0 0 (va_A [(q0, .inr (13, [.int 0, .int 0, .int 0, .int 0, .int 0]))] sz) := by
  refine K_ofW (Qc := fun A => va_Qv (fun (u : Unit) => True) (KB G (fun (u : Unit) => [(q0, .inr (13, [.int 0, .int 0, .int 0, .int 0, .int 0]))]) (fun (u : Unit) => []) A) A) (by decide) (Nat.le_of_ble_eq_true rfl) rfl (fun p e s m args below meth c hx hb hr hml hown hlocks hin hts A hAN hA H hH hP hD hK hT hN hS ls hl => ?_)
  have hin : meth.name = "<init>" := hin
  have hl : lv_has ls 1 [(0, .ref q0)] := hl
  refine lv_aload_n hx hb dX7_init_0 rfl (lv_at hl 0 rfl) ?_
  refine W.objInit hx hb hown (hts _ q280) (hts _ q91) (hts _ q92) rfl (by rw [hml]; exact hl.1) rfl dX7_init_1 (Nat.le_of_ble_eq_true rfl) (Nat.le_of_ble_eq_true rfl) ?_
  refine W.eq (g2 := F0 m 4 ls []) rfl ?_
  exact ke_v hx hb hr hlocks () (trivial) hP hD hK [0] [] (by decide) rfl rfl hS (Nat.le_of_ble_eq_true rfl) (Nat.le_of_ble_eq_true rfl) dX7_init_4

set_option maxHeartbeats 4000000 in
set_option maxRecDepth 100000 in
theorem c_X9_init (l : Launch) (G : va_G) (N0 ade : Nat) (adB : Nat → Nat) (sz : Nat) (q0 : Nat) : Met l yX9_init (Cond.code yX9_init cX9_init 1 none :: lw_all) ({ frames := 1, cells := 0, slots := 0, locals := 12 }) (va_Pc [.ref q0] (KPre N0 ade adB G [] [(q0, .inr (15, [.int 0, .int 0, .int 0, .int 0, .int 0]))] sz)) (va_Qv (fun (u : Unit) => True) (KB G (fun (u : Unit) => [(q0, .inr (15, [.int 0, .int 0, .int 0, .int 0, .int 0]))]) (fun (u : Unit) => []) (va_A [(q0, .inr (15, [.int 0, .int 0, .int 0, .int 0, .int 0]))] sz)) (va_A [(q0, .inr (15, [.int 0, .int 0, .int 0, .int 0, .int 0]))] sz)) 0 0 (va_A [(q0, .inr (15, [.int 0, .int 0, .int 0, .int 0, .int 0]))] sz) := by
  refine K_ofW (Qc := fun A => va_Qv (fun (u : Unit) => True) (KB G (fun (u : Unit) => [(q0, .inr (15, [.int 0, .int 0, .int 0, .int 0, .int 0]))]) (fun (u : Unit) => []) A) A) (by decide) (Nat.le_of_ble_eq_true rfl) rfl (fun p e s m args below meth c hx hb hr hml hown hlocks hin hts A hAN hA H hH hP hD hK hT hN hS ls hl => ?_)
  have hin : meth.name = "<init>" := hin
  have hl : lv_has ls 1 [(0, .ref q0)] := hl
  refine lv_aload_n hx hb dX9_init_0 rfl (lv_at hl 0 rfl) ?_
  refine W.objInit hx hb hown (hts _ q171) (hts _ q91) (hts _ q92) rfl (by rw [hml]; exact hl.1) rfl dX9_init_1 (Nat.le_of_ble_eq_true rfl) (Nat.le_of_ble_eq_true rfl) ?_
  refine W.eq (g2 := F0 m 4 ls []) rfl ?_
  exact ke_v hx hb hr hlocks () (trivial) hP hD hK [0] [] (by decide) rfl rfl hS (Nat.le_of_ble_eq_true rfl) (Nat.le_of_ble_eq_true rfl) dX9_init_4

set_option maxHeartbeats 4000000 in
set_option maxRecDepth 100000 in
theorem c_X5_init (l : Launch) (G : va_G) (N0 ade : Nat) (adB : Nat → Nat) (sz : Nat) (q0 : Nat) : Met l yX5_init (Cond.code yX5_init cX5_init 1 none :: lw_all) ({ frames := 1, cells := 0, slots := 0, locals := 12 }) (va_Pc [.ref q0] (KPre N0 ade adB G [] [(q0, .inr (11, [.int 0, .int 0, .int 0, .int 0, .int 0, .int 0, .int 0, .int 0, .int 0, .int 0]))] sz)) (va_Qv (fun (u : Unit) => True) (KB G (fun (u : Unit) => [(q0, .inr (11, [.int 0, .int 0, .int 0, .int 0, .int 0, .int 0, .int 0, .int (-1), .int 0, .int 0]))]) (fun (u : Unit) => []) (va_A [(q0, .inr (11, [.int 0, .int 0, .int 0, .int 0, .int 0, .int 0, .int 0, .int 0, .int 0, .int 0]))] sz)) (va_A [(q0, .inr (11, [.int 0, .int 0, .int 0, .int 0, .int 0, .int 0, .int 0, .int 0, .int 0, .int 0]))] sz)) 0 0 (va_A [(q0, .inr (11, [.int 0, .int 0, .int 0, .int 0, .int 0, .int 0, .int 0, .int 0, .int 0, .int 0]))] sz) := by
  refine K_ofW (Qc := fun A => va_Qv (fun (u : Unit) => True) (KB G (fun (u : Unit) => [(q0, .inr (11, [.int 0, .int 0, .int 0, .int 0, .int 0, .int 0, .int 0, .int (-1), .int 0, .int 0]))]) (fun (u : Unit) => []) A) A) (by decide) (Nat.le_of_ble_eq_true rfl) rfl (fun p e s m args below meth c hx hb hr hml hown hlocks hin hts A hAN hA H hH hP hD hK hT hN hS ls hl => ?_)
  have hin : meth.name = "<init>" := hin
  have hl : lv_has ls 1 [(0, .ref q0)] := hl
  refine lv_aload_n hx hb dX5_init_0 rfl (lv_at hl 0 rfl) ?_
  refine W.objInit hx hb hown (hts _ q139) (hts _ q91) (hts _ q92) rfl (by rw [hml]; exact hl.1) rfl dX5_init_1 (Nat.le_of_ble_eq_true rfl) (Nat.le_of_ble_eq_true rfl) ?_
  refine W.eq (g2 := F0 m 4 ls []) rfl ?_
  refine lv_aload_n hx hb dX5_init_4 rfl (lv_at hl 0 rfl) ?_
  refine lv_iconst (v := (-1)) hx hb dX5_init_5 (by decide) ?_
  refine va_put (D := G) (ci := 11) (v := .int (-1)) (ty := .int) (C := RX5) (T := TX5) (N := 10) hx hb hts inX5 tyX5 tyX5_ok nmX5 hown hK hP hD hS 0 rfl rfl 7 (by decide) (hts _ q150) (fun _ h_ => h_) rfl (by decide +kernel) rfl rfl (Nat.le_of_ble_eq_true rfl) dX5_init_6 (fun H locs hP hD hS => ?_)
  have hP : va_P G vwCl [(q0, .inr (11, [.int 0, .int 0, .int 0, .int 0, .int 0, .int 0, .int 0, .int (-1), .int 0, .int 0]))] H := hP
  have hD : va_D A [(q0, .inr (11, [.int 0, .int 0, .int 0, .int 0, .int 0, .int 0, .int 0, .int (-1), .int 0, .int 0]))] := hD
  exact ke_v hx hb hr hlocks () (trivial) hP hD hK [0] [] (by decide) rfl rfl hS (Nat.le_of_ble_eq_true rfl) (Nat.le_of_ble_eq_true rfl) dX5_init_9

set_option maxHeartbeats 4000000 in
set_option maxRecDepth 100000 in
theorem c_X2_init (l : Launch) (G : va_G) (N0 ade : Nat) (adB : Nat → Nat) (sz : Nat) (q0 : Nat) (n : Int32) (qf : Nat) : Met l yX2_init (Cond.code yX2_init cX2_init 3 none :: lw_all) ({ frames := 1, cells := 0, slots := 0, locals := 12 }) (va_Pc [.ref q0, .int n, .ref qf] (KPre N0 ade adB G [] [(q0, .inr (8, [.int 0, .null, .int 0, .int 0, .int 0, .int 0, .int 0, .int 0, .int 0, .int 0, .int 0, .int 0, .int 0, .int 0, .int 0, .int 0, .int 0, .int 0, .int 0]))] sz)) (va_Qv (fun (u : Unit) => True) (KB G (fun (u : Unit) => [(q0, .inr (8, [.int n, .ref qf, .int 0, .int 0, .int 0, .int 0, .int 0, .int 0, .int 0, .int 0, .int 0, .int 0, .int 0, .int 0, .int 0, .int 0, .int 0, .int 0, .int 0]))]) (fun (u : Unit) => []) (va_A [(q0, .inr (8, [.int 0, .null, .int 0, .int 0, .int 0, .int 0, .int 0, .int 0, .int 0, .int 0, .int 0, .int 0, .int 0, .int 0, .int 0, .int 0, .int 0, .int 0, .int 0]))] sz)) (va_A [(q0, .inr (8, [.int 0, .null, .int 0, .int 0, .int 0, .int 0, .int 0, .int 0, .int 0, .int 0, .int 0, .int 0, .int 0, .int 0, .int 0, .int 0, .int 0, .int 0, .int 0]))] sz)) 0 0 (va_A [(q0, .inr (8, [.int 0, .null, .int 0, .int 0, .int 0, .int 0, .int 0, .int 0, .int 0, .int 0, .int 0, .int 0, .int 0, .int 0, .int 0, .int 0, .int 0, .int 0, .int 0]))] sz) := by
  refine K_ofW (Qc := fun A => va_Qv (fun (u : Unit) => True) (KB G (fun (u : Unit) => [(q0, .inr (8, [.int n, .ref qf, .int 0, .int 0, .int 0, .int 0, .int 0, .int 0, .int 0, .int 0, .int 0, .int 0, .int 0, .int 0, .int 0, .int 0, .int 0, .int 0, .int 0]))]) (fun (u : Unit) => []) A) A) (by decide) (Nat.le_of_ble_eq_true rfl) rfl (fun p e s m args below meth c hx hb hr hml hown hlocks hin hts A hAN hA H hH hP hD hK hT hN hS ls hl => ?_)
  have hin : meth.name = "<init>" := hin
  have hl : lv_has ls 3 [(0, .ref q0), (1, .int n), (2, .ref qf)] := hl
  refine lv_aload_n hx hb dX2_init_0 rfl (lv_at hl 0 rfl) ?_
  refine W.objInit hx hb hown (hts _ q247) (hts _ q91) (hts _ q92) rfl (by rw [hml]; exact hl.1) rfl dX2_init_1 (Nat.le_of_ble_eq_true rfl) (Nat.le_of_ble_eq_true rfl) ?_
  refine W.eq (g2 := F0 m 4 ls []) rfl ?_
  refine lv_aload_n hx hb dX2_init_4 rfl (lv_at hl 0 rfl) ?_
  refine lv_iload_n hx hb dX2_init_5 rfl (lv_at hl 1 rfl) ?_
  refine va_putF (D := G) (ci := 8) (v := .int n) (ty := .int) (C := RX2) (T := TX2) (N := 19) hx hb hts inX2 tyX2 tyX2_ok nmX2 hown hK hP hD hS 0 rfl rfl 0 (by decide) (hts _ q248) (fun _ h_ => h_) rfl hin rfl (by decide +kernel) rfl rfl (Nat.le_of_ble_eq_true rfl) dX2_init_6 (fun H locs hP hD hS => ?_)
  have hP : va_P G vwCl [(q0, .inr (8, [.int n, .null, .int 0, .int 0, .int 0, .int 0, .int 0, .int 0, .int 0, .int 0, .int 0, .int 0, .int 0, .int 0, .int 0, .int 0, .int 0, .int 0, .int 0]))] H := hP
  have hD : va_D A [(q0, .inr (8, [.int n, .null, .int 0, .int 0, .int 0, .int 0, .int 0, .int 0, .int 0, .int 0, .int 0, .int 0, .int 0, .int 0, .int 0, .int 0, .int 0, .int 0, .int 0]))] := hD
  refine lv_aload_n hx hb dX2_init_9 rfl (lv_at hl 0 rfl) ?_
  refine lv_aload_n hx hb dX2_init_10 rfl (lv_at hl 2 rfl) ?_
  refine va_putF (D := G) (ci := 8) (v := .ref qf) (ty := (.object "RunwayLoom$Flight")) (C := RX2) (T := TX2) (N := 19) hx hb hts inX2 tyX2 tyX2_ok nmX2 hown hK hP hD hS 0 rfl rfl 1 (by decide) (hts _ q251) (fun _ h_ => h_) rfl hin rfl (by decide +kernel) rfl rfl (Nat.le_of_ble_eq_true rfl) dX2_init_11 (fun H locs hP hD hS => ?_)
  have hP : va_P G vwCl [(q0, .inr (8, [.int n, .ref qf, .int 0, .int 0, .int 0, .int 0, .int 0, .int 0, .int 0, .int 0, .int 0, .int 0, .int 0, .int 0, .int 0, .int 0, .int 0, .int 0, .int 0]))] H := hP
  have hD : va_D A [(q0, .inr (8, [.int n, .ref qf, .int 0, .int 0, .int 0, .int 0, .int 0, .int 0, .int 0, .int 0, .int 0, .int 0, .int 0, .int 0, .int 0, .int 0, .int 0, .int 0, .int 0]))] := hD
  exact ke_v hx hb hr hlocks () (trivial) hP hD hK [0] [] (by decide) rfl rfl hS (Nat.le_of_ble_eq_true rfl) (Nat.le_of_ble_eq_true rfl) dX2_init_14

set_option maxHeartbeats 4000000 in
set_option maxRecDepth 100000 in
theorem c_X8_init (l : Launch) (G : va_G) (N0 ade : Nat) (adB : Nat → Nat) (sz : Nat) (q0 : Nat) : Met l yX8_init (Cond.code yX8_init cX8_init 1 none :: lw_all) ({ frames := 1, cells := 1, slots := 10000, locals := 12 }) (va_Pc [.ref q0] (KPre N0 ade adB G [] [(q0, .inr (14, [.null, .int 0]))] sz)) (va_Qv (fun (u : Nat) => True) (KB G (fun (u : Nat) => [(q0, .inr (14, [.ref u, .int 0]))]) (fun (u : Nat) => []) (va_A [(q0, .inr (14, [.null, .int 0]))] sz)) (va_A [(q0, .inr (14, [.null, .int 0]))] sz)) 1 10000 (va_A [(q0, .inr (14, [.null, .int 0]))] sz) := by
  refine K_ofW (Qc := fun A => va_Qv (fun (u : Nat) => True) (KB G (fun (u : Nat) => [(q0, .inr (14, [.ref u, .int 0]))]) (fun (u : Nat) => []) A) A) (by decide) (Nat.le_of_ble_eq_true rfl) rfl (fun p e s m args below meth c hx hb hr hml hown hlocks hin hts A hAN hA H hH hP hD hK hT hN hS ls hl => ?_)
  have hin : meth.name = "<init>" := hin
  have hl : lv_has ls 1 [(0, .ref q0)] := hl
  refine lv_aload_n hx hb dX8_init_0 rfl (lv_at hl 0 rfl) ?_
  refine W.objInit hx hb hown (hts _ q236) (hts _ q91) (hts _ q92) rfl (by rw [hml]; exact hl.1) rfl dX8_init_1 (Nat.le_of_ble_eq_true rfl) (Nat.le_of_ble_eq_true rfl) ?_
  refine W.eq (g2 := F0 m 4 ls []) rfl ?_
  refine lv_aload_n hx hb dX8_init_4 rfl (lv_at hl 0 rfl) ?_
  refine lv_sipush (v := 10000) hx hb dX8_init_5 (by decide) ?_
  refine va_newa (atype := .char) (ty := .char) (a0 := (10000, .inl (fun _ => 0))) (N' := 10000) hx hb (hts _ q242) rfl hK hP hD hS hA (fun cA_ => vp_cell_i cA_ 10000 (fun _ => 0)) (by decide) (by decide) (Nat.le_of_ble_eq_true rfl) (Nat.le_of_ble_eq_true rfl) (Nat.le_of_ble_eq_true rfl) dX8_init_8 (fun o_1 a2 H hK hP hD hS => ?_)
  have hP : va_P G vwCl [(q0, .inr (14, [.null, .int 0])), (o_1, .inl (a2, 10000, .inl (fun _ => 0)))] H := hP
  have hD : va_D A [(q0, .inr (14, [.null, .int 0])), (o_1, .inl (a2, 10000, .inl (fun _ => 0)))] := hD
  have hK : va_K G vwCl [(a2, .char)] s := hK
  refine W.widen (k := 1) (n := 10000) (Nat.le_of_ble_eq_true rfl) (Nat.le_of_ble_eq_true rfl) ?_
  refine va_putF (D := G) (ci := 14) (v := .ref o_1) (ty := (.array .char)) (C := RX8) (T := TX8) (N := 2) hx hb hts inX8 tyX8 tyX8_ok nmX8 hown hK hP hD hS 0 rfl rfl 0 (by decide) (hts _ q237) (fun _ h_ => h_) rfl hin rfl (by decide +kernel) rfl rfl (Nat.le_of_ble_eq_true rfl) dX8_init_10 (fun H locs hP hD hS => ?_)
  have hP : va_P G vwCl [(q0, .inr (14, [.ref o_1, .int 0])), (o_1, .inl (a2, 10000, .inl (fun _ => 0)))] H := hP
  have hD : va_D A [(q0, .inr (14, [.ref o_1, .int 0])), (o_1, .inl (a2, 10000, .inl (fun _ => 0)))] := hD
  exact ke_v hx hb hr hlocks o_1 (trivial) hP hD hK [0] [] (by decide) rfl rfl hS (Nat.le_of_ble_eq_true rfl) (Nat.le_of_ble_eq_true rfl) dX8_init_13

def wi (a b c : Int32) : Int32 := if a < b then 0 else if c < a then 0 else 1

set_option maxHeartbeats 4000000 in
set_option maxRecDepth 100000 in
theorem c_isWithin (l : Launch) (G : va_G) (N0 ade : Nat) (adB : Nat → Nat) (sz : Nat) (a : Int32) (b : Int32) (c_ : Int32) : Met l yX11_isWithin (Cond.code yX11_isWithin cX11_isWithin 3 (some FieldType.boolean) :: lw_all) ({ frames := 0, cells := 0, slots := 0, locals := 0 }) (va_Pc [.int a, .int b, .int c_] (KPre N0 ade adB G [] [] sz)) (va_Qi (fun (r : Int32) (u : Unit) => r = (wi a b c_)) (KB G (fun (u : Unit) => []) (fun (u : Unit) => []) (va_A [] sz)) (va_A [] sz)) 0 0 (va_A [] sz) := by
  refine K_ofW (Qc := fun A => va_Qi (fun (r : Int32) (u : Unit) => r = (wi a b c_)) (KB G (fun (u : Unit) => []) (fun (u : Unit) => []) A) A) (by decide) (Nat.le_of_ble_eq_true rfl) rfl (fun p e s m args below meth c hx hb hr hml hown hlocks hin hts A hAN hA H hH hP hD hK hT hN hS ls hl => ?_)
  have hl : lv_has ls 3 [(0, .int a), (1, .int b), (2, .int c_)] := hl
  refine lv_iload_n hx hb dX11_isWithin_0 rfl (lv_at hl 0 rfl) ?_
  refine lv_iload_n hx hb dX11_isWithin_1 rfl (lv_at hl 1 rfl) ?_
  refine lv_icmp_lt (tgt := 14) hx hb dX11_isWithin_2 (by decide) (fun c_2 => ?_) (fun c_2 => ?_)
  · refine lv_iconst (v := 0) hx hb dX11_isWithin_14 (by decide) ?_
    exact ke_i (v := 0) hx hb hr hlocks (by decide +kernel) () (by simp [wi, c_2]) hP hD hK [] [] (by decide) rfl rfl hS (Nat.le_of_ble_eq_true rfl) (Nat.le_of_ble_eq_true rfl) dX11_isWithin_15
  · refine lv_iload_n hx hb dX11_isWithin_5 rfl (lv_at hl 0 rfl) ?_
    refine lv_iload_n hx hb dX11_isWithin_6 rfl (lv_at hl 2 rfl) ?_
    refine lv_icmp_gt (tgt := 14) hx hb dX11_isWithin_7 (by decide) (fun c_7 => ?_) (fun c_7 => ?_)
    · refine lv_iconst (v := 0) hx hb dX11_isWithin_14 (by decide) ?_
      exact ke_i (v := 0) hx hb hr hlocks (by decide +kernel) () (by simp [wi, c_2, c_7]) hP hD hK [] [] (by decide) rfl rfl hS (Nat.le_of_ble_eq_true rfl) (Nat.le_of_ble_eq_true rfl) dX11_isWithin_15
    · refine lv_iconst (v := 1) hx hb dX11_isWithin_10 (by decide) ?_
      refine lv_goto (tgt := 15) hx hb dX11_isWithin_11 (by decide) ?_
      exact ke_i (v := 1) hx hb hr hlocks (by decide +kernel) () (by simp [wi, c_2, c_7]) hP hD hK [] [] (by decide) rfl rfl hS (Nat.le_of_ble_eq_true rfl) (Nat.le_of_ble_eq_true rfl) dX11_isWithin_15

set_option maxHeartbeats 4000000 in
set_option maxRecDepth 100000 in
theorem c_requireIndex (l : Launch) (hl0 : l.stackTraces = false) (G : va_G) (N0 ade : Nat) (adB : Nat → Nat) (sz : Nat) (i : Int32) (n : Int32) : vx_Met l yX11_requireIndex (Cond.code yX11_requireIndex cX11_requireIndex 2 none :: lw_all) ({ frames := 6, cells := 1, slots := 6, locals := 100 }) (va_Pc [.int i, .int n] (KPre N0 ade adB G [] [] sz)) (va_Qv (fun (u : Unit) => (¬ (i < 0 ∨ ¬ i < n))) (KB G (fun (u : Unit) => []) (fun (u : Unit) => []) (va_A [] sz)) (va_A [] sz)) (KX (fun E => E = "java/lang/IndexOutOfBoundsException" ∧ (i < 0 ∨ ¬ i < n)) (va_A [] sz)) 1 6 (va_A [] sz) := by
  refine K_ofX (Qc := fun A => va_Qv (fun (u : Unit) => (¬ (i < 0 ∨ ¬ i < n))) (KB G (fun (u : Unit) => []) (fun (u : Unit) => []) A) A) (px := (fun E => E = "java/lang/IndexOutOfBoundsException" ∧ (i < 0 ∨ ¬ i < n))) (by decide) (Nat.le_of_ble_eq_true rfl) rfl (fun p e s m args below meth c hx hb hr hml hown hlocks hin hts hno A hAN hA H hH hP hD hK hT hN hS ls hl => ?_)
  have hl : lv_has ls 2 [(0, .int i), (1, .int n)] := hl
  refine lv_iload_n hx hb dX11_requireIndex_0 rfl (lv_at hl 0 rfl) ?_
  refine lv_if_lt (tgt := 9) hx hb dX11_requireIndex_1 (by decide) (fun c_1 => ?_) (fun c_1 => ?_)
  · obtain ⟨sa, hsa⟩ := hT.str (List.mem_of_getElem? (i := 0) rfl)
    exact vx_throwSW (cls := "java/lang/IndexOutOfBoundsException") (names := ["java/lang/RuntimeException", "java/lang/Exception"]) (A := A) hx hb hl0 hown (by decide +kernel) (by decide +kernel) (hts _ q450) (hts _ q56) hsa (vx_hat (B := Cond.castable "java/lang/IndexOutOfBoundsException" "java/lang/IndexOutOfBoundsException" :: K_de.map Cond.declares) (fun w h => hts w (lw_it0 w h)) (by decide +kernel) (hT.thr (List.mem_of_getElem? (i := 0) rfl))) (by decide +kernel) (vx_Zq.narrow hT.1.1 hAN) (vx_Zq.narrow hT.1.2 hAN) hS (by rw [hml]; exact hl.1) dX11_requireIndex_9 dX11_requireIndex_12 dX11_requireIndex_13 dX11_requireIndex_16 dX11_requireIndex_19 (fun x_ h_ => (hno x_ h_).elim) (Nat.le_of_ble_eq_true rfl) (Nat.le_of_ble_eq_true rfl) (Nat.le_of_ble_eq_true rfl) (Nat.le_of_ble_eq_true rfl) hlocks (fun t ht h1 h2 => ⟨"java/lang/IndexOutOfBoundsException", ⟨rfl, Or.inl c_1⟩, rfl, ⟨Nat.le_trans hS.1 h1, fun q_ hq_ hn_ => (h2 q_ (Nat.lt_of_lt_of_le hq_ hS.1)).trans (hS.2.1 q_ hq_ hn_)⟩⟩) hS.2.2 (Nat.le_of_ble_eq_true rfl) (Nat.le_of_ble_eq_true rfl)
  · refine lv_iload_n hx hb dX11_requireIndex_4 rfl (lv_at hl 0 rfl) ?_
    refine lv_iload_n hx hb dX11_requireIndex_5 rfl (lv_at hl 1 rfl) ?_
    refine lv_icmp_lt (tgt := 20) hx hb dX11_requireIndex_6 (by decide) (fun c_6 => ?_) (fun c_6 => ?_)
    · refine vx_ret ?_
      exact ke_v hx hb hr hlocks () ((fun h_ => h_.elim c_1 (fun h2_ => h2_ c_6))) hP hD hK [] [] (by decide) rfl rfl hS (Nat.le_of_ble_eq_true rfl) (Nat.le_of_ble_eq_true rfl) dX11_requireIndex_20
    · obtain ⟨sa, hsa⟩ := hT.str (List.mem_of_getElem? (i := 0) rfl)
      exact vx_throwSW (cls := "java/lang/IndexOutOfBoundsException") (names := ["java/lang/RuntimeException", "java/lang/Exception"]) (A := A) hx hb hl0 hown (by decide +kernel) (by decide +kernel) (hts _ q450) (hts _ q56) hsa (vx_hat (B := Cond.castable "java/lang/IndexOutOfBoundsException" "java/lang/IndexOutOfBoundsException" :: K_de.map Cond.declares) (fun w h => hts w (lw_it0 w h)) (by decide +kernel) (hT.thr (List.mem_of_getElem? (i := 0) rfl))) (by decide +kernel) (vx_Zq.narrow hT.1.1 hAN) (vx_Zq.narrow hT.1.2 hAN) hS (by rw [hml]; exact hl.1) dX11_requireIndex_9 dX11_requireIndex_12 dX11_requireIndex_13 dX11_requireIndex_16 dX11_requireIndex_19 (fun x_ h_ => (hno x_ h_).elim) (Nat.le_of_ble_eq_true rfl) (Nat.le_of_ble_eq_true rfl) (Nat.le_of_ble_eq_true rfl) (Nat.le_of_ble_eq_true rfl) hlocks (fun t ht h1 h2 => ⟨"java/lang/IndexOutOfBoundsException", ⟨rfl, Or.inr c_6⟩, rfl, ⟨Nat.le_trans hS.1 h1, fun q_ hq_ hn_ => (h2 q_ (Nat.lt_of_lt_of_le hq_ hS.1)).trans (hS.2.1 q_ hq_ hn_)⟩⟩) hS.2.2 (Nat.le_of_ble_eq_true rfl) (Nat.le_of_ble_eq_true rfl)

set_option maxHeartbeats 4000000 in
set_option maxRecDepth 100000 in
theorem c_requireIndex_0 (l : Launch) (hl0 : l.stackTraces = false) (G : va_G) (N0 ade : Nat) (adB : Nat → Nat) (sz : Nat) (i : Int32) : vx_Met l yX11_requireIndex (Cond.code yX11_requireIndex cX11_requireIndex 2 none :: lw_all) ({ frames := 6, cells := 1, slots := 6, locals := 100 }) (va_Pc [.int i, .int 0] (KPre N0 ade adB G [] [] sz)) (va_Qv (fun (u : Unit) => False) (KB G (fun (u : Unit) => []) (fun (u : Unit) => []) (va_A [] sz)) (va_A [] sz)) (KX (fun E => E = "java/lang/IndexOutOfBoundsException" ∧ True) (va_A [] sz)) 1 6 (va_A [] sz) := by
  refine K_ofX (Qc := fun A => va_Qv (fun (u : Unit) => False) (KB G (fun (u : Unit) => []) (fun (u : Unit) => []) A) A) (px := (fun E => E = "java/lang/IndexOutOfBoundsException" ∧ True)) (by decide) (Nat.le_of_ble_eq_true rfl) rfl (fun p e s m args below meth c hx hb hr hml hown hlocks hin hts hno A hAN hA H hH hP hD hK hT hN hS ls hl => ?_)
  have hl : lv_has ls 2 [(0, .int i), (1, .int 0)] := hl
  refine lv_iload_n hx hb dX11_requireIndex_0 rfl (lv_at hl 0 rfl) ?_
  refine lv_if_lt (tgt := 9) hx hb dX11_requireIndex_1 (by decide) (fun c_1 => ?_) (fun c_1 => ?_)
  · obtain ⟨sa, hsa⟩ := hT.str (List.mem_of_getElem? (i := 0) rfl)
    exact vx_throwSW (cls := "java/lang/IndexOutOfBoundsException") (names := ["java/lang/RuntimeException", "java/lang/Exception"]) (A := A) hx hb hl0 hown (by decide +kernel) (by decide +kernel) (hts _ q450) (hts _ q56) hsa (vx_hat (B := Cond.castable "java/lang/IndexOutOfBoundsException" "java/lang/IndexOutOfBoundsException" :: K_de.map Cond.declares) (fun w h => hts w (lw_it0 w h)) (by decide +kernel) (hT.thr (List.mem_of_getElem? (i := 0) rfl))) (by decide +kernel) (vx_Zq.narrow hT.1.1 hAN) (vx_Zq.narrow hT.1.2 hAN) hS (by rw [hml]; exact hl.1) dX11_requireIndex_9 dX11_requireIndex_12 dX11_requireIndex_13 dX11_requireIndex_16 dX11_requireIndex_19 (fun x_ h_ => (hno x_ h_).elim) (Nat.le_of_ble_eq_true rfl) (Nat.le_of_ble_eq_true rfl) (Nat.le_of_ble_eq_true rfl) (Nat.le_of_ble_eq_true rfl) hlocks (fun t ht h1 h2 => ⟨"java/lang/IndexOutOfBoundsException", ⟨rfl, trivial⟩, rfl, ⟨Nat.le_trans hS.1 h1, fun q_ hq_ hn_ => (h2 q_ (Nat.lt_of_lt_of_le hq_ hS.1)).trans (hS.2.1 q_ hq_ hn_)⟩⟩) hS.2.2 (Nat.le_of_ble_eq_true rfl) (Nat.le_of_ble_eq_true rfl)
  · refine lv_iload_n hx hb dX11_requireIndex_4 rfl (lv_at hl 0 rfl) ?_
    refine lv_iload_n hx hb dX11_requireIndex_5 rfl (lv_at hl 1 rfl) ?_
    refine lv_icmp_lt (tgt := 20) hx hb dX11_requireIndex_6 (by decide) (fun h_ => absurd h_ c_1) (fun _ => ?_)
    obtain ⟨sa, hsa⟩ := hT.str (List.mem_of_getElem? (i := 0) rfl)
    exact vx_throwSW (cls := "java/lang/IndexOutOfBoundsException") (names := ["java/lang/RuntimeException", "java/lang/Exception"]) (A := A) hx hb hl0 hown (by decide +kernel) (by decide +kernel) (hts _ q450) (hts _ q56) hsa (vx_hat (B := Cond.castable "java/lang/IndexOutOfBoundsException" "java/lang/IndexOutOfBoundsException" :: K_de.map Cond.declares) (fun w h => hts w (lw_it0 w h)) (by decide +kernel) (hT.thr (List.mem_of_getElem? (i := 0) rfl))) (by decide +kernel) (vx_Zq.narrow hT.1.1 hAN) (vx_Zq.narrow hT.1.2 hAN) hS (by rw [hml]; exact hl.1) dX11_requireIndex_9 dX11_requireIndex_12 dX11_requireIndex_13 dX11_requireIndex_16 dX11_requireIndex_19 (fun x_ h_ => (hno x_ h_).elim) (Nat.le_of_ble_eq_true rfl) (Nat.le_of_ble_eq_true rfl) (Nat.le_of_ble_eq_true rfl) (Nat.le_of_ble_eq_true rfl) hlocks (fun t ht h1 h2 => ⟨"java/lang/IndexOutOfBoundsException", ⟨rfl, trivial⟩, rfl, ⟨Nat.le_trans hS.1 h1, fun q_ hq_ hn_ => (h2 q_ (Nat.lt_of_lt_of_le hq_ hS.1)).trans (hS.2.1 q_ hq_ hn_)⟩⟩) hS.2.2 (Nat.le_of_ble_eq_true rfl) (Nat.le_of_ble_eq_true rfl)

set_option maxHeartbeats 4000000 in
set_option maxRecDepth 100000 in
theorem c_requireAirport (l : Launch) (hl0 : l.stackTraces = false) (G : va_G) (N0 ade : Nat) (adB : Nat → Nat) (sz : Nat) (i : Int32) : vx_Met l yX11_requireAirport (Cond.code yX11_requireAirport cX11_requireAirport 1 none :: lw_all) ({ frames := 7, cells := 1, slots := 6, locals := 121 }) (va_Pc [.int i] (KPre N0 ade adB G [] [] sz)) (va_Qv (fun (u : Unit) => (¬ (i < 0 ∨ ¬ i < 4))) (KB G (fun (u : Unit) => []) (fun (u : Unit) => []) (va_A [] sz)) (va_A [] sz)) (KX (fun E => E = "java/lang/IndexOutOfBoundsException" ∧ (i < 0 ∨ ¬ i < 4)) (va_A [] sz)) 1 6 (va_A [] sz) := by
  refine K_ofX (Qc := fun A => va_Qv (fun (u : Unit) => (¬ (i < 0 ∨ ¬ i < 4))) (KB G (fun (u : Unit) => []) (fun (u : Unit) => []) A) A) (px := (fun E => E = "java/lang/IndexOutOfBoundsException" ∧ (i < 0 ∨ ¬ i < 4))) (by decide) (Nat.le_of_ble_eq_true rfl) rfl (fun p e s m args below meth c hx hb hr hml hown hlocks hin hts hno A hAN hA H hH hP hD hK hT hN hS ls hl => ?_)
  have hl : lv_has ls 1 [(0, .int i)] := hl
  refine lv_iload_n hx hb dX11_requireAirport_0 rfl (lv_at hl 0 rfl) ?_
  refine lv_iconst (v := 4) hx hb dX11_requireAirport_1 (by decide) ?_
  refine kx_v (vx_runS (As := [.int i, .int 4]) (rest := []) ⟨hx, hb, hml, hown, hts⟩ (c_requireIndex l hl0 G N0 ade adB H.size i 4) (va_cwS 2 hts (kgS q447 q448 q36 q449) rfl rfl rfl (by decide +kernel) ⟨(Nat.le_of_ble_eq_true rfl), (Nat.le_of_ble_eq_true rfl)⟩) (kpreS hP hD hK hAN hT hN hS [] [] (by decide) rfl rfl) rfl rfl hl.1 rfl (lv_room (Nat.le_of_ble_eq_true rfl)) dX11_requireAirport_2 ⟨(Nat.le_of_ble_eq_true rfl), (Nat.le_of_ble_eq_true rfl)⟩) (ws := []) (wc := []) (wr := []) hP hD hK hS hA [] [] [] rfl rfl (by decide) (by decide) rfl (fun E ce ex9 H locs hp hP hD hS hce hcv hcl => ?_) (fun u1 H locs hw2 hP hD hK hS => ?_)
  · refine vx_widen (k := 1) (n := 6) (Nat.le_of_ble_eq_true rfl) (Nat.le_of_ble_eq_true rfl) ?_
    exact ko hno hlocks (hp) hce hcv hcl hS (Nat.le_of_ble_eq_true rfl) (Nat.le_of_ble_eq_true rfl)
  · have hP : va_P G vwCl [] H := hP
    have hD : va_D A [] := hD
    have hK : va_K G vwCl [] s := hK
    refine W.widen (k := 1) (n := 6) (Nat.le_of_ble_eq_true rfl) (Nat.le_of_ble_eq_true rfl) ?_
    have hu1 := hw2
    refine vx_ret ?_
    exact ke_v hx hb hr hlocks () (hu1) hP hD hK [] [] (by decide) rfl rfl hS (Nat.le_of_ble_eq_true rfl) (Nat.le_of_ble_eq_true rfl) dX11_requireAirport_5

set_option maxHeartbeats 4000000 in
set_option maxRecDepth 100000 in
theorem c_require_1 (l : Launch) (G : va_G) (N0 ade : Nat) (adB : Nat → Nat) (sz : Nat)  : Met l yX11_require (Cond.code yX11_require cX11_require 1 none :: lw_all) ({ frames := 0, cells := 0, slots := 0, locals := 0 }) (va_Pc [.int 1] (KPre N0 ade adB G [] [] sz)) (va_Qv (fun (u : Unit) => True) (KB G (fun (u : Unit) => []) (fun (u : Unit) => []) (va_A [] sz)) (va_A [] sz)) 0 0 (va_A [] sz) := by
  refine K_ofW (Qc := fun A => va_Qv (fun (u : Unit) => True) (KB G (fun (u : Unit) => []) (fun (u : Unit) => []) A) A) (by decide) (Nat.le_of_ble_eq_true rfl) rfl (fun p e s m args below meth c hx hb hr hml hown hlocks hin hts A hAN hA H hH hP hD hK hT hN hS ls hl => ?_)
  have hl : lv_has ls 1 [(0, .int 1)] := hl
  refine lv_iload_n hx hb dX11_require_0 rfl (lv_at hl 0 rfl) ?_
  refine lv_if_ne (tgt := 15) hx hb dX11_require_1 (by decide) (fun _ => ?_) (fun h_ => absurd h_ (by decide))
  exact ke_v hx hb hr hlocks () (trivial) hP hD hK [] [] (by decide) rfl rfl hS (Nat.le_of_ble_eq_true rfl) (Nat.le_of_ble_eq_true rfl) dX11_require_15

set_option maxHeartbeats 4000000 in
set_option maxRecDepth 100000 in
theorem c_requireSupported_1 (l : Launch) (G : va_G) (N0 ade : Nat) (adB : Nat → Nat) (sz : Nat)  : Met l yX11_requireSupported (Cond.code yX11_requireSupported cX11_requireSupported 1 none :: lw_all) ({ frames := 0, cells := 0, slots := 0, locals := 0 }) (va_Pc [.int 1] (KPre N0 ade adB G [] [] sz)) (va_Qv (fun (u : Unit) => True) (KB G (fun (u : Unit) => []) (fun (u : Unit) => []) (va_A [] sz)) (va_A [] sz)) 0 0 (va_A [] sz) := by
  refine K_ofW (Qc := fun A => va_Qv (fun (u : Unit) => True) (KB G (fun (u : Unit) => []) (fun (u : Unit) => []) A) A) (by decide) (Nat.le_of_ble_eq_true rfl) rfl (fun p e s m args below meth c hx hb hr hml hown hlocks hin hts A hAN hA H hH hP hD hK hT hN hS ls hl => ?_)
  have hl : lv_has ls 1 [(0, .int 1)] := hl
  refine lv_iload_n hx hb dX11_requireSupported_0 rfl (lv_at hl 0 rfl) ?_
  refine lv_if_ne (tgt := 15) hx hb dX11_requireSupported_1 (by decide) (fun _ => ?_) (fun h_ => absurd h_ (by decide))
  exact ke_v hx hb hr hlocks () (trivial) hP hD hK [] [] (by decide) rfl rfl hS (Nat.le_of_ble_eq_true rfl) (Nat.le_of_ble_eq_true rfl) dX11_requireSupported_15

set_option maxHeartbeats 4000000 in
set_option maxRecDepth 100000 in
theorem c_require_0 (l : Launch) (hl0 : l.stackTraces = false) (G : va_G) (N0 ade : Nat) (adB : Nat → Nat) (sz : Nat)  : vx_Met l yX11_require (Cond.code yX11_require cX11_require 1 none :: lw_all) ({ frames := 6, cells := 1, slots := 6, locals := 100 }) (va_Pc [.int 0] (KPre N0 ade adB G [] [] sz)) (va_Qv (fun (u : Unit) => False) (KB G (fun (u : Unit) => []) (fun (u : Unit) => []) (va_A [] sz)) (va_A [] sz)) (KX (fun E => E = "java/lang/IllegalArgumentException" ∧ True) (va_A [] sz)) 1 6 (va_A [] sz) := by
  refine K_ofX (Qc := fun A => va_Qv (fun (u : Unit) => False) (KB G (fun (u : Unit) => []) (fun (u : Unit) => []) A) A) (px := (fun E => E = "java/lang/IllegalArgumentException" ∧ True)) (by decide) (Nat.le_of_ble_eq_true rfl) rfl (fun p e s m args below meth c hx hb hr hml hown hlocks hin hts hno A hAN hA H hH hP hD hK hT hN hS ls hl => ?_)
  have hl : lv_has ls 1 [(0, .int 0)] := hl
  refine lv_iload_n hx hb dX11_require_0 rfl (lv_at hl 0 rfl) ?_
  refine lv_if_ne (tgt := 15) hx hb dX11_require_1 (by decide) (fun h_ => absurd h_ (by decide)) (fun _ => ?_)
  obtain ⟨sa, hsa⟩ := hT.str (List.mem_of_getElem? (i := 1) rfl)
  exact vx_throwSW (cls := "java/lang/IllegalArgumentException") (names := ["java/lang/RuntimeException", "java/lang/Exception"]) (A := A) hx hb hl0 hown (by decide +kernel) (by decide +kernel) (hts _ q459) (hts _ q59) hsa (vx_hat (B := Cond.castable "java/lang/IllegalArgumentException" "java/lang/IllegalArgumentException" :: K_de.map Cond.declares) (fun w h => hts w (lw_it1 w h)) (by decide +kernel) (hT.thr (List.mem_of_getElem? (i := 1) rfl))) (by decide +kernel) (vx_Zq.narrow hT.1.1 hAN) (vx_Zq.narrow hT.1.2 hAN) hS (by rw [hml]; exact hl.1) dX11_require_4 dX11_require_7 dX11_require_8 dX11_require_11 dX11_require_14 (fun x_ h_ => (hno x_ h_).elim) (Nat.le_of_ble_eq_true rfl) (Nat.le_of_ble_eq_true rfl) (Nat.le_of_ble_eq_true rfl) (Nat.le_of_ble_eq_true rfl) hlocks (fun t ht h1 h2 => ⟨"java/lang/IllegalArgumentException", ⟨rfl, trivial⟩, rfl, ⟨Nat.le_trans hS.1 h1, fun q_ hq_ hn_ => (h2 q_ (Nat.lt_of_lt_of_le hq_ hS.1)).trans (hS.2.1 q_ hq_ hn_)⟩⟩) hS.2.2 (Nat.le_of_ble_eq_true rfl) (Nat.le_of_ble_eq_true rfl)

set_option maxHeartbeats 4000000 in
set_option maxRecDepth 100000 in
theorem c_requireSupported_0 (l : Launch) (hl0 : l.stackTraces = false) (G : va_G) (N0 ade : Nat) (adB : Nat → Nat) (sz : Nat)  : vx_Met l yX11_requireSupported (Cond.code yX11_requireSupported cX11_requireSupported 1 none :: lw_all) ({ frames := 6, cells := 1, slots := 6, locals := 100 }) (va_Pc [.int 0] (KPre N0 ade adB G [] [] sz)) (va_Qv (fun (u : Unit) => False) (KB G (fun (u : Unit) => []) (fun (u : Unit) => []) (va_A [] sz)) (va_A [] sz)) (KX (fun E => E = "java/lang/UnsupportedOperationException" ∧ True) (va_A [] sz)) 1 6 (va_A [] sz) := by
  refine K_ofX (Qc := fun A => va_Qv (fun (u : Unit) => False) (KB G (fun (u : Unit) => []) (fun (u : Unit) => []) A) A) (px := (fun E => E = "java/lang/UnsupportedOperationException" ∧ True)) (by decide) (Nat.le_of_ble_eq_true rfl) rfl (fun p e s m args below meth c hx hb hr hml hown hlocks hin hts hno A hAN hA H hH hP hD hK hT hN hS ls hl => ?_)
  have hl : lv_has ls 1 [(0, .int 0)] := hl
  refine lv_iload_n hx hb dX11_requireSupported_0 rfl (lv_at hl 0 rfl) ?_
  refine lv_if_ne (tgt := 15) hx hb dX11_requireSupported_1 (by decide) (fun h_ => absurd h_ (by decide)) (fun _ => ?_)
  obtain ⟨sa, hsa⟩ := hT.str (List.mem_of_getElem? (i := 2) rfl)
  exact vx_throwSW (cls := "java/lang/UnsupportedOperationException") (names := ["java/lang/RuntimeException", "java/lang/Exception"]) (A := A) hx hb hl0 hown (by decide +kernel) (by decide +kernel) (hts _ q539) (hts _ q72) hsa (vx_hat (B := Cond.castable "java/lang/UnsupportedOperationException" "java/lang/UnsupportedOperationException" :: K_de.map Cond.declares) (fun w h => hts w (lw_it2 w h)) (by decide +kernel) (hT.thr (List.mem_of_getElem? (i := 2) rfl))) (by decide +kernel) (vx_Zq.narrow hT.1.1 hAN) (vx_Zq.narrow hT.1.2 hAN) hS (by rw [hml]; exact hl.1) dX11_requireSupported_4 dX11_requireSupported_7 dX11_requireSupported_8 dX11_requireSupported_11 dX11_requireSupported_14 (fun x_ h_ => (hno x_ h_).elim) (Nat.le_of_ble_eq_true rfl) (Nat.le_of_ble_eq_true rfl) (Nat.le_of_ble_eq_true rfl) (Nat.le_of_ble_eq_true rfl) hlocks (fun t ht h1 h2 => ⟨"java/lang/UnsupportedOperationException", ⟨rfl, trivial⟩, rfl, ⟨Nat.le_trans hS.1 h1, fun q_ hq_ hn_ => (h2 q_ (Nat.lt_of_lt_of_le hq_ hS.1)).trans (hS.2.1 q_ hq_ hn_)⟩⟩) hS.2.2 (Nat.le_of_ble_eq_true rfl) (Nat.le_of_ble_eq_true rfl)

set_option maxHeartbeats 4000000 in
set_option maxRecDepth 100000 in
theorem c_require (l : Launch) (hl0 : l.stackTraces = false) (G : va_G) (N0 ade : Nat) (adB : Nat → Nat) (sz : Nat) (b : Int32) : vx_Met l yX11_require (Cond.code yX11_require cX11_require 1 none :: lw_all) ({ frames := 6, cells := 1, slots := 6, locals := 100 }) (va_Pc [.int b] (KPre N0 ade adB G [] [] sz)) (va_Qv (fun (u : Unit) => (¬ b = 0)) (KB G (fun (u : Unit) => []) (fun (u : Unit) => []) (va_A [] sz)) (va_A [] sz)) (KX (fun E => E = "java/lang/IllegalArgumentException" ∧ b = 0) (va_A [] sz)) 1 6 (va_A [] sz) := by
  refine K_ofX (Qc := fun A => va_Qv (fun (u : Unit) => (¬ b = 0)) (KB G (fun (u : Unit) => []) (fun (u : Unit) => []) A) A) (px := (fun E => E = "java/lang/IllegalArgumentException" ∧ b = 0)) (by decide) (Nat.le_of_ble_eq_true rfl) rfl (fun p e s m args below meth c hx hb hr hml hown hlocks hin hts hno A hAN hA H hH hP hD hK hT hN hS ls hl => ?_)
  have hl : lv_has ls 1 [(0, .int b)] := hl
  refine lv_iload_n hx hb dX11_require_0 rfl (lv_at hl 0 rfl) ?_
  refine lv_if_ne (tgt := 15) hx hb dX11_require_1 (by decide) (fun c_1 => ?_) (fun c_1 => ?_)
  · refine vx_ret ?_
    exact ke_v hx hb hr hlocks () (c_1) hP hD hK [] [] (by decide) rfl rfl hS (Nat.le_of_ble_eq_true rfl) (Nat.le_of_ble_eq_true rfl) dX11_require_15
  · obtain ⟨sa, hsa⟩ := hT.str (List.mem_of_getElem? (i := 1) rfl)
    exact vx_throwSW (cls := "java/lang/IllegalArgumentException") (names := ["java/lang/RuntimeException", "java/lang/Exception"]) (A := A) hx hb hl0 hown (by decide +kernel) (by decide +kernel) (hts _ q459) (hts _ q59) hsa (vx_hat (B := Cond.castable "java/lang/IllegalArgumentException" "java/lang/IllegalArgumentException" :: K_de.map Cond.declares) (fun w h => hts w (lw_it1 w h)) (by decide +kernel) (hT.thr (List.mem_of_getElem? (i := 1) rfl))) (by decide +kernel) (vx_Zq.narrow hT.1.1 hAN) (vx_Zq.narrow hT.1.2 hAN) hS (by rw [hml]; exact hl.1) dX11_require_4 dX11_require_7 dX11_require_8 dX11_require_11 dX11_require_14 (fun x_ h_ => (hno x_ h_).elim) (Nat.le_of_ble_eq_true rfl) (Nat.le_of_ble_eq_true rfl) (Nat.le_of_ble_eq_true rfl) (Nat.le_of_ble_eq_true rfl) hlocks (fun t ht h1 h2 => ⟨"java/lang/IllegalArgumentException", ⟨rfl, c_1⟩, rfl, ⟨Nat.le_trans hS.1 h1, fun q_ hq_ hn_ => (h2 q_ (Nat.lt_of_lt_of_le hq_ hS.1)).trans (hS.2.1 q_ hq_ hn_)⟩⟩) hS.2.2 (Nat.le_of_ble_eq_true rfl) (Nat.le_of_ble_eq_true rfl)

set_option maxHeartbeats 4000000 in
set_option maxRecDepth 100000 in
theorem c_requireRoom_5 (l : Launch) (G : va_G) (N0 ade : Nat) (adB : Nat → Nat) (sz : Nat)  : Met l yX11_requireRoom (Cond.code yX11_requireRoom cX11_requireRoom 2 none :: lw_all) ({ frames := 0, cells := 0, slots := 0, locals := 0 }) (va_Pc [.int 0, .int 5] (KPre N0 ade adB G [] [] sz)) (va_Qv (fun (u : Unit) => True) (KB G (fun (u : Unit) => []) (fun (u : Unit) => []) (va_A [] sz)) (va_A [] sz)) 0 0 (va_A [] sz) := by
  refine K_ofW (Qc := fun A => va_Qv (fun (u : Unit) => True) (KB G (fun (u : Unit) => []) (fun (u : Unit) => []) A) A) (by decide) (Nat.le_of_ble_eq_true rfl) rfl (fun p e s m args below meth c hx hb hr hml hown hlocks hin hts A hAN hA H hH hP hD hK hT hN hS ls hl => ?_)
  have hl : lv_has ls 2 [(0, .int 0), (1, .int 5)] := hl
  refine lv_iload_n hx hb dX11_requireRoom_0 rfl (lv_at hl 0 rfl) ?_
  refine lv_iload_n hx hb dX11_requireRoom_1 rfl (lv_at hl 1 rfl) ?_
  refine lv_icmp_lt (tgt := 16) hx hb dX11_requireRoom_2 (by decide) (fun _ => ?_) (fun h_ => absurd h_ (by decide))
  exact ke_v hx hb hr hlocks () (trivial) hP hD hK [] [] (by decide) rfl rfl hS (Nat.le_of_ble_eq_true rfl) (Nat.le_of_ble_eq_true rfl) dX11_requireRoom_16

set_option maxHeartbeats 4000000 in
set_option maxRecDepth 100000 in
theorem c_requireRoom_6 (l : Launch) (G : va_G) (N0 ade : Nat) (adB : Nat → Nat) (sz : Nat)  : Met l yX11_requireRoom (Cond.code yX11_requireRoom cX11_requireRoom 2 none :: lw_all) ({ frames := 0, cells := 0, slots := 0, locals := 0 }) (va_Pc [.int 0, .int 6] (KPre N0 ade adB G [] [] sz)) (va_Qv (fun (u : Unit) => True) (KB G (fun (u : Unit) => []) (fun (u : Unit) => []) (va_A [] sz)) (va_A [] sz)) 0 0 (va_A [] sz) := by
  refine K_ofW (Qc := fun A => va_Qv (fun (u : Unit) => True) (KB G (fun (u : Unit) => []) (fun (u : Unit) => []) A) A) (by decide) (Nat.le_of_ble_eq_true rfl) rfl (fun p e s m args below meth c hx hb hr hml hown hlocks hin hts A hAN hA H hH hP hD hK hT hN hS ls hl => ?_)
  have hl : lv_has ls 2 [(0, .int 0), (1, .int 6)] := hl
  refine lv_iload_n hx hb dX11_requireRoom_0 rfl (lv_at hl 0 rfl) ?_
  refine lv_iload_n hx hb dX11_requireRoom_1 rfl (lv_at hl 1 rfl) ?_
  refine lv_icmp_lt (tgt := 16) hx hb dX11_requireRoom_2 (by decide) (fun _ => ?_) (fun h_ => absurd h_ (by decide))
  exact ke_v hx hb hr hlocks () (trivial) hP hD hK [] [] (by decide) rfl rfl hS (Nat.le_of_ble_eq_true rfl) (Nat.le_of_ble_eq_true rfl) dX11_requireRoom_16

set_option maxHeartbeats 4000000 in
set_option maxRecDepth 100000 in
theorem c_requireRoom_3 (l : Launch) (G : va_G) (N0 ade : Nat) (adB : Nat → Nat) (sz : Nat)  : Met l yX11_requireRoom (Cond.code yX11_requireRoom cX11_requireRoom 2 none :: lw_all) ({ frames := 0, cells := 0, slots := 0, locals := 0 }) (va_Pc [.int 0, .int 3] (KPre N0 ade adB G [] [] sz)) (va_Qv (fun (u : Unit) => True) (KB G (fun (u : Unit) => []) (fun (u : Unit) => []) (va_A [] sz)) (va_A [] sz)) 0 0 (va_A [] sz) := by
  refine K_ofW (Qc := fun A => va_Qv (fun (u : Unit) => True) (KB G (fun (u : Unit) => []) (fun (u : Unit) => []) A) A) (by decide) (Nat.le_of_ble_eq_true rfl) rfl (fun p e s m args below meth c hx hb hr hml hown hlocks hin hts A hAN hA H hH hP hD hK hT hN hS ls hl => ?_)
  have hl : lv_has ls 2 [(0, .int 0), (1, .int 3)] := hl
  refine lv_iload_n hx hb dX11_requireRoom_0 rfl (lv_at hl 0 rfl) ?_
  refine lv_iload_n hx hb dX11_requireRoom_1 rfl (lv_at hl 1 rfl) ?_
  refine lv_icmp_lt (tgt := 16) hx hb dX11_requireRoom_2 (by decide) (fun _ => ?_) (fun h_ => absurd h_ (by decide))
  exact ke_v hx hb hr hlocks () (trivial) hP hD hK [] [] (by decide) rfl rfl hS (Nat.le_of_ble_eq_true rfl) (Nat.le_of_ble_eq_true rfl) dX11_requireRoom_16

set_option maxHeartbeats 4000000 in
set_option maxRecDepth 100000 in
theorem c_requireSome_0 (l : Launch) (hl0 : l.stackTraces = false) (G : va_G) (N0 ade : Nat) (adB : Nat → Nat) (sz : Nat)  : vx_Met l yX11_requireSome (Cond.code yX11_requireSome cX11_requireSome 1 none :: lw_all) ({ frames := 6, cells := 1, slots := 6, locals := 100 }) (va_Pc [.int 0] (KPre N0 ade adB G [] [] sz)) (va_Qv (fun (u : Unit) => False) (KB G (fun (u : Unit) => []) (fun (u : Unit) => []) (va_A [] sz)) (va_A [] sz)) (KX (fun E => E = "java/lang/ArithmeticException" ∧ True) (va_A [] sz)) 1 6 (va_A [] sz) := by
  refine K_ofX (Qc := fun A => va_Qv (fun (u : Unit) => False) (KB G (fun (u : Unit) => []) (fun (u : Unit) => []) A) A) (px := (fun E => E = "java/lang/ArithmeticException" ∧ True)) (by decide) (Nat.le_of_ble_eq_true rfl) rfl (fun p e s m args below meth c hx hb hr hml hown hlocks hin hts hno A hAN hA H hH hP hD hK hT hN hS ls hl => ?_)
  have hl : lv_has ls 1 [(0, .int 0)] := hl
  refine lv_iload_n hx hb dX11_requireSome_0 rfl (lv_at hl 0 rfl) ?_
  refine lv_iconst (v := 1) hx hb dX11_requireSome_1 (by decide) ?_
  refine lv_icmp_ge (tgt := 16) hx hb dX11_requireSome_2 (by decide) (fun h_ => absurd h_ (by decide)) (fun _ => ?_)
  obtain ⟨sa, hsa⟩ := hT.str (List.mem_of_getElem? (i := 3) rfl)
  exact vx_throwSW (cls := "java/lang/ArithmeticException") (names := ["java/lang/RuntimeException", "java/lang/Exception"]) (A := A) hx hb hl0 hown (by decide +kernel) (by decide +kernel) (hts _ q699) (hts _ q84) hsa (vx_hat (B := Cond.castable "java/lang/ArithmeticException" "java/lang/ArithmeticException" :: K_de.map Cond.declares) (fun w h => hts w (lw_it3 w h)) (by decide +kernel) (hT.thr (List.mem_of_getElem? (i := 3) rfl))) (by decide +kernel) (vx_Zq.narrow hT.1.1 hAN) (vx_Zq.narrow hT.1.2 hAN) hS (by rw [hml]; exact hl.1) dX11_requireSome_5 dX11_requireSome_8 dX11_requireSome_9 dX11_requireSome_12 dX11_requireSome_15 (fun x_ h_ => (hno x_ h_).elim) (Nat.le_of_ble_eq_true rfl) (Nat.le_of_ble_eq_true rfl) (Nat.le_of_ble_eq_true rfl) (Nat.le_of_ble_eq_true rfl) hlocks (fun t ht h1 h2 => ⟨"java/lang/ArithmeticException", ⟨rfl, trivial⟩, rfl, ⟨Nat.le_trans hS.1 h1, fun q_ hq_ hn_ => (h2 q_ (Nat.lt_of_lt_of_le hq_ hS.1)).trans (hS.2.1 q_ hq_ hn_)⟩⟩) hS.2.2 (Nat.le_of_ble_eq_true rfl) (Nat.le_of_ble_eq_true rfl)

set_option maxHeartbeats 4000000 in
set_option maxRecDepth 100000 in
theorem c_bitCount_0 (l : Launch) (G : va_G) (N0 ade : Nat) (adB : Nat → Nat) (sz : Nat)  : Met l yJ6_bitCount_0f7a4 (Cond.code yJ6_bitCount_0f7a4 cJ6_bitCount_0f7a4 1 (some FieldType.int) :: lw_all) ({ frames := 0, cells := 0, slots := 0, locals := 0 }) (va_Pc [.int 0] (KPre N0 ade adB G [] [] sz)) (va_Qi (fun (r : Int32) (u : Unit) => r = 0) (KB G (fun (u : Unit) => []) (fun (u : Unit) => []) (va_A [] sz)) (va_A [] sz)) 0 0 (va_A [] sz) := by
  refine K_ofW (Qc := fun A => va_Qi (fun (r : Int32) (u : Unit) => r = 0) (KB G (fun (u : Unit) => []) (fun (u : Unit) => []) A) A) (by decide) (Nat.le_of_ble_eq_true rfl) rfl (fun p e s m args below meth c hx hb hr hml hown hlocks hin hts A hAN hA H hH hP hD hK hT hN hS ls hl => ?_)
  have hl : lv_has ls 1 [(0, .int 0)] := hl
  refine lv_iload_n hx hb dJ6_bitCount_0f7a4_0 rfl (lv_at hl 0 rfl) ?_
  refine lv_iload_n hx hb dJ6_bitCount_0f7a4_1 rfl (lv_at hl 0 rfl) ?_
  refine lv_iconst (v := 1) hx hb dJ6_bitCount_0f7a4_2 (by decide) ?_
  refine lv_iushr (v := 0) hx hb dJ6_bitCount_0f7a4_3 (by decide) ?_
  refine lv_ldcw hx hb hown (hts _ q675) dJ6_bitCount_0f7a4_4 ?_
  refine lv_iand hx hb dJ6_bitCount_0f7a4_7 ?_
  refine lv_topi (fun v_ e_ => ?_)
  obtain rfl : v_ = 0 := e_.trans (by decide)
  refine lv_isub hx hb dJ6_bitCount_0f7a4_8 ?_
  refine lv_topi (fun v_ e_ => ?_)
  obtain rfl : v_ = 0 := e_.trans (by decide)
  refine lv_istore_n (lv' := [(0, .int 0)]) hx hb dJ6_bitCount_0f7a4_9 rfl hl (by decide) rfl (fun ls hl => ?_)
  refine lv_iload_n hx hb dJ6_bitCount_0f7a4_10 rfl (lv_at hl 0 rfl) ?_
  refine lv_ldcw hx hb hown (hts _ q676) dJ6_bitCount_0f7a4_11 ?_
  refine lv_iand hx hb dJ6_bitCount_0f7a4_14 ?_
  refine lv_topi (fun v_ e_ => ?_)
  obtain rfl : v_ = 0 := e_.trans (by decide)
  refine lv_iload_n hx hb dJ6_bitCount_0f7a4_15 rfl (lv_at hl 0 rfl) ?_
  refine lv_iconst (v := 2) hx hb dJ6_bitCount_0f7a4_16 (by decide) ?_
  refine lv_iushr (v := 0) hx hb dJ6_bitCount_0f7a4_17 (by decide) ?_
  refine W.eq (g2 := F0 m 18 ls [.int 0, .int 0]) rfl ?_
  refine lv_ldcw hx hb hown (hts _ q676) dJ6_bitCount_0f7a4_18 ?_
  refine lv_iand hx hb dJ6_bitCount_0f7a4_21 ?_
  refine lv_topi (fun v_ e_ => ?_)
  obtain rfl : v_ = 0 := e_.trans (by decide)
  refine lv_iadd hx hb dJ6_bitCount_0f7a4_22 ?_
  refine lv_topi (fun v_ e_ => ?_)
  obtain rfl : v_ = 0 := e_.trans (by decide)
  refine lv_istore_n (lv' := [(0, .int 0)]) hx hb dJ6_bitCount_0f7a4_23 rfl hl (by decide) rfl (fun ls hl => ?_)
  refine lv_iload_n hx hb dJ6_bitCount_0f7a4_24 rfl (lv_at hl 0 rfl) ?_
  refine lv_iload_n hx hb dJ6_bitCount_0f7a4_25 rfl (lv_at hl 0 rfl) ?_
  refine lv_iconst (v := 4) hx hb dJ6_bitCount_0f7a4_26 (by decide) ?_
  refine lv_iushr (v := 0) hx hb dJ6_bitCount_0f7a4_27 (by decide) ?_
  refine lv_iadd hx hb dJ6_bitCount_0f7a4_28 ?_
  refine lv_topi (fun v_ e_ => ?_)
  obtain rfl : v_ = 0 := e_.trans (by decide)
  refine lv_ldcw hx hb hown (hts _ q677) dJ6_bitCount_0f7a4_29 ?_
  refine lv_iand hx hb dJ6_bitCount_0f7a4_32 ?_
  refine lv_topi (fun v_ e_ => ?_)
  obtain rfl : v_ = 0 := e_.trans (by decide)
  refine lv_istore_n (lv' := [(0, .int 0)]) hx hb dJ6_bitCount_0f7a4_33 rfl hl (by decide) rfl (fun ls hl => ?_)
  refine lv_iload_n hx hb dJ6_bitCount_0f7a4_34 rfl (lv_at hl 0 rfl) ?_
  refine lv_iload_n hx hb dJ6_bitCount_0f7a4_35 rfl (lv_at hl 0 rfl) ?_
  refine lv_bipush (v := 8) hx hb dJ6_bitCount_0f7a4_36 (by decide) ?_
  refine W.eq (g2 := F0 m 38 ls [.int 8, .int 0, .int 0]) rfl ?_
  refine lv_iushr (v := 0) hx hb dJ6_bitCount_0f7a4_38 (by decide) ?_
  refine lv_iadd hx hb dJ6_bitCount_0f7a4_39 ?_
  refine lv_topi (fun v_ e_ => ?_)
  obtain rfl : v_ = 0 := e_.trans (by decide)
  refine lv_istore_n (lv' := [(0, .int 0)]) hx hb dJ6_bitCount_0f7a4_40 rfl hl (by decide) rfl (fun ls hl => ?_)
  refine lv_iload_n hx hb dJ6_bitCount_0f7a4_41 rfl (lv_at hl 0 rfl) ?_
  refine lv_iload_n hx hb dJ6_bitCount_0f7a4_42 rfl (lv_at hl 0 rfl) ?_
  refine lv_bipush (v := 16) hx hb dJ6_bitCount_0f7a4_43 (by decide) ?_
  refine lv_iushr (v := 0) hx hb dJ6_bitCount_0f7a4_45 (by decide) ?_
  refine lv_iadd hx hb dJ6_bitCount_0f7a4_46 ?_
  refine lv_topi (fun v_ e_ => ?_)
  obtain rfl : v_ = 0 := e_.trans (by decide)
  refine lv_istore_n (lv' := [(0, .int 0)]) hx hb dJ6_bitCount_0f7a4_47 rfl hl (by decide) rfl (fun ls hl => ?_)
  refine lv_iload_n hx hb dJ6_bitCount_0f7a4_48 rfl (lv_at hl 0 rfl) ?_
  refine lv_bipush (v := 63) hx hb dJ6_bitCount_0f7a4_49 (by decide) ?_
  refine lv_iand hx hb dJ6_bitCount_0f7a4_51 ?_
  refine lv_topi (fun v_ e_ => ?_)
  obtain rfl : v_ = 0 := e_.trans (by decide)
  exact ke_i (v := 0) hx hb hr hlocks rfl () (rfl) hP hD hK [] [] (by decide) rfl rfl hS (Nat.le_of_ble_eq_true rfl) (Nat.le_of_ble_eq_true rfl) dJ6_bitCount_0f7a4_52

set_option maxHeartbeats 4000000 in
set_option maxRecDepth 100000 in
/-- Arrays.fill(int[], int): every place holds the value -/
theorem c_fill (l : Launch) (G : va_G) (N0 ade : Nat) (adB : Nat → Nat) (sz : Nat) (q0 n : Nat) (a0 : ClassId) (f : Nat → Int32) (v : Int32) (hn : n < 2147483648) : Met l yJ7_fill_53178 (Cond.code yJ7_fill_53178 cJ7_fill_53178 4 none :: lw_all) ({ frames := 0, cells := 0, slots := 0, locals := 0 }) (va_Pc [.ref q0, .int v] (KPre N0 ade adB G [(a0, .int)] [(q0, .inl (a0, n, .inl f))] sz)) (va_Qv (fun (u : Nat → Int32) => ∀ j : Nat, j < n → u j = v) (KB G (fun (u : Nat → Int32) => [(q0, .inl (a0, n, .inl u))]) (fun (u : Nat → Int32) => [(a0, .int)]) (va_A [(q0, .inl (a0, n, .inl f))] sz)) (va_A [(q0, .inl (a0, n, .inl f))] sz)) 0 0 (va_A [(q0, .inl (a0, n, .inl f))] sz) := by
  refine K_ofW (Qc := fun A => va_Qv (fun (u : Nat → Int32) => ∀ j : Nat, j < n → u j = v) (KB G (fun (u : Nat → Int32) => [(q0, .inl (a0, n, .inl u))]) (fun (u : Nat → Int32) => [(a0, .int)]) A) A) (by decide) (Nat.le_of_ble_eq_true rfl) rfl (fun p e s m args below meth c hx hb hr hml hown hlocks hin hts A hAN hA H hH hP hD hK hT hN hS ls hl => ?_)
  have hl : lv_has ls 4 [(0, .ref q0), (1, .int v)] := hl
  refine lv_iconst (v := 0) hx hb dJ7_fill_53178_0 (by decide) ?_
  refine lv_istore_n (lv' := [(2, .int 0), (0, .ref q0), (1, .int v)]) hx hb dJ7_fill_53178_1 rfl hl (by decide) rfl (fun ls hl => ?_)
  refine lv_aload_n hx hb dJ7_fill_53178_2 rfl (lv_at hl 1 rfl) ?_
  refine va_alen hx hb hK hP 0 0 rfl rfl (v := nI n) rfl dJ7_fill_53178_3 ?_
  refine lv_istore_n (lv' := [(3, .int (nI n)), (2, .int 0), (0, .ref q0), (1, .int v)]) hx hb dJ7_fill_53178_4 rfl hl (by decide) rfl (fun ls hl => ?_)
  suffices loop : ∀ (k i : Nat) (g : Nat → Int32), k + i = n → (∀ j : Nat, j < i → g j = v) → ∀ (H : Heap) (locs : List Loc), va_P G vwCl [(q0, .inl (a0, n, .inl g))] H → va_D A [(q0, .inl (a0, n, .inl g))] → va_S A s.heap H locs → ∀ ls : Array Slot, lv_has ls 4 [(3, .int (nI n)), (2, .int (nI i)), (0, .ref q0), (1, .int v)] → W p l e ({ frames := 0, cells := 0, slots := 0, locals := 0 }) s m args below meth c H locs 0 0 (MQ below (va_Qv (fun (u : Nat → Int32) => ∀ j : Nat, j < n → u j = v) (KB G (fun (u : Nat → Int32) => [(q0, .inl (a0, n, .inl u))]) (fun (u : Nat → Int32) => [(a0, .int)]) A) A) args s 0 0 A) (F0 m 5 ls []) from loop n 0 f rfl (fun j hj => absurd hj (Nat.not_lt_zero j)) _ _ hP hD hS _ hl
  intro k
  induction k with
  | zero =>
    intro i g hk hg H locs hP hD hS ls hl
    have hin2 : i = n := by omega
    subst hin2
    refine lv_iload_n hx hb dJ7_fill_53178_5 rfl (lv_at hl 1 rfl) ?_
    refine lv_iload_n hx hb dJ7_fill_53178_6 rfl (lv_at hl 0 rfl) ?_
    refine lv_icmp_ge (tgt := 20) hx hb dJ7_fill_53178_7 (by decide) (fun _ => ?_) (fun h_ => absurd (nI_le (Nat.le_refl _) hn) h_)
    exact ke_v hx hb hr hlocks g hg hP hD hK [0] [0] (by decide) rfl rfl hS (Nat.le_of_ble_eq_true rfl) (Nat.le_of_ble_eq_true rfl) dJ7_fill_53178_20
  | succ k ih =>
    intro i g hk hg H locs hP hD hS ls hl
    have hlt : i < n := by omega
    refine lv_iload_n hx hb dJ7_fill_53178_5 rfl (lv_at hl 1 rfl) ?_
    refine lv_iload_n hx hb dJ7_fill_53178_6 rfl (lv_at hl 0 rfl) ?_
    refine lv_icmp_ge (tgt := 20) hx hb dJ7_fill_53178_7 (by decide) (fun h_ => absurd h_ (nI_ge hlt hn)) (fun _ => ?_)
    refine lv_aload_n hx hb dJ7_fill_53178_10 rfl (lv_at hl 2 rfl) ?_
    refine lv_iload_n hx hb dJ7_fill_53178_11 rfl (lv_at hl 1 rfl) ?_
    refine lv_iload_n hx hb dJ7_fill_53178_12 rfl (lv_at hl 3 rfl) ?_
    refine va_iast hx hb hK hP hD hS 0 0 rfl rfl (vp_in_nI hlt hn) dJ7_fill_53178_13 (fun H locs hP hD hS => ?_)
    refine lv_iinc (v := nI (i + 1)) (lv' := [(2, .int (nI (i + 1))), (3, .int (nI n)), (0, .ref q0), (1, .int v)]) hx hb dJ7_fill_53178_14 hl (k := 1) rfl (by rw [show Int32.ofInt 1 = 1 from by decide]; exact nI_1 i) (by decide) rfl (fun ls hl => ?_)
    refine lv_goto (tgt := 5) hx hb dJ7_fill_53178_17 (by decide) ?_
    refine ih (i + 1) (upd g (nI i).toNatClampNeg v) (by omega) (fun j hj => ?_) _ _ hP hD hS _ (lv_sub hl [1, 0, 2, 3] rfl)
    rw [nI_clamp (Nat.lt_trans hlt hn)]
    by_cases ej : j = i
    · subst ej
      exact pk_us
    · rw [pk_un ej]
      exact hg j (by omega)
